def zTk (col lef : Nat → Int32) (v : Int32) (cnt : Nat) : Nat → Int32 := zPutN 16 lef (zIu col lef v 0 cnt) (zAtN 16 lef (zIu col lef v 0 cnt) - 1)
def zGb (lef : Nat → Int32) (i : Int32) : Nat → Int32 := zPutN 16 lef i (zAtN 16 lef i + 1)

set_option maxHeartbeats 4000000 in
set_option maxRecDepth 100000 in
theorem c_take {G : zT} {c r w lim cnt : Nat} {tol : Int32} {cart wov lot sew mis col len lef sbt : Nat → Int32} {shd : Nat → UInt32} {X : zXr} {Y : zYr} {out : Nat → Int64} (hG : zAl G = false) (hc : c ≤ 20) (hr : r ≤ 16) (hw : w ≤ r) (hn : cnt ≤ 16) (v : Int32) : zRun G mX5_take 0 0 [.ref 12, .int v] (zHp (c, r, w, lim, tol, cart, wov, lot, sew, mis, cnt, col, len, lef, sbt, shd) X Y out) (.inr (some (.int (zIu col lef v 0 cnt)))) (zHp (c, r, w, lim, tol, cart, wov, lot, sew, mis, cnt, col, len, zTk col lef v cnt, sbt, shd) X Y out) := by
  refine zRun_of (by decide +kernel) rfl rfl (Nat.le_of_ble_eq_true rfl) ?_
  suffices hs : ∀ (o9 : zO) (h9 : zH), (Sum.inr (some (.int (zIu col lef v 0 cnt))) : zO) = o9 → (zHp (c, r, w, lim, tol, cart, wov, lot, sew, mis, cnt, col, len, zTk col lef v cnt, sbt, shd) X Y out) = h9 → zPW G mX5_take 0 0 o9 h9 0 0 0 [(0, .ref 12), (1, .int v)] [] (zHp (c, r, w, lim, tol, cart, wov, lot, sew, mis, cnt, col, len, lef, sbt, shd) X Y out) from hs _ _ rfl rfl
  intro o9 h9 ho9 hh9
  refine z_aload_n 0 dX5_take_0 rfl rfl ?_
  refine z_iload_n 1 dX5_take_1 rfl rfl ?_
  refine z_callV (N := mX5_inUse) 1 [.int v] [] lX5_inUse ⟨zw_708, zw_709, zw_710⟩ rfl rfl rfl rfl (Nat.le_of_ble_eq_true rfl) (by decide) ⟨zlt, zlt⟩ ⟨Nat.zero_le _, Nat.zero_le _⟩ (fun _ => rfl) (c_lInUse hG hc hr hw hn v) dX5_take_2 ?_
  refine z_istore_n (lv' := [(2, .int (zIu col lef v 0 cnt)), (0, .ref 12), (1, .int v)]) dX5_take_5 rfl (by decide) rfl ?_
  refine z_aload_n 1 dX5_take_6 rfl rfl ?_
  refine z_get (v := .ref 17) 3 rfl rfl inX5 (by decide) zw_184 rfl rfl dX5_take_7 ?_
  refine z_iload_n 0 dX5_take_10 rfl rfl ?_
  refine z_aload_n 1 dX5_take_11 rfl rfl ?_
  refine z_get (v := .ref 17) 3 rfl rfl inX5 (by decide) zw_184 rfl rfl dX5_take_12 ?_
  refine z_iload_n 0 dX5_take_15 rfl rfl ?_
  refine z_callV (N := mX6_at) 1 [.int (zIu col lef v 0 cnt)] [.int (zIu col lef v 0 cnt), .ref 17] lX6_at ⟨zw_382, zw_383, zw_384⟩ rfl rfl rfl rfl (Nat.le_of_ble_eq_true rfl) (by decide) ⟨zlt, zlt⟩ ⟨Nat.zero_le _, Nat.zero_le _⟩ (fun _ => rfl) (c_nAt (g := 17) (v := 18) (n := 16) (f := lef) (by omega) zlt rfl rfl (zIu col lef v 0 cnt)) dX5_take_16 ?_
  refine z_iconst (v := 1) dX5_take_19 (by decide) ?_
  refine z_isub dX5_take_20 ?_
  refine z_callV (N := mX6_put) 2 [.int (zIu col lef v 0 cnt), .int ((zAtN 16 lef (zIu col lef v 0 cnt)) - 1)] [] lX6_put ⟨zw_675, zw_525, zw_526⟩ rfl rfl rfl rfl (Nat.le_of_ble_eq_true rfl) (by decide) ⟨zlt, zlt⟩ ⟨Nat.zero_le _, Nat.zero_le _⟩ (fun _ => rfl) (c_nPut (g := 17) (v := 18) (n := 16) (f := lef) (h1 := (zHp (c, r, w, lim, tol, cart, wov, lot, sew, mis, cnt, col, len, (zPutN 16 lef (zIu col lef v 0 cnt) ((zAtN 16 lef (zIu col lef v 0 cnt)) - 1)), sbt, shd) X Y out)) (by omega) zlt rfl rfl (zIu col lef v 0 cnt) ((zAtN 16 lef (zIu col lef v 0 cnt)) - 1) rfl) dX5_take_21 ?_
  refine z_iload_n 0 dX5_take_24 rfl rfl ?_
  exact z_iret rfl dX5_take_25 (zo_i ho9 (by rfl)) (zo_h hh9 (by rfl)) (Nat.zero_le _) (Nat.zero_le _)

set_option maxHeartbeats 4000000 in
set_option maxRecDepth 100000 in
theorem c_giveBack {G : zT} {c r w lim cnt : Nat} {tol : Int32} {cart wov lot sew mis col len lef sbt : Nat → Int32} {shd : Nat → UInt32} {X : zXr} {Y : zYr} {out : Nat → Int64} (hG : zAl G = false) (hc : c ≤ 20) (hr : r ≤ 16) (hw : w ≤ r) (hn : cnt ≤ 16) (i : Int32) : zRun G mX5_giveBack 0 0 [.ref 12, .int i] (zHp (c, r, w, lim, tol, cart, wov, lot, sew, mis, cnt, col, len, lef, sbt, shd) X Y out) (.inr none) (zHp (c, r, w, lim, tol, cart, wov, lot, sew, mis, cnt, col, len, zGb lef i, sbt, shd) X Y out) := by
  refine zRun_of (by decide +kernel) rfl rfl (Nat.le_of_ble_eq_true rfl) ?_
  suffices hs : ∀ (o9 : zO) (h9 : zH), (Sum.inr none : zO) = o9 → (zHp (c, r, w, lim, tol, cart, wov, lot, sew, mis, cnt, col, len, zGb lef i, sbt, shd) X Y out) = h9 → zPW G mX5_giveBack 0 0 o9 h9 0 0 0 [(0, .ref 12), (1, .int i)] [] (zHp (c, r, w, lim, tol, cart, wov, lot, sew, mis, cnt, col, len, lef, sbt, shd) X Y out) from hs _ _ rfl rfl
  intro o9 h9 ho9 hh9
  refine z_aload_n 0 dX5_giveBack_0 rfl rfl ?_
  refine z_get (v := .ref 17) 3 rfl rfl inX5 (by decide) zw_184 rfl rfl dX5_giveBack_1 ?_
  refine z_iload_n 1 dX5_giveBack_4 rfl rfl ?_
  refine z_aload_n 0 dX5_giveBack_5 rfl rfl ?_
  refine z_get (v := .ref 17) 3 rfl rfl inX5 (by decide) zw_184 rfl rfl dX5_giveBack_6 ?_
  refine z_iload_n 1 dX5_giveBack_9 rfl rfl ?_
  refine z_callV (N := mX6_at) 1 [.int i] [.int i, .ref 17] lX6_at ⟨zw_382, zw_383, zw_384⟩ rfl rfl rfl rfl (Nat.le_of_ble_eq_true rfl) (by decide) ⟨zlt, zlt⟩ ⟨Nat.zero_le _, Nat.zero_le _⟩ (fun _ => rfl) (c_nAt (g := 17) (v := 18) (n := 16) (f := lef) (by omega) zlt rfl rfl i) dX5_giveBack_10 ?_
  refine z_iconst (v := 1) dX5_giveBack_13 (by decide) ?_
  refine z_iadd dX5_giveBack_14 ?_
  refine z_callV (N := mX6_put) 2 [.int i, .int ((zAtN 16 lef i) + 1)] [] lX6_put ⟨zw_675, zw_525, zw_526⟩ rfl rfl rfl rfl (Nat.le_of_ble_eq_true rfl) (by decide) ⟨zlt, zlt⟩ ⟨Nat.zero_le _, Nat.zero_le _⟩ (fun _ => rfl) (c_nPut (g := 17) (v := 18) (n := 16) (f := lef) (h1 := (zHp (c, r, w, lim, tol, cart, wov, lot, sew, mis, cnt, col, len, (zPutN 16 lef i ((zAtN 16 lef i) + 1)), sbt, shd) X Y out)) (by omega) zlt rfl rfl i ((zAtN 16 lef i) + 1) rfl) dX5_giveBack_15 ?_
  exact z_vret rfl dX5_giveBack_18 ho9.symm (zo_h hh9 (by rfl)) (Nat.zero_le _) (Nat.zero_le _)

set_option maxHeartbeats 4000000 in
set_option maxRecDepth 100000 in
theorem c_changeTol {G : zT} {c r w lim cnt : Nat} {tol : Int32} {cart wov lot sew mis col len lef sbt : Nat → Int32} {shd : Nat → UInt32} {X : zXr} {Y : zYr} {out : Nat → Int64} (hG : zAl G = false) (hc : c ≤ 20) (hr : r ≤ 16) (hw : w ≤ r) (hn : cnt ≤ 16) (t : Int32) : zRun G mX4_changeTolerance 0 0 [.ref 1, .int t] (zHp (c, r, w, lim, tol, cart, wov, lot, sew, mis, cnt, col, len, lef, sbt, shd) X Y out) (.inr (some (.int tol))) (zHp (c, r, w, lim, t, cart, wov, lot, sew, mis, cnt, col, len, lef, sbt, shd) X Y out) := by
  refine zRun_of (by decide +kernel) rfl rfl (Nat.le_of_ble_eq_true rfl) ?_
  suffices hs : ∀ (o9 : zO) (h9 : zH), (Sum.inr (some (.int tol)) : zO) = o9 → (zHp (c, r, w, lim, t, cart, wov, lot, sew, mis, cnt, col, len, lef, sbt, shd) X Y out) = h9 → zPW G mX4_changeTolerance 0 0 o9 h9 0 0 0 [(0, .ref 1), (1, .int t)] [] (zHp (c, r, w, lim, tol, cart, wov, lot, sew, mis, cnt, col, len, lef, sbt, shd) X Y out) from hs _ _ rfl rfl
  intro o9 h9 ho9 hh9
  refine z_aload_n 0 dX4_changeTolerance_0 rfl rfl ?_
  refine z_get (v := .int tol) 4 rfl rfl inX4 (by decide) zw_215 rfl rfl dX4_changeTolerance_1 ?_
  refine z_istore_n (lv' := [(2, .int tol), (0, .ref 1), (1, .int t)]) dX4_changeTolerance_4 rfl (by decide) rfl ?_
  refine z_aload_n 1 dX4_changeTolerance_5 rfl rfl ?_
  refine z_iload_n 2 dX4_changeTolerance_6 rfl rfl ?_
  refine z_puti 4 tyX4 rfl rfl inX4 tyX4_ok nmX4 (by decide) zw_215 rfl rfl (by decide +kernel) (by decide) dX4_changeTolerance_7 ?_
  refine z_eqh (h2 := (zHp (c, r, w, lim, t, cart, wov, lot, sew, mis, cnt, col, len, lef, sbt, shd) X Y out)) rfl ?_
  refine z_iload_n 0 dX4_changeTolerance_10 rfl rfl ?_
  exact z_iret rfl dX4_changeTolerance_11 (zo_i ho9 (by rfl)) (zo_h hh9 (by rfl)) (Nat.zero_le _) (Nat.zero_le _)

set_option maxHeartbeats 4000000 in
set_option maxRecDepth 100000 in
theorem c_takeCartoon {G : zT} {c r w lim cnt : Nat} {tol : Int32} {cart wov lot sew mis col len lef sbt : Nat → Int32} {shd : Nat → UInt32} {X : zXr} {Y : zYr} {out : Nat → Int64} (hG : zAl G = false) (hc : c ≤ 20) (hr : r ≤ 16) (hw : w ≤ r) (hn : cnt ≤ 16) (c2 r2 : Nat) : zRun G mX4_takeCartoon 0 0 [.ref 1, .int (nI c2), .int (nI r2)] (zHp (c, r, w, lim, tol, cart, wov, lot, sew, mis, cnt, col, len, lef, sbt, shd) X Y out) (.inr (some (.int (nI w)))) (zHp (c2, r2, 0, lim, tol, (zFl (fun _ => 0) cart 320), wov, lot, (zFl (fun _ => 0) sew 320), (zFl (fun _ => (-1)) mis 20), cnt, col, len, lef, sbt, shd) X Y out) := by
  refine zRun_of (by decide +kernel) rfl rfl (Nat.le_of_ble_eq_true rfl) ?_
  suffices hs : ∀ (o9 : zO) (h9 : zH), (Sum.inr (some (.int (nI w))) : zO) = o9 → (zHp (c2, r2, 0, lim, tol, (zFl (fun _ => 0) cart 320), wov, lot, (zFl (fun _ => 0) sew 320), (zFl (fun _ => (-1)) mis 20), cnt, col, len, lef, sbt, shd) X Y out) = h9 → zPW G mX4_takeCartoon 0 0 o9 h9 0 0 0 [(0, .ref 1), (1, .int (nI c2)), (2, .int (nI r2))] [] (zHp (c, r, w, lim, tol, cart, wov, lot, sew, mis, cnt, col, len, lef, sbt, shd) X Y out) from hs _ _ rfl rfl
  intro o9 h9 ho9 hh9
  refine z_aload_n 0 dX4_takeCartoon_0 rfl rfl ?_
  refine z_get (v := .int (nI w)) 2 rfl rfl inX4 (by decide) zw_211 rfl rfl dX4_takeCartoon_1 ?_
  refine z_istore_n (lv' := [(3, .int (nI w)), (0, .ref 1), (1, .int (nI c2)), (2, .int (nI r2))]) dX4_takeCartoon_4 rfl (by decide) rfl ?_
  refine z_aload_n 1 dX4_takeCartoon_5 rfl rfl ?_
  refine z_iload_n 2 dX4_takeCartoon_6 rfl rfl ?_
  refine z_puti 0 tyX4 rfl rfl inX4 tyX4_ok nmX4 (by decide) zw_207 rfl rfl (by decide +kernel) (by decide) dX4_takeCartoon_7 ?_
  refine z_eqh (h2 := (zHp (c2, r, w, lim, tol, cart, wov, lot, sew, mis, cnt, col, len, lef, sbt, shd) X Y out)) rfl ?_
  refine z_aload_n 1 dX4_takeCartoon_10 rfl rfl ?_
  refine z_iload_n 3 dX4_takeCartoon_11 rfl rfl ?_
  refine z_puti 1 tyX4 rfl rfl inX4 tyX4_ok nmX4 (by decide) zw_209 rfl rfl (by decide +kernel) (by decide) dX4_takeCartoon_12 ?_
  refine z_eqh (h2 := (zHp (c2, r2, w, lim, tol, cart, wov, lot, sew, mis, cnt, col, len, lef, sbt, shd) X Y out)) rfl ?_
  refine z_aload_n 1 dX4_takeCartoon_15 rfl rfl ?_
  refine z_iconst (v := 0) dX4_takeCartoon_16 (by decide) ?_
  refine z_puti 2 tyX4 rfl rfl inX4 tyX4_ok nmX4 (by decide) zw_211 rfl rfl (by decide +kernel) (by decide) dX4_takeCartoon_17 ?_
  refine z_eqh (h2 := (zHp (c2, r2, 0, lim, tol, cart, wov, lot, sew, mis, cnt, col, len, lef, sbt, shd) X Y out)) rfl ?_
  refine z_aload_n 1 dX4_takeCartoon_20 rfl rfl ?_
  refine z_get (v := .ref 2) 5 rfl rfl inX4 (by decide) zw_216 rfl rfl dX4_takeCartoon_21 ?_
  refine z_iconst (v := 0) dX4_takeCartoon_24 (by decide) ?_
  refine z_callV (N := mX2_putAll) 1 [.int 0] [] lX2_putAll ⟨zw_655, zw_656, zw_657⟩ rfl rfl rfl rfl (Nat.le_of_ble_eq_true rfl) (by decide) ⟨zlt, zlt⟩ ⟨Nat.zero_le _, Nat.zero_le _⟩ (fun _ => rfl) (c_gPutAll (g := 2) (v := 3) (f := cart) (h1 := (zHp (c2, r2, 0, lim, tol, (zFl (fun _ => 0) cart 320), wov, lot, sew, mis, cnt, col, len, lef, sbt, shd) X Y out)) zlt rfl rfl 0 rfl) dX4_takeCartoon_25 ?_
  refine z_aload_n 1 dX4_takeCartoon_28 rfl rfl ?_
  refine z_get (v := .ref 8) 8 rfl rfl inX4 (by decide) zw_220 rfl rfl dX4_takeCartoon_29 ?_
  refine z_iconst (v := 0) dX4_takeCartoon_32 (by decide) ?_
  refine z_callV (N := mX2_putAll) 1 [.int 0] [] lX2_putAll ⟨zw_655, zw_656, zw_657⟩ rfl rfl rfl rfl (Nat.le_of_ble_eq_true rfl) (by decide) ⟨zlt, zlt⟩ ⟨Nat.zero_le _, Nat.zero_le _⟩ (fun _ => rfl) (c_gPutAll (g := 8) (v := 9) (f := sew) (h1 := (zHp (c2, r2, 0, lim, tol, (zFl (fun _ => 0) cart 320), wov, lot, (zFl (fun _ => 0) sew 320), mis, cnt, col, len, lef, sbt, shd) X Y out)) zlt rfl rfl 0 rfl) dX4_takeCartoon_33 ?_
  refine z_aload_n 1 dX4_takeCartoon_36 rfl rfl ?_
  refine z_get (v := .ref 10) 9 rfl rfl inX4 (by decide) zw_221 rfl rfl dX4_takeCartoon_37 ?_
  refine z_iconst (v := (-1)) dX4_takeCartoon_40 (by decide) ?_
  refine z_callV (N := mX6_putAll) 1 [.int ((-1))] [] lX6_putAll ⟨zw_203, zw_204, zw_205⟩ rfl rfl rfl rfl (Nat.le_of_ble_eq_true rfl) (by decide) ⟨zlt, zlt⟩ ⟨Nat.zero_le _, Nat.zero_le _⟩ (fun _ => rfl) (c_nPutAll (g := 10) (v := 11) (n := 20) (f := mis) (h1 := (zHp (c2, r2, 0, lim, tol, (zFl (fun _ => 0) cart 320), wov, lot, (zFl (fun _ => 0) sew 320), (zFl (fun _ => (-1)) mis 20), cnt, col, len, lef, sbt, shd) X Y out)) (by omega) zlt rfl rfl (-1) rfl) dX4_takeCartoon_41 ?_
  refine z_iload_n 0 dX4_takeCartoon_44 rfl rfl ?_
  exact z_iret rfl dX4_takeCartoon_45 (zo_i ho9 (by rfl)) (zo_h hh9 (by rfl)) (Nat.zero_le _) (Nat.zero_le _)

set_option maxHeartbeats 4000000 in
set_option maxRecDepth 100000 in
theorem c_plant {G : zT} {c r w lim cnt : Nat} {tol : Int32} {cart wov lot sew mis col len lef sbt : Nat → Int32} {shd : Nat → UInt32} {X : zXr} {Y : zYr} {out : Nat → Int64} (hG : zAl G = false) (hc : c ≤ 20) (hr : r ≤ 16) (hw : w ≤ r) (hn : cnt ≤ 16) (b v : Int32) : zRun G mX4_plantMistake 0 0 [.ref 1, .int b, .int v] (zHp (c, r, w, lim, tol, cart, wov, lot, sew, mis, cnt, col, len, lef, sbt, shd) X Y out) (.inr (some (.int (nI (zOth 20 (zPutN 20 mis b v) (-1)))))) (zHp (c, r, w, lim, tol, cart, wov, lot, sew, zPutN 20 mis b v, cnt, col, len, lef, sbt, shd) X Y out) := by
  refine zRun_of (by decide +kernel) rfl rfl (Nat.le_of_ble_eq_true rfl) ?_
  suffices hs : ∀ (o9 : zO) (h9 : zH), (Sum.inr (some (.int (nI (zOth 20 (zPutN 20 mis b v) (-1))))) : zO) = o9 → (zHp (c, r, w, lim, tol, cart, wov, lot, sew, zPutN 20 mis b v, cnt, col, len, lef, sbt, shd) X Y out) = h9 → zPW G mX4_plantMistake 0 0 o9 h9 0 0 0 [(0, .ref 1), (1, .int b), (2, .int v)] [] (zHp (c, r, w, lim, tol, cart, wov, lot, sew, mis, cnt, col, len, lef, sbt, shd) X Y out) from hs _ _ rfl rfl
  intro o9 h9 ho9 hh9
  refine z_aload_n 0 dX4_plantMistake_0 rfl rfl ?_
  refine z_get (v := .ref 10) 9 rfl rfl inX4 (by decide) zw_221 rfl rfl dX4_plantMistake_1 ?_
  refine z_iload_n 1 dX4_plantMistake_4 rfl rfl ?_
  refine z_iload_n 2 dX4_plantMistake_5 rfl rfl ?_
  refine z_callV (N := mX6_put) 2 [.int b, .int v] [] lX6_put ⟨zw_728, zw_525, zw_526⟩ rfl rfl rfl rfl (Nat.le_of_ble_eq_true rfl) (by decide) ⟨zlt, zlt⟩ ⟨Nat.zero_le _, Nat.zero_le _⟩ (fun _ => rfl) (c_nPut (g := 10) (v := 11) (n := 20) (f := mis) (h1 := (zHp (c, r, w, lim, tol, cart, wov, lot, sew, (zPutN 20 mis b v), cnt, col, len, lef, sbt, shd) X Y out)) (by omega) zlt rfl rfl b v rfl) dX4_plantMistake_6 ?_
  refine z_aload_n 0 dX4_plantMistake_9 rfl rfl ?_
  refine z_get (v := .ref 10) 9 rfl rfl inX4 (by decide) zw_221 rfl rfl dX4_plantMistake_10 ?_
  refine z_iconst (v := (-1)) dX4_plantMistake_13 (by decide) ?_
  refine z_callV (N := mX6_countOthersThan) 1 [.int ((-1))] [] lX6_countOthersThan ⟨zw_729, zw_730, zw_731⟩ rfl rfl rfl rfl (Nat.le_of_ble_eq_true rfl) (by decide) ⟨zlt, zlt⟩ ⟨Nat.zero_le _, Nat.zero_le _⟩ (fun _ => rfl) (c_nOth (g := 10) (v := 11) (n := 20) (f := (zPutN 20 mis b v)) (by omega) zlt rfl rfl (-1)) dX4_plantMistake_14 ?_
  exact z_iret rfl dX4_plantMistake_17 (zo_i ho9 (by rfl)) (zo_h hh9 (by rfl)) (Nat.zero_le _) (Nat.zero_le _)

def zFg (wov sew : Nat → Int32) (c w lim : Nat) : Nat → Int32 := zIt (fun b s => zIt (fun y s => if zAt s (nI b) (nI y) == 1 && decide (zRl wov c w (nI b) y ≤ lim) then zPutG s (nI b) (nI y) 0 else s) 16 s) 20 sew

set_option maxHeartbeats 4000000 in
set_option maxRecDepth 100000 in
theorem c_forget {G : zT} {c r w lim cnt : Nat} {tol : Int32} {cart wov lot sew mis col len lef sbt : Nat → Int32} {shd : Nat → UInt32} {X : zXr} {Y : zYr} {out : Nat → Int64} (hG : zAl G = false) (hc : c ≤ 20) (hr : r ≤ 16) (hw : w ≤ r) (hn : cnt ≤ 16) (hl : lim ≤ 16) : zRun G mX4_forgetLostSlits 0 0 [.ref 1] (zHp (c, r, w, lim, tol, cart, wov, lot, sew, mis, cnt, col, len, lef, sbt, shd) X Y out) (.inr none) (zHp (c, r, w, lim, tol, cart, wov, lot, (zFg wov sew c w lim), mis, cnt, col, len, lef, sbt, shd) X Y out) := by
  refine zRun_of (by decide +kernel) rfl rfl (Nat.le_of_ble_eq_true rfl) ?_
  suffices hs : ∀ (o9 : zO) (h9 : zH), (Sum.inr none : zO) = o9 → (zHp (c, r, w, lim, tol, cart, wov, lot, (zFg wov sew c w lim), mis, cnt, col, len, lef, sbt, shd) X Y out) = h9 → zPW G mX4_forgetLostSlits 0 0 o9 h9 0 0 0 [(0, .ref 1)] [] (zHp (c, r, w, lim, tol, cart, wov, lot, sew, mis, cnt, col, len, lef, sbt, shd) X Y out) from hs _ _ rfl rfl
  intro o9 h9 ho9 hh9
  refine z_iconst (v := 0) dX4_forgetLostSlits_0 (by decide) ?_
  refine z_istore_n (lv' := [(1, .int 0), (0, .ref 1)]) dX4_forgetLostSlits_1 rfl (by decide) rfl ?_
  have L2_1 : ∀ (d k : Nat), k ≤ 20 → 20 + 1 ≤ k + d → zPW G mX4_forgetLostSlits 0 0 o9 h9 0 0 2 [(1, .int (nI k)), (0, .ref 1)] [] (zHp (c, r, w, lim, tol, cart, wov, lot, (zIt (fun b s => zIt (fun y s => if zAt s (nI b) (nI y) == 1 && decide (zRl wov c w (nI b) y ≤ lim) then zPutG s (nI b) (nI y) 0 else s) 16 s) k sew), mis, cnt, col, len, lef, sbt, shd) X Y out) := by
    intro d
    induction d with
    | zero => intro k hk hd; exact absurd hd (by omega)
    | succ d ih =>
      intro k hk_k hd_k
      have ih2 := ih
      clear ih
      refine z_iload_n 0 dX4_forgetLostSlits_2 rfl rfl ?_
      refine z_bipush (v := nI 20) dX4_forgetLostSlits_3 (by decide) ?_
      refine z_icmp_ge (tgt := 60) dX4_forgetLostSlits_5 (by decide) (fun c_5 => ?_) (fun c_5 => ?_)
      · skip
        have hx_k := zge (by omega) hk_k c_5
        exact z_vret rfl dX4_forgetLostSlits_60 ho9.symm (zo_h hh9 (by rw [zFg, hx_k])) (Nat.zero_le _) (Nat.zero_le _)
      · skip
        have hx_k := zlt' (by omega) hk_k c_5
        refine z_iconst (v := 0) dX4_forgetLostSlits_8 (by decide) ?_
        refine z_istore_n (lv' := [(2, .int 0), (1, .int (nI k)), (0, .ref 1)]) dX4_forgetLostSlits_9 rfl (by decide) rfl ?_
        have L10_2 : ∀ (d j : Nat), j ≤ 16 → 16 + 1 ≤ j + d → zPW G mX4_forgetLostSlits 0 0 o9 h9 0 0 10 [(2, .int (nI j)), (1, .int (nI k)), (0, .ref 1)] [] (zHp (c, r, w, lim, tol, cart, wov, lot, (zIt (fun y s => if zAt s (nI k) (nI y) == 1 && decide (zRl wov c w (nI k) y ≤ lim) then zPutG s (nI k) (nI y) 0 else s) j (zIt (fun b s => zIt (fun y s => if zAt s (nI b) (nI y) == 1 && decide (zRl wov c w (nI b) y ≤ lim) then zPutG s (nI b) (nI y) 0 else s) 16 s) k sew)), mis, cnt, col, len, lef, sbt, shd) X Y out) := by
          intro d
          induction d with
          | zero => intro j hk hd; exact absurd hd (by omega)
          | succ d ih =>
            intro j hk_j hd_j
            have ih10 := ih
            clear ih
            refine z_iload_n 0 dX4_forgetLostSlits_10 rfl rfl ?_
            refine z_bipush (v := nI 16) dX4_forgetLostSlits_11 (by decide) ?_
            refine z_icmp_ge (tgt := 54) dX4_forgetLostSlits_13 (by decide) (fun c_13 => ?_) (fun c_13 => ?_)
            · skip
              have hx_j := zge (by omega) hk_j c_13
              refine z_iinc (v := nI (k + 1)) (lv' := [(1, .int (nI (k + 1))), (2, .int (nI j)), (0, .ref 1)]) 1 dX4_forgetLostSlits_54 rfl (nI_1 k) (by decide) rfl ?_
              refine z_goto (tgt := 2) dX4_forgetLostSlits_57 (by decide) ?_
              refine z_sub [0, 2] (lv' := [(1, .int (nI (k + 1))), (0, .ref 1)]) rfl ?_
              refine z_eqs (lv2 := [(1, .int (nI (k + 1))), (0, .ref 1)]) (h2 := (zHp (c, r, w, lim, tol, cart, wov, lot, (zIt (fun b s => zIt (fun y s => if zAt s (nI b) (nI y) == 1 && decide (zRl wov c w (nI b) y ≤ lim) then zPutG s (nI b) (nI y) 0 else s) 16 s) (k + 1) sew), mis, cnt, col, len, lef, sbt, shd) X Y out)) (by rfl) (by rw [hx_j]; rfl) ?_
              exact ih2 (k + 1) (by omega) (by omega)
            · skip
              have hx_j := zlt' (by omega) hk_j c_13
              refine z_aload_n 2 dX4_forgetLostSlits_16 rfl rfl ?_
              refine z_iload_n 1 dX4_forgetLostSlits_17 rfl rfl ?_
              refine z_iload_n 0 dX4_forgetLostSlits_18 rfl rfl ?_
              refine z_callV (N := mX4_isSewn) 2 [.int (nI k), .int (nI j)] [] lX4_isSewn ⟨zw_639, zw_641, zw_19⟩ rfl rfl rfl rfl (Nat.le_of_ble_eq_true rfl) (by decide) ⟨zlt, zlt⟩ ⟨Nat.zero_le _, Nat.zero_le _⟩ (fun _ => rfl) (c_isSewn hG hc hr hw hn (nI k) (nI j)) dX4_forgetLostSlits_19 ?_
              refine z_if_eq (tgt := 48) dX4_forgetLostSlits_22 (by decide) (fun c_22 => ?_) (fun c_22 => ?_)
              · skip
                have b_22 := zB_0.mp c_22
                refine z_iinc (v := nI (j + 1)) (lv' := [(2, .int (nI (j + 1))), (1, .int (nI k)), (0, .ref 1)]) 0 dX4_forgetLostSlits_48 rfl (nI_1 j) (by decide) rfl ?_
                refine z_goto (tgt := 10) dX4_forgetLostSlits_51 (by decide) ?_
                refine z_sub [0, 1, 2] (lv' := [(2, .int (nI (j + 1))), (1, .int (nI k)), (0, .ref 1)]) rfl ?_
                refine z_eqs (lv2 := [(2, .int (nI (j + 1))), (1, .int (nI k)), (0, .ref 1)]) (h2 := (zHp (c, r, w, lim, tol, cart, wov, lot, (zIt (fun y s => if zAt s (nI k) (nI y) == 1 && decide (zRl wov c w (nI k) y ≤ lim) then zPutG s (nI k) (nI y) 0 else s) (j + 1) (zIt (fun b s => zIt (fun y s => if zAt s (nI b) (nI y) == 1 && decide (zRl wov c w (nI b) y ≤ lim) then zPutG s (nI b) (nI y) 0 else s) 16 s) k sew)), mis, cnt, col, len, lef, sbt, shd) X Y out)) (by rfl) (by rw [zIt]; first | rw [if_pos (by simp only [b_22, Bool.true_and]; exact decide_eq_true ((nI_leI (Nat.lt_of_le_of_lt zRl_le (by omega)) (by omega)).mp (Int32.not_lt.mp c_35)))] | rw [if_neg (by simp only [b_22, Bool.true_and, Bool.false_and]; first | exact Bool.false_ne_true | (intro q; exact c_35 |> fun z => absurd (of_decide_eq_true q) (Nat.not_le.mpr ((nI_ltI (by omega) (Nat.lt_of_le_of_lt zRl_le (by omega))).mp z))))]) ?_
                exact ih10 (j + 1) (by omega) (by omega)
              · skip
                have b_22 := zB_tt c_22
                refine z_aload_n 2 dX4_forgetLostSlits_25 rfl rfl ?_
                refine z_iload_n 1 dX4_forgetLostSlits_26 rfl rfl ?_
                refine z_iload_n 0 dX4_forgetLostSlits_27 rfl rfl ?_
                refine z_callV (N := mX4_slitRows) 2 [.int (nI k), .int (nI j)] [] lX4_slitRows ⟨zw_631, zw_632, zw_633⟩ rfl rfl rfl rfl (Nat.le_of_ble_eq_true rfl) (by decide) ⟨zlt, zlt⟩ ⟨Nat.zero_le _, Nat.zero_le _⟩ (fun _ => rfl) (c_slitRows hG hc hr hw hn (nI k) j (by omega)) dX4_forgetLostSlits_28 ?_
                refine z_aload_n 2 dX4_forgetLostSlits_31 rfl rfl ?_
                refine z_get (v := .int (nI lim)) 3 rfl rfl inX4 (by decide) zw_213 rfl rfl dX4_forgetLostSlits_32 ?_
                refine z_icmp_gt (tgt := 48) dX4_forgetLostSlits_35 (by decide) (fun c_35 => ?_) (fun c_35 => ?_)
                · skip
                  refine z_iinc (v := nI (j + 1)) (lv' := [(2, .int (nI (j + 1))), (1, .int (nI k)), (0, .ref 1)]) 0 dX4_forgetLostSlits_48 rfl (nI_1 j) (by decide) rfl ?_
                  refine z_goto (tgt := 10) dX4_forgetLostSlits_51 (by decide) ?_
                  refine z_sub [0, 1, 2] (lv' := [(2, .int (nI (j + 1))), (1, .int (nI k)), (0, .ref 1)]) rfl ?_
                  refine z_eqs (lv2 := [(2, .int (nI (j + 1))), (1, .int (nI k)), (0, .ref 1)]) (h2 := (zHp (c, r, w, lim, tol, cart, wov, lot, (zIt (fun y s => if zAt s (nI k) (nI y) == 1 && decide (zRl wov c w (nI k) y ≤ lim) then zPutG s (nI k) (nI y) 0 else s) (j + 1) (zIt (fun b s => zIt (fun y s => if zAt s (nI b) (nI y) == 1 && decide (zRl wov c w (nI b) y ≤ lim) then zPutG s (nI b) (nI y) 0 else s) 16 s) k sew)), mis, cnt, col, len, lef, sbt, shd) X Y out)) (by rfl) (by rw [zIt]; first | rw [if_pos (by simp only [b_22, Bool.true_and]; exact decide_eq_true ((nI_leI (Nat.lt_of_le_of_lt zRl_le (by omega)) (by omega)).mp (Int32.not_lt.mp c_35)))] | rw [if_neg (by simp only [b_22, Bool.true_and, Bool.false_and]; first | exact Bool.false_ne_true | (intro q; exact c_35 |> fun z => absurd (of_decide_eq_true q) (Nat.not_le.mpr ((nI_ltI (by omega) (Nat.lt_of_le_of_lt zRl_le (by omega))).mp z))))]) ?_
                  exact ih10 (j + 1) (by omega) (by omega)
                · skip
                  refine z_aload_n 2 dX4_forgetLostSlits_38 rfl rfl ?_
                  refine z_get (v := .ref 8) 8 rfl rfl inX4 (by decide) zw_220 rfl rfl dX4_forgetLostSlits_39 ?_
                  refine z_iload_n 1 dX4_forgetLostSlits_42 rfl rfl ?_
                  refine z_iload_n 0 dX4_forgetLostSlits_43 rfl rfl ?_
                  refine z_iconst (v := 0) dX4_forgetLostSlits_44 (by decide) ?_
                  refine z_callV (N := mX2_put) 3 [.int (nI k), .int (nI j), .int 0] [] lX2_put ⟨zw_667, zw_668, zw_669⟩ rfl rfl rfl rfl (Nat.le_of_ble_eq_true rfl) (by decide) ⟨zlt, zlt⟩ ⟨Nat.zero_le _, Nat.zero_le _⟩ (fun _ => rfl) (c_gPut (g := 8) (v := 9) (f := (zIt (fun y s => if zAt s (nI k) (nI y) == 1 && decide (zRl wov c w (nI k) y ≤ lim) then zPutG s (nI k) (nI y) 0 else s) j (zIt (fun b s => zIt (fun y s => if zAt s (nI b) (nI y) == 1 && decide (zRl wov c w (nI b) y ≤ lim) then zPutG s (nI b) (nI y) 0 else s) 16 s) k sew))) (h1 := (zHp (c, r, w, lim, tol, cart, wov, lot, (zPutG (zIt (fun y s => if zAt s (nI k) (nI y) == 1 && decide (zRl wov c w (nI k) y ≤ lim) then zPutG s (nI k) (nI y) 0 else s) j (zIt (fun b s => zIt (fun y s => if zAt s (nI b) (nI y) == 1 && decide (zRl wov c w (nI b) y ≤ lim) then zPutG s (nI b) (nI y) 0 else s) 16 s) k sew)) (nI k) (nI j) 0), mis, cnt, col, len, lef, sbt, shd) X Y out)) zlt rfl rfl (nI k) (nI j) 0 rfl) dX4_forgetLostSlits_45 ?_
                  refine z_iinc (v := nI (j + 1)) (lv' := [(2, .int (nI (j + 1))), (1, .int (nI k)), (0, .ref 1)]) 0 dX4_forgetLostSlits_48 rfl (nI_1 j) (by decide) rfl ?_
                  refine z_goto (tgt := 10) dX4_forgetLostSlits_51 (by decide) ?_
                  refine z_sub [0, 1, 2] (lv' := [(2, .int (nI (j + 1))), (1, .int (nI k)), (0, .ref 1)]) rfl ?_
                  refine z_eqs (lv2 := [(2, .int (nI (j + 1))), (1, .int (nI k)), (0, .ref 1)]) (h2 := (zHp (c, r, w, lim, tol, cart, wov, lot, (zIt (fun y s => if zAt s (nI k) (nI y) == 1 && decide (zRl wov c w (nI k) y ≤ lim) then zPutG s (nI k) (nI y) 0 else s) (j + 1) (zIt (fun b s => zIt (fun y s => if zAt s (nI b) (nI y) == 1 && decide (zRl wov c w (nI b) y ≤ lim) then zPutG s (nI b) (nI y) 0 else s) 16 s) k sew)), mis, cnt, col, len, lef, sbt, shd) X Y out)) (by rfl) (by rw [zIt]; first | rw [if_pos (by simp only [b_22, Bool.true_and]; exact decide_eq_true ((nI_leI (Nat.lt_of_le_of_lt zRl_le (by omega)) (by omega)).mp (Int32.not_lt.mp c_35)))] | rw [if_neg (by simp only [b_22, Bool.true_and, Bool.false_and]; first | exact Bool.false_ne_true | (intro q; exact c_35 |> fun z => absurd (of_decide_eq_true q) (Nat.not_le.mpr ((nI_ltI (by omega) (Nat.lt_of_le_of_lt zRl_le (by omega))).mp z))))]) ?_
                  exact ih10 (j + 1) (by omega) (by omega)
        refine z_sub [0, 1, 2] (lv' := [(2, .int 0), (1, .int (nI k)), (0, .ref 1)]) rfl ?_
        refine z_eqs (lv2 := [(2, .int (nI 0)), (1, .int (nI k)), (0, .ref 1)]) (h2 := (zHp (c, r, w, lim, tol, cart, wov, lot, (zIt (fun y s => if zAt s (nI k) (nI y) == 1 && decide (zRl wov c w (nI k) y ≤ lim) then zPutG s (nI k) (nI y) 0 else s) 0 (zIt (fun b s => zIt (fun y s => if zAt s (nI b) (nI y) == 1 && decide (zRl wov c w (nI b) y ≤ lim) then zPutG s (nI b) (nI y) 0 else s) 16 s) k sew)), mis, cnt, col, len, lef, sbt, shd) X Y out)) (by rfl) (by rfl) ?_
        exact L10_2 (16 + 1) 0 (Nat.zero_le _) (by omega)
  refine z_sub [0, 1] (lv' := [(1, .int 0), (0, .ref 1)]) rfl ?_
  refine z_eqs (lv2 := [(1, .int (nI 0)), (0, .ref 1)]) (h2 := (zHp (c, r, w, lim, tol, cart, wov, lot, (zIt (fun b s => zIt (fun y s => if zAt s (nI b) (nI y) == 1 && decide (zRl wov c w (nI b) y ≤ lim) then zPutG s (nI b) (nI y) 0 else s) 16 s) 0 sew), mis, cnt, col, len, lef, sbt, shd) X Y out)) (by rfl) (by rfl) ?_
  exact L2_1 (20 + 1) 0 (Nat.zero_le _) (by omega)

set_option maxHeartbeats 4000000 in
set_option maxRecDepth 100000 in
theorem c_changeLimit {G : zT} {c r w lim cnt : Nat} {tol : Int32} {cart wov lot sew mis col len lef sbt : Nat → Int32} {shd : Nat → UInt32} {X : zXr} {Y : zYr} {out : Nat → Int64} (hG : zAl G = false) (hc : c ≤ 20) (hr : r ≤ 16) (hw : w ≤ r) (hn : cnt ≤ 16) (lm : Nat) (hl : lm ≤ 16) : zRun G mX4_changeLimit 0 0 [.ref 1, .int (nI lm)] (zHp (c, r, w, lim, tol, cart, wov, lot, sew, mis, cnt, col, len, lef, sbt, shd) X Y out) (.inr (some (.int (nI lim)))) (zHp (c, r, w, lm, tol, cart, wov, lot, (zFg wov sew c w lm), mis, cnt, col, len, lef, sbt, shd) X Y out) := by
  refine zRun_of (by decide +kernel) rfl rfl (Nat.le_of_ble_eq_true rfl) ?_
  suffices hs : ∀ (o9 : zO) (h9 : zH), (Sum.inr (some (.int (nI lim))) : zO) = o9 → (zHp (c, r, w, lm, tol, cart, wov, lot, (zFg wov sew c w lm), mis, cnt, col, len, lef, sbt, shd) X Y out) = h9 → zPW G mX4_changeLimit 0 0 o9 h9 0 0 0 [(0, .ref 1), (1, .int (nI lm))] [] (zHp (c, r, w, lim, tol, cart, wov, lot, sew, mis, cnt, col, len, lef, sbt, shd) X Y out) from hs _ _ rfl rfl
  intro o9 h9 ho9 hh9
  refine z_aload_n 0 dX4_changeLimit_0 rfl rfl ?_
  refine z_get (v := .int (nI lim)) 3 rfl rfl inX4 (by decide) zw_213 rfl rfl dX4_changeLimit_1 ?_
  refine z_istore_n (lv' := [(2, .int (nI lim)), (0, .ref 1), (1, .int (nI lm))]) dX4_changeLimit_4 rfl (by decide) rfl ?_
  refine z_aload_n 1 dX4_changeLimit_5 rfl rfl ?_
  refine z_iload_n 2 dX4_changeLimit_6 rfl rfl ?_
  refine z_puti 3 tyX4 rfl rfl inX4 tyX4_ok nmX4 (by decide) zw_213 rfl rfl (by decide +kernel) (by decide) dX4_changeLimit_7 ?_
  refine z_eqh (h2 := (zHp (c, r, w, lm, tol, cart, wov, lot, sew, mis, cnt, col, len, lef, sbt, shd) X Y out)) rfl ?_
  refine z_aload_n 1 dX4_changeLimit_10 rfl rfl ?_
  refine z_callV (N := mX4_forgetLostSlits) 0 [] [] lX4_forgetLostSlits ⟨zw_720, zw_722, zw_25⟩ rfl rfl rfl rfl (Nat.le_of_ble_eq_true rfl) (by decide) ⟨zlt, zlt⟩ ⟨Nat.zero_le _, Nat.zero_le _⟩ (fun _ => rfl) (c_forget hG hc hr hw hn hl) dX4_changeLimit_11 ?_
  refine z_iload_n 0 dX4_changeLimit_14 rfl rfl ?_
  exact z_iret rfl dX4_changeLimit_15 (zo_i ho9 (by rfl)) (zo_h hh9 (by rfl)) (Nat.zero_le _) (Nat.zero_le _)

def zSwS (wov sew : Nat → Int32) (c w lim : Nat) (ix : Int32) : Nat → Int32 := if zSp wov c w lim ix = -1 then sew else zPutG sew (zSp wov c w lim ix / nI 16) (zSp wov c w lim ix - zSp wov c w lim ix / nI 16 * nI 16) 1

set_option maxHeartbeats 4000000 in
set_option maxRecDepth 100000 in
theorem c_sewSlit {G : zT} {c r w lim cnt : Nat} {tol : Int32} {cart wov lot sew mis col len lef sbt : Nat → Int32} {shd : Nat → UInt32} {X : zXr} {Y : zYr} {out : Nat → Int64} (hG : zAl G = false) (hc : c ≤ 20) (hr : r ≤ 16) (hw : w ≤ r) (hn : cnt ≤ 16) (hl : lim ≤ 16) (ix : Int32) : zRun G mX4_sewSlit 0 0 [.ref 1, .int ix] (zHp (c, r, w, lim, tol, cart, wov, lot, sew, mis, cnt, col, len, lef, sbt, shd) X Y out) (.inr (some (.int (nI (zSc wov c w lim) - nI (zCi (zSwS wov sew c w lim ix) 1 c r))))) (zHp (c, r, w, lim, tol, cart, wov, lot, (zSwS wov sew c w lim ix), mis, cnt, col, len, lef, sbt, shd) X Y out) := by
  refine zRun_of (by decide +kernel) rfl rfl (Nat.le_of_ble_eq_true rfl) ?_
  suffices hs : ∀ (o9 : zO) (h9 : zH), (Sum.inr (some (.int (nI (zSc wov c w lim) - nI (zCi (zSwS wov sew c w lim ix) 1 c r)))) : zO) = o9 → (zHp (c, r, w, lim, tol, cart, wov, lot, (zSwS wov sew c w lim ix), mis, cnt, col, len, lef, sbt, shd) X Y out) = h9 → zPW G mX4_sewSlit 0 0 o9 h9 0 0 0 [(0, .ref 1), (1, .int ix)] [] (zHp (c, r, w, lim, tol, cart, wov, lot, sew, mis, cnt, col, len, lef, sbt, shd) X Y out) from hs _ _ rfl rfl
  intro o9 h9 ho9 hh9
  refine z_aload_n 0 dX4_sewSlit_0 rfl rfl ?_
  refine z_iload_n 1 dX4_sewSlit_1 rfl rfl ?_
  refine z_callV (N := mX4_slitPlace) 1 [.int ix] [] lX4_slitPlace ⟨zw_627, zw_628, zw_629⟩ rfl rfl rfl rfl (Nat.le_of_ble_eq_true rfl) (by decide) ⟨zlt, zlt⟩ ⟨Nat.zero_le _, Nat.zero_le _⟩ (fun _ => rfl) (c_slitPlace hG hc hr hw hn hl ix) dX4_sewSlit_2 ?_
  refine z_istore_n (lv' := [(2, .int (zSp wov c w lim ix)), (0, .ref 1), (1, .int ix)]) dX4_sewSlit_5 rfl (by decide) rfl ?_
  refine z_iload_n 0 dX4_sewSlit_6 rfl rfl ?_
  refine z_iconst (v := (-1)) dX4_sewSlit_7 (by decide) ?_
  refine z_icmp_eq (tgt := 27) dX4_sewSlit_8 (by decide) (fun c_8 => ?_) (fun c_8 => ?_)
  · skip
    refine z_aload_n 1 dX4_sewSlit_27 rfl rfl ?_
    refine z_aload_n 1 dX4_sewSlit_28 rfl rfl ?_
    refine z_get (v := .int (nI lim)) 3 rfl rfl inX4 (by decide) zw_213 rfl rfl dX4_sewSlit_29 ?_
    refine z_callV (N := mX4_slitCount) 1 [.int (nI lim)] [] lX4_slitCount ⟨zw_737, zw_738, zw_739⟩ rfl rfl rfl rfl (Nat.le_of_ble_eq_true rfl) (by decide) ⟨zlt, zlt⟩ ⟨Nat.zero_le _, Nat.zero_le _⟩ (fun _ => rfl) (c_slitCount hG hc hr hw hn lim (by omega)) dX4_sewSlit_32 ?_
    refine z_aload_n 1 dX4_sewSlit_35 rfl rfl ?_
    refine z_callV (N := mX4_sewnSlits) 0 [] [.int (nI (zSc wov c w lim))] lX4_sewnSlits ⟨zw_741, zw_743, zw_26⟩ rfl rfl rfl rfl (Nat.le_of_ble_eq_true rfl) (by decide) ⟨zlt, zlt⟩ ⟨Nat.zero_le _, Nat.zero_le _⟩ (fun _ => rfl) (c_sewnSlits hG hc hr hw hn ) dX4_sewSlit_36 ?_
    refine z_isub dX4_sewSlit_39 ?_
    exact z_iret rfl dX4_sewSlit_40 (zo_i ho9 (by simp [zSwS, *])) (zo_h hh9 (by simp [zSwS, *])) (Nat.zero_le _) (Nat.zero_le _)
  · skip
    refine z_aload_n 1 dX4_sewSlit_11 rfl rfl ?_
    refine z_get (v := .ref 8) 8 rfl rfl inX4 (by decide) zw_220 rfl rfl dX4_sewSlit_12 ?_
    refine z_iload_n 0 dX4_sewSlit_15 rfl rfl ?_
    refine z_bipush (v := nI 16) dX4_sewSlit_16 (by decide) ?_
    refine z_idiv dX4_sewSlit_18 (by decide) ?_
    refine z_iload_n 0 dX4_sewSlit_19 rfl rfl ?_
    refine z_bipush (v := nI 16) dX4_sewSlit_20 (by decide) ?_
    refine z_irem dX4_sewSlit_22 (by decide) ?_
    refine z_iconst (v := 1) dX4_sewSlit_23 (by decide) ?_
    refine z_callV (N := mX2_put) 3 [.int ((zSp wov c w lim ix) / (nI 16)), .int ((zSp wov c w lim ix) - (zSp wov c w lim ix) / (nI 16) * (nI 16)), .int 1] [] lX2_put ⟨zw_667, zw_668, zw_669⟩ rfl rfl rfl rfl (Nat.le_of_ble_eq_true rfl) (by decide) ⟨zlt, zlt⟩ ⟨Nat.zero_le _, Nat.zero_le _⟩ (fun _ => rfl) (c_gPut (g := 8) (v := 9) (f := sew) (h1 := (zHp (c, r, w, lim, tol, cart, wov, lot, (zPutG sew ((zSp wov c w lim ix) / (nI 16)) ((zSp wov c w lim ix) - (zSp wov c w lim ix) / (nI 16) * (nI 16)) 1), mis, cnt, col, len, lef, sbt, shd) X Y out)) zlt rfl rfl ((zSp wov c w lim ix) / (nI 16)) ((zSp wov c w lim ix) - (zSp wov c w lim ix) / (nI 16) * (nI 16)) 1 rfl) dX4_sewSlit_24 ?_
    refine z_aload_n 1 dX4_sewSlit_27 rfl rfl ?_
    refine z_aload_n 1 dX4_sewSlit_28 rfl rfl ?_
    refine z_get (v := .int (nI lim)) 3 rfl rfl inX4 (by decide) zw_213 rfl rfl dX4_sewSlit_29 ?_
    refine z_callV (N := mX4_slitCount) 1 [.int (nI lim)] [] lX4_slitCount ⟨zw_737, zw_738, zw_739⟩ rfl rfl rfl rfl (Nat.le_of_ble_eq_true rfl) (by decide) ⟨zlt, zlt⟩ ⟨Nat.zero_le _, Nat.zero_le _⟩ (fun _ => rfl) (c_slitCount hG hc hr hw hn lim (by omega)) dX4_sewSlit_32 ?_
    refine z_aload_n 1 dX4_sewSlit_35 rfl rfl ?_
    refine z_callV (N := mX4_sewnSlits) 0 [] [.int (nI (zSc wov c w lim))] lX4_sewnSlits ⟨zw_741, zw_743, zw_26⟩ rfl rfl rfl rfl (Nat.le_of_ble_eq_true rfl) (by decide) ⟨zlt, zlt⟩ ⟨Nat.zero_le _, Nat.zero_le _⟩ (fun _ => rfl) (c_sewnSlits hG hc hr hw hn ) dX4_sewSlit_36 ?_
    refine z_isub dX4_sewSlit_39 ?_
    exact z_iret rfl dX4_sewSlit_40 (zo_i ho9 (by simp [zSwS, *])) (zo_h hh9 (by simp [zSwS, *])) (Nat.zero_le _) (Nat.zero_le _)

def zLy (cart mis : Nat → Int32) (c : Nat) (y : Int32) (wov : Nat → Int32) : Nat → Int32 := zIt (fun b f => zPutG f (nI b) y (if zAtN 20 mis (nI b) = -1 then zAt cart (nI b) y else zAtN 20 mis (nI b))) c wov
def zAF (p : Nat → Bool) : Nat → Nat → Bool
  | _, 0 => true
  | a, d + 1 => if p a then zAF p (a + 1) d else false
def zHyP (wov col lef : Nat → Int32) (c cnt : Nat) (y : Int32) (v : Nat) : Bool := decide (nI (zCe wov (nI v) y c + zRo wov (nI v) y c) ≤ zLf col lef (nI v) cnt)

set_option maxHeartbeats 4000000 in
set_option maxRecDepth 100000 in
theorem c_layColors {G : zT} {c r w lim cnt : Nat} {tol : Int32} {cart wov lot sew mis col len lef sbt : Nat → Int32} {shd : Nat → UInt32} {X : zXr} {Y : zYr} {out : Nat → Int64} (hG : zAl G = false) (hc : c ≤ 20) (hr : r ≤ 16) (hw : w ≤ r) (hn : cnt ≤ 16) (y : Int32) : zRun G mX4_layColors 0 0 [.ref 1, .int y] (zHp (c, r, w, lim, tol, cart, wov, lot, sew, mis, cnt, col, len, lef, sbt, shd) X Y out) (.inr none) (zHp (c, r, w, lim, tol, cart, (zLy cart mis c y wov), lot, sew, mis, cnt, col, len, lef, sbt, shd) X Y out) := by
  refine zRun_of (by decide +kernel) rfl rfl (Nat.le_of_ble_eq_true rfl) ?_
  suffices hs : ∀ (o9 : zO) (h9 : zH), (Sum.inr none : zO) = o9 → (zHp (c, r, w, lim, tol, cart, (zLy cart mis c y wov), lot, sew, mis, cnt, col, len, lef, sbt, shd) X Y out) = h9 → zPW G mX4_layColors 0 0 o9 h9 0 0 0 [(0, .ref 1), (1, .int y)] [] (zHp (c, r, w, lim, tol, cart, wov, lot, sew, mis, cnt, col, len, lef, sbt, shd) X Y out) from hs _ _ rfl rfl
  intro o9 h9 ho9 hh9
  refine z_iconst (v := 0) dX4_layColors_0 (by decide) ?_
  refine z_istore_n (lv' := [(2, .int 0), (0, .ref 1), (1, .int y)]) dX4_layColors_1 rfl (by decide) rfl ?_
  have L2_1 : ∀ (d k : Nat), k ≤ c → c + 1 ≤ k + d → zPW G mX4_layColors 0 0 o9 h9 0 0 2 [(2, .int (nI k)), (0, .ref 1), (1, .int y)] [] (zHp (c, r, w, lim, tol, cart, (zIt (fun b f => zPutG f (nI b) y (if zAtN 20 mis (nI b) = -1 then zAt cart (nI b) y else zAtN 20 mis (nI b))) k wov), lot, sew, mis, cnt, col, len, lef, sbt, shd) X Y out) := by
    intro d
    induction d with
    | zero => intro k hk hd; exact absurd hd (by omega)
    | succ d ih =>
      intro k hk_k hd_k
      have ih2 := ih
      clear ih
      refine z_iload_n 0 dX4_layColors_2 rfl rfl ?_
      refine z_aload_n 1 dX4_layColors_3 rfl rfl ?_
      refine z_get (v := .int (nI c)) 0 rfl rfl inX4 (by decide) zw_207 rfl rfl dX4_layColors_4 ?_
      refine z_icmp_ge (tgt := 52) dX4_layColors_7 (by decide) (fun c_7 => ?_) (fun c_7 => ?_)
      · skip
        have hx_k := zge (by omega) hk_k c_7
        exact z_vret rfl dX4_layColors_52 ho9.symm (zo_h hh9 (by rw [zLy, hx_k])) (Nat.zero_le _) (Nat.zero_le _)
      · skip
        have hx_k := zlt' (by omega) hk_k c_7
        refine z_aload_n 1 dX4_layColors_10 rfl rfl ?_
        refine z_get (v := .ref 10) 9 rfl rfl inX4 (by decide) zw_221 rfl rfl dX4_layColors_11 ?_
        refine z_iload_n 0 dX4_layColors_14 rfl rfl ?_
        refine z_callV (N := mX6_at) 1 [.int (nI k)] [] lX6_at ⟨zw_695, zw_383, zw_384⟩ rfl rfl rfl rfl (Nat.le_of_ble_eq_true rfl) (by decide) ⟨zlt, zlt⟩ ⟨Nat.zero_le _, Nat.zero_le _⟩ (fun _ => rfl) (c_nAt (g := 10) (v := 11) (n := 20) (f := mis) (by omega) zlt rfl rfl (nI k)) dX4_layColors_15 ?_
        refine z_istore_n (lv' := [(3, .int (zAtN 20 mis (nI k))), (2, .int (nI k)), (0, .ref 1), (1, .int y)]) dX4_layColors_18 rfl (by decide) rfl ?_
        refine z_aload_n 2 dX4_layColors_19 rfl rfl ?_
        refine z_get (v := .ref 4) 6 rfl rfl inX4 (by decide) zw_218 rfl rfl dX4_layColors_20 ?_
        refine z_iload_n 1 dX4_layColors_23 rfl rfl ?_
        refine z_iload_n 3 dX4_layColors_24 rfl rfl ?_
        refine z_iload_n 0 dX4_layColors_25 rfl rfl ?_
        refine z_iconst (v := (-1)) dX4_layColors_26 (by decide) ?_
        refine z_icmp_ne (tgt := 42) dX4_layColors_27 (by decide) (fun c_27 => ?_) (fun c_27 => ?_)
        · skip
          refine z_iload_n 0 dX4_layColors_42 rfl rfl ?_
          refine z_callV (N := mX2_put) 3 [.int (nI k), .int y, .int (zAtN 20 mis (nI k))] [] lX2_put ⟨zw_667, zw_668, zw_669⟩ rfl rfl rfl rfl (Nat.le_of_ble_eq_true rfl) (by decide) ⟨zlt, zlt⟩ ⟨Nat.zero_le _, Nat.zero_le _⟩ (fun _ => rfl) (c_gPut (g := 4) (v := 5) (f := (zIt (fun b f => zPutG f (nI b) y (if zAtN 20 mis (nI b) = -1 then zAt cart (nI b) y else zAtN 20 mis (nI b))) k wov)) (h1 := (zHp (c, r, w, lim, tol, cart, (zPutG (zIt (fun b f => zPutG f (nI b) y (if zAtN 20 mis (nI b) = -1 then zAt cart (nI b) y else zAtN 20 mis (nI b))) k wov) (nI k) y (zAtN 20 mis (nI k))), lot, sew, mis, cnt, col, len, lef, sbt, shd) X Y out)) zlt rfl rfl (nI k) y (zAtN 20 mis (nI k)) rfl) dX4_layColors_43 ?_
          refine z_iinc (v := nI (k + 1)) (lv' := [(2, .int (nI (k + 1))), (3, .int (zAtN 20 mis (nI k))), (0, .ref 1), (1, .int y)]) 1 dX4_layColors_46 rfl (nI_1 k) (by decide) rfl ?_
          refine z_goto (tgt := 2) dX4_layColors_49 (by decide) ?_
          refine z_sub [0, 2, 3] (lv' := [(2, .int (nI (k + 1))), (0, .ref 1), (1, .int y)]) rfl ?_
          refine z_eqs (lv2 := [(2, .int (nI (k + 1))), (0, .ref 1), (1, .int y)]) (h2 := (zHp (c, r, w, lim, tol, cart, (zIt (fun b f => zPutG f (nI b) y (if zAtN 20 mis (nI b) = -1 then zAt cart (nI b) y else zAtN 20 mis (nI b))) (k + 1) wov), lot, sew, mis, cnt, col, len, lef, sbt, shd) X Y out)) (by rfl) (by rw [zIt]; first | rw [if_pos c_27] | rw [if_neg c_27]) ?_
          exact ih2 (k + 1) (by omega) (by omega)
        · skip
          refine z_aload_n 2 dX4_layColors_30 rfl rfl ?_
          refine z_get (v := .ref 2) 5 rfl rfl inX4 (by decide) zw_216 rfl rfl dX4_layColors_31 ?_
          refine z_iload_n 1 dX4_layColors_34 rfl rfl ?_
          refine z_iload_n 3 dX4_layColors_35 rfl rfl ?_
          refine z_callV (N := mX2_at) 2 [.int (nI k), .int y] [.int y, .int (nI k), .ref 4] lX2_at ⟨zw_345, zw_346, zw_347⟩ rfl rfl rfl rfl (Nat.le_of_ble_eq_true rfl) (by decide) ⟨zlt, zlt⟩ ⟨Nat.zero_le _, Nat.zero_le _⟩ (fun _ => rfl) (c_gAt (g := 2) (v := 3) (f := cart) hG zlt rfl rfl (nI k) y) dX4_layColors_36 ?_
          refine z_goto (tgt := 43) dX4_layColors_39 (by decide) ?_
          refine z_callV (N := mX2_put) 3 [.int (nI k), .int y, .int (zAt cart (nI k) y)] [] lX2_put ⟨zw_667, zw_668, zw_669⟩ rfl rfl rfl rfl (Nat.le_of_ble_eq_true rfl) (by decide) ⟨zlt, zlt⟩ ⟨Nat.zero_le _, Nat.zero_le _⟩ (fun _ => rfl) (c_gPut (g := 4) (v := 5) (f := (zIt (fun b f => zPutG f (nI b) y (if zAtN 20 mis (nI b) = -1 then zAt cart (nI b) y else zAtN 20 mis (nI b))) k wov)) (h1 := (zHp (c, r, w, lim, tol, cart, (zPutG (zIt (fun b f => zPutG f (nI b) y (if zAtN 20 mis (nI b) = -1 then zAt cart (nI b) y else zAtN 20 mis (nI b))) k wov) (nI k) y (zAt cart (nI k) y)), lot, sew, mis, cnt, col, len, lef, sbt, shd) X Y out)) zlt rfl rfl (nI k) y (zAt cart (nI k) y) rfl) dX4_layColors_43 ?_
          refine z_iinc (v := nI (k + 1)) (lv' := [(2, .int (nI (k + 1))), (3, .int (zAtN 20 mis (nI k))), (0, .ref 1), (1, .int y)]) 1 dX4_layColors_46 rfl (nI_1 k) (by decide) rfl ?_
          refine z_goto (tgt := 2) dX4_layColors_49 (by decide) ?_
          refine z_sub [0, 2, 3] (lv' := [(2, .int (nI (k + 1))), (0, .ref 1), (1, .int y)]) rfl ?_
          refine z_eqs (lv2 := [(2, .int (nI (k + 1))), (0, .ref 1), (1, .int y)]) (h2 := (zHp (c, r, w, lim, tol, cart, (zIt (fun b f => zPutG f (nI b) y (if zAtN 20 mis (nI b) = -1 then zAt cart (nI b) y else zAtN 20 mis (nI b))) (k + 1) wov), lot, sew, mis, cnt, col, len, lef, sbt, shd) X Y out)) (by rfl) (by rw [zIt]; first | rw [if_pos c_27] | rw [if_neg c_27]) ?_
          exact ih2 (k + 1) (by omega) (by omega)
  refine z_sub [0, 1, 2] (lv' := [(2, .int 0), (0, .ref 1), (1, .int y)]) rfl ?_
  refine z_eqs (lv2 := [(2, .int (nI 0)), (0, .ref 1), (1, .int y)]) (h2 := (zHp (c, r, w, lim, tol, cart, (zIt (fun b f => zPutG f (nI b) y (if zAtN 20 mis (nI b) = -1 then zAt cart (nI b) y else zAtN 20 mis (nI b))) 0 wov), lot, sew, mis, cnt, col, len, lef, sbt, shd) X Y out)) (by rfl) (by rfl) ?_
  exact L2_1 (c + 1) 0 (Nat.zero_le _) (by omega)

set_option maxHeartbeats 4000000 in
set_option maxRecDepth 100000 in
theorem c_hasYarn {G : zT} {c r w lim cnt : Nat} {tol : Int32} {cart wov lot sew mis col len lef sbt : Nat → Int32} {shd : Nat → UInt32} {X : zXr} {Y : zYr} {out : Nat → Int64} (hG : zAl G = false) (hc : c ≤ 20) (hr : r ≤ 16) (hw : w ≤ r) (hn : cnt ≤ 16) (y : Int32) : zRun G mX4_hasYarnFor 0 0 [.ref 1, .int y] (zHp (c, r, w, lim, tol, cart, wov, lot, sew, mis, cnt, col, len, lef, sbt, shd) X Y out) (.inr (some (.int (zB (zAF (zHyP wov col lef c cnt y) 0 8))))) (zHp (c, r, w, lim, tol, cart, wov, lot, sew, mis, cnt, col, len, lef, sbt, shd) X Y out) := by
  refine zRun_of (by decide +kernel) rfl rfl (Nat.le_of_ble_eq_true rfl) ?_
  suffices hs : ∀ (o9 : zO) (h9 : zH), (Sum.inr (some (.int (zB (zAF (zHyP wov col lef c cnt y) 0 8)))) : zO) = o9 → (zHp (c, r, w, lim, tol, cart, wov, lot, sew, mis, cnt, col, len, lef, sbt, shd) X Y out) = h9 → zPW G mX4_hasYarnFor 0 0 o9 h9 0 0 0 [(0, .ref 1), (1, .int y)] [] (zHp (c, r, w, lim, tol, cart, wov, lot, sew, mis, cnt, col, len, lef, sbt, shd) X Y out) from hs _ _ rfl rfl
  intro o9 h9 ho9 hh9
  refine z_iconst (v := 0) dX4_hasYarnFor_0 (by decide) ?_
  refine z_istore_n (lv' := [(2, .int 0), (0, .ref 1), (1, .int y)]) dX4_hasYarnFor_1 rfl (by decide) rfl ?_
  have L2_1 : ∀ (d k : Nat), k ≤ 8 → 8 + 1 ≤ k + d → zAF (zHyP wov col lef c cnt y) 0 8 = zAF (zHyP wov col lef c cnt y) k (8 - k) → zPW G mX4_hasYarnFor 0 0 o9 h9 0 0 2 [(2, .int (nI k)), (0, .ref 1), (1, .int y)] [] (zHp (c, r, w, lim, tol, cart, wov, lot, sew, mis, cnt, col, len, lef, sbt, shd) X Y out) := by
    intro d
    induction d with
    | zero => intro k hk hd; exact absurd hd (by omega)
    | succ d ih =>
      intro k hk_k hd_k he_k
      have ih2 := ih
      clear ih
      refine z_iload_n 0 dX4_hasYarnFor_2 rfl rfl ?_
      refine z_bipush (v := nI 8) dX4_hasYarnFor_3 (by decide) ?_
      refine z_icmp_ge (tgt := 40) dX4_hasYarnFor_5 (by decide) (fun c_5 => ?_) (fun c_5 => ?_)
      · skip
        have hx_k := zge (by omega) hk_k c_5
        refine z_iconst (v := 1) dX4_hasYarnFor_40 (by decide) ?_
        exact z_zret rfl (by rfl) dX4_hasYarnFor_41 (zo_i ho9 (by rw [he_k, hx_k, Nat.sub_self, zAF]; rfl)) (zo_h hh9 (by rfl)) (Nat.zero_le _) (Nat.zero_le _)
      · skip
        have hx_k := zlt' (by omega) hk_k c_5
        refine z_aload_n 1 dX4_hasYarnFor_8 rfl rfl ?_
        refine z_get (v := .ref 4) 6 rfl rfl inX4 (by decide) zw_218 rfl rfl dX4_hasYarnFor_9 ?_
        refine z_iload_n 0 dX4_hasYarnFor_12 rfl rfl ?_
        refine z_iload_n 2 dX4_hasYarnFor_13 rfl rfl ?_
        refine z_aload_n 1 dX4_hasYarnFor_14 rfl rfl ?_
        refine z_get (v := .int (nI c)) 0 rfl rfl inX4 (by decide) zw_207 rfl rfl dX4_hasYarnFor_15 ?_
        refine z_callV (N := mX2_unitsOf) 3 [.int (nI k), .int y, .int (nI c)] [] lX2_unitsOf ⟨zw_386, zw_387, zw_388⟩ rfl rfl rfl rfl (Nat.le_of_ble_eq_true rfl) (by decide) ⟨zlt, zlt⟩ ⟨Nat.zero_le _, Nat.zero_le _⟩ (fun _ => rfl) (c_gUnits (g := 4) (v := 5) (f := wov) hG zlt rfl rfl (nI k) y (c := c) (by omega)) dX4_hasYarnFor_18 ?_
        refine z_aload_n 1 dX4_hasYarnFor_21 rfl rfl ?_
        refine z_get (v := .ref 12) 10 rfl rfl inX4 (by decide) zw_222 rfl rfl dX4_hasYarnFor_22 ?_
        refine z_iload_n 0 dX4_hasYarnFor_25 rfl rfl ?_
        refine z_callV (N := mX5_leftOf) 1 [.int (nI k)] [.int (nI (zCe wov (nI k) y c + zRo wov (nI k) y c))] lX5_leftOf ⟨zw_378, zw_379, zw_380⟩ rfl rfl rfl rfl (Nat.le_of_ble_eq_true rfl) (by decide) ⟨zlt, zlt⟩ ⟨Nat.zero_le _, Nat.zero_le _⟩ (fun _ => rfl) (c_lLeft hG hc hr hw hn (nI k)) dX4_hasYarnFor_26 ?_
        refine z_icmp_le (tgt := 34) dX4_hasYarnFor_29 (by decide) (fun c_29 => ?_) (fun c_29 => ?_)
        · skip
          refine z_iinc (v := nI (k + 1)) (lv' := [(2, .int (nI (k + 1))), (0, .ref 1), (1, .int y)]) 0 dX4_hasYarnFor_34 rfl (nI_1 k) (by decide) rfl ?_
          refine z_goto (tgt := 2) dX4_hasYarnFor_37 (by decide) ?_
          refine z_sub [0, 1, 2] (lv' := [(2, .int (nI (k + 1))), (0, .ref 1), (1, .int y)]) rfl ?_
          refine z_eqs (lv2 := [(2, .int (nI (k + 1))), (0, .ref 1), (1, .int y)]) (h2 := (zHp (c, r, w, lim, tol, cart, wov, lot, sew, mis, cnt, col, len, lef, sbt, shd) X Y out)) (by rfl) (by rfl) ?_
          exact ih2 (k + 1) (by omega) (by omega) (by rw [he_k, show 8 - k = (8 - (k + 1)) + 1 by omega, zAF, if_pos (decide_eq_true c_29)])
        · skip
          refine z_iconst (v := 0) dX4_hasYarnFor_32 (by decide) ?_
          exact z_zret rfl (by rfl) dX4_hasYarnFor_33 (zo_i ho9 (by rw [he_k, show 8 - k = (8 - (k + 1)) + 1 by omega, zAF, if_neg (fun q => c_29 (of_decide_eq_true q))]; rfl)) (zo_h hh9 (by rfl)) (Nat.zero_le _) (Nat.zero_le _)
  refine z_sub [0, 1, 2] (lv' := [(2, .int 0), (0, .ref 1), (1, .int y)]) rfl ?_
  refine z_eqs (lv2 := [(2, .int (nI 0)), (0, .ref 1), (1, .int y)]) (h2 := (zHp (c, r, w, lim, tol, cart, wov, lot, sew, mis, cnt, col, len, lef, sbt, shd) X Y out)) (by rfl) (by rfl) ?_
  exact L2_1 (8 + 1) 0 (Nat.zero_le _) (by omega) rfl

/-- the cells of the row are taken, one after the other: what is left, the lots of the cells -/
def zWkB (wv col : Nat → Int32) (w cnt : Nat) : Nat → (Nat → Int32) × (Nat → Int32) → (Nat → Int32) × (Nat → Int32) := (fun b (s : (Nat → Int32) × (Nat → Int32)) => let l1 := if zSt wv (nI b) (nI w) then zTk col s.1 (zAt wv (nI b) (nI w)) cnt else s.1; (zTk col l1 (zAt wv (nI b) (nI w)) cnt, zPutG s.2 (nI b) (nI w) (zIu col l1 (zAt wv (nI b) (nI w)) 0 cnt)))
def zWk (wv col lef lot : Nat → Int32) (c w cnt : Nat) : (Nat → Int32) × (Nat → Int32) := zIt (zWkB wv col w cnt) c (lef, lot)
/-- what weaving a row changes: the woven rows, woven, lots of cells, left, mistakes -/
abbrev zWt : Type := Nat × (Nat → Int32) × (Nat → Int32) × (Nat → Int32) × (Nat → Int32)
def zWn (c r cnt : Nat) (cart col : Nat → Int32) (t : zWt) : Bool × zWt :=
  if r ≤ t.1 then (false, t) else
  let wv := zLy cart t.2.2.2.2 c (nI t.1) t.2.1
  if zAF (zHyP wv col t.2.2.2.1 c cnt (nI t.1)) 0 8 then
    let q := zWk wv col t.2.2.2.1 t.2.2.1 c t.1 cnt
    (true, (t.1 + 1, wv, q.2, q.1, zFl (fun _ => (-1)) t.2.2.2.2 20))
  else (false, (t.1, wv, t.2.2.1, t.2.2.2.1, t.2.2.2.2))

set_option maxHeartbeats 4000000 in
set_option maxRecDepth 100000 in
theorem c_weaveNext {G : zT} {c r w lim cnt : Nat} {tol : Int32} {cart wov lot sew mis col len lef sbt : Nat → Int32} {shd : Nat → UInt32} {X : zXr} {Y : zYr} {out : Nat → Int64} (hG : zAl G = false) (hc : c ≤ 20) (hr : r ≤ 16) (hw : w ≤ r) (hn : cnt ≤ 16) : zRun G mX4_weaveNext 0 0 [.ref 1] (zHp (c, r, w, lim, tol, cart, wov, lot, sew, mis, cnt, col, len, lef, sbt, shd) X Y out) (.inr (some (.int (zB (zWn c r cnt cart col (w, wov, lot, lef, mis)).1)))) (zHp (c, r, (zWn c r cnt cart col (w, wov, lot, lef, mis)).2.1, lim, tol, cart, (zWn c r cnt cart col (w, wov, lot, lef, mis)).2.2.1, (zWn c r cnt cart col (w, wov, lot, lef, mis)).2.2.2.1, sew, (zWn c r cnt cart col (w, wov, lot, lef, mis)).2.2.2.2.2, cnt, col, len, (zWn c r cnt cart col (w, wov, lot, lef, mis)).2.2.2.2.1, sbt, shd) X Y out) := by
  refine zRun_of (by decide +kernel) rfl rfl (Nat.le_of_ble_eq_true rfl) ?_
  suffices hs : ∀ (o9 : zO) (h9 : zH), (Sum.inr (some (.int (zB (zWn c r cnt cart col (w, wov, lot, lef, mis)).1))) : zO) = o9 → (zHp (c, r, (zWn c r cnt cart col (w, wov, lot, lef, mis)).2.1, lim, tol, cart, (zWn c r cnt cart col (w, wov, lot, lef, mis)).2.2.1, (zWn c r cnt cart col (w, wov, lot, lef, mis)).2.2.2.1, sew, (zWn c r cnt cart col (w, wov, lot, lef, mis)).2.2.2.2.2, cnt, col, len, (zWn c r cnt cart col (w, wov, lot, lef, mis)).2.2.2.2.1, sbt, shd) X Y out) = h9 → zPW G mX4_weaveNext 0 0 o9 h9 0 0 0 [(0, .ref 1)] [] (zHp (c, r, w, lim, tol, cart, wov, lot, sew, mis, cnt, col, len, lef, sbt, shd) X Y out) from hs _ _ rfl rfl
  intro o9 h9 ho9 hh9
  refine z_aload_n 0 dX4_weaveNext_0 rfl rfl ?_
  refine z_get (v := .int (nI w)) 2 rfl rfl inX4 (by decide) zw_211 rfl rfl dX4_weaveNext_1 ?_
  refine z_istore_n (lv' := [(1, .int (nI w)), (0, .ref 1)]) dX4_weaveNext_4 rfl (by decide) rfl ?_
  refine z_iload_n 0 dX4_weaveNext_5 rfl rfl ?_
  refine z_aload_n 1 dX4_weaveNext_6 rfl rfl ?_
  refine z_get (v := .int (nI r)) 1 rfl rfl inX4 (by decide) zw_209 rfl rfl dX4_weaveNext_7 ?_
  refine z_icmp_lt (tgt := 15) dX4_weaveNext_10 (by decide) (fun c_10 => ?_) (fun c_10 => ?_)
  · skip
    have hwr : w < r := (nI_ltI (by omega) (by omega)).mp c_10
    refine z_aload_n 1 dX4_weaveNext_15 rfl rfl ?_
    refine z_iload_n 0 dX4_weaveNext_16 rfl rfl ?_
    refine z_callV (N := mX4_layColors) 1 [.int (nI w)] [] lX4_layColors ⟨zw_691, zw_693, zw_23⟩ rfl rfl rfl rfl (Nat.le_of_ble_eq_true rfl) (by decide) ⟨zlt, zlt⟩ ⟨Nat.zero_le _, Nat.zero_le _⟩ (fun _ => rfl) (c_layColors hG hc hr hw hn (nI w)) dX4_weaveNext_17 ?_
    refine z_aload_n 1 dX4_weaveNext_20 rfl rfl ?_
    refine z_iload_n 0 dX4_weaveNext_21 rfl rfl ?_
    refine z_callV (N := mX4_hasYarnFor) 1 [.int (nI w)] [] lX4_hasYarnFor ⟨zw_696, zw_698, zw_24⟩ rfl rfl rfl rfl (Nat.le_of_ble_eq_true rfl) (by decide) ⟨zlt, zlt⟩ ⟨Nat.zero_le _, Nat.zero_le _⟩ (fun _ => rfl) (c_hasYarn hG hc hr hw hn (nI w)) dX4_weaveNext_22 ?_
    refine z_if_ne (tgt := 30) dX4_weaveNext_25 (by decide) (fun c_25 => ?_) (fun c_25 => ?_)
    · skip
      have b_25 := zB_tt c_25
      refine z_iconst (v := 0) dX4_weaveNext_30 (by decide) ?_
      refine z_istore_n (lv' := [(2, .int 0), (1, .int (nI w)), (0, .ref 1)]) dX4_weaveNext_31 rfl (by decide) rfl ?_
      have L32_1 : ∀ (d k : Nat), k ≤ c → c + 1 ≤ k + d → zPW G mX4_weaveNext 0 0 o9 h9 0 0 32 [(2, .int (nI k)), (0, .ref 1), (1, .int (nI w))] [] (zHp (c, r, w, lim, tol, cart, (zLy cart mis c (nI w) wov), (zIt (zWkB (zLy cart mis c (nI w) wov) col w cnt) k (lef, lot)).2, sew, mis, cnt, col, len, (zIt (zWkB (zLy cart mis c (nI w) wov) col w cnt) k (lef, lot)).1, sbt, shd) X Y out) := by
        intro d
        induction d with
        | zero => intro k hk hd; exact absurd hd (by omega)
        | succ d ih =>
          intro k hk_k hd_k
          have ih32 := ih
          clear ih
          refine z_iload_n 0 dX4_weaveNext_32 rfl rfl ?_
          refine z_aload_n 1 dX4_weaveNext_33 rfl rfl ?_
          refine z_get (v := .int (nI c)) 0 rfl rfl inX4 (by decide) zw_207 rfl rfl dX4_weaveNext_34 ?_
          refine z_icmp_ge (tgt := 94) dX4_weaveNext_37 (by decide) (fun c_37 => ?_) (fun c_37 => ?_)
          · skip
            have hx_k := zge (by omega) hk_k c_37
            refine z_aload_n 1 dX4_weaveNext_94 rfl rfl ?_
            refine z_get (v := .ref 10) 9 rfl rfl inX4 (by decide) zw_221 rfl rfl dX4_weaveNext_95 ?_
            refine z_iconst (v := (-1)) dX4_weaveNext_98 (by decide) ?_
            refine z_callV (N := mX6_putAll) 1 [.int ((-1))] [] lX6_putAll ⟨zw_203, zw_204, zw_205⟩ rfl rfl rfl rfl (Nat.le_of_ble_eq_true rfl) (by decide) ⟨zlt, zlt⟩ ⟨Nat.zero_le _, Nat.zero_le _⟩ (fun _ => rfl) (c_nPutAll (g := 10) (v := 11) (n := 20) (f := mis) (h1 := (zHp (c, r, w, lim, tol, cart, (zLy cart mis c (nI w) wov), (zIt (zWkB (zLy cart mis c (nI w) wov) col w cnt) k (lef, lot)).2, sew, (zFl (fun _ => (-1)) mis 20), cnt, col, len, (zIt (zWkB (zLy cart mis c (nI w) wov) col w cnt) k (lef, lot)).1, sbt, shd) X Y out)) (by omega) zlt rfl rfl (-1) rfl) dX4_weaveNext_99 ?_
            refine z_aload_n 1 dX4_weaveNext_102 rfl rfl ?_
            refine z_dup dX4_weaveNext_103 rfl ?_
            refine z_get (v := .int (nI w)) 2 rfl rfl inX4 (by decide) zw_211 rfl rfl dX4_weaveNext_104 ?_
            refine z_iconst (v := 1) dX4_weaveNext_107 (by decide) ?_
            refine z_iadd dX4_weaveNext_108 ?_
            refine z_top (v2 := .int (nI (w + 1))) (by rw [nI_1]) ?_
            refine z_puti 2 tyX4 rfl rfl inX4 tyX4_ok nmX4 (by decide) zw_211 rfl rfl (by decide +kernel) (by decide) dX4_weaveNext_109 ?_
            refine z_eqh (h2 := (zHp (c, r, (w + 1), lim, tol, cart, (zLy cart mis c (nI w) wov), (zIt (zWkB (zLy cart mis c (nI w) wov) col w cnt) k (lef, lot)).2, sew, (zFl (fun _ => (-1)) mis 20), cnt, col, len, (zIt (zWkB (zLy cart mis c (nI w) wov) col w cnt) k (lef, lot)).1, sbt, shd) X Y out)) rfl ?_
            refine z_iconst (v := 1) dX4_weaveNext_112 (by decide) ?_
            exact z_zret rfl (by rfl) dX4_weaveNext_113 (zo_i ho9 (by simp only [zWn, if_neg (Nat.not_le.mpr hwr), b_25, if_true]; rfl)) (zo_h hh9 (by simp only [zWn, if_neg (Nat.not_le.mpr hwr), b_25, if_true, zWk, hx_k])) (Nat.zero_le _) (Nat.zero_le _)
          · skip
            have hx_k := zlt' (by omega) hk_k c_37
            refine z_aload_n 1 dX4_weaveNext_40 rfl rfl ?_
            refine z_get (v := .ref 4) 6 rfl rfl inX4 (by decide) zw_218 rfl rfl dX4_weaveNext_41 ?_
            refine z_iload_n 0 dX4_weaveNext_44 rfl rfl ?_
            refine z_iload_n 2 dX4_weaveNext_45 rfl rfl ?_
            refine z_callV (N := mX2_at) 2 [.int (nI k), .int (nI w)] [] lX2_at ⟨zw_345, zw_346, zw_347⟩ rfl rfl rfl rfl (Nat.le_of_ble_eq_true rfl) (by decide) ⟨zlt, zlt⟩ ⟨Nat.zero_le _, Nat.zero_le _⟩ (fun _ => rfl) (c_gAt (g := 4) (v := 5) (f := (zLy cart mis c (nI w) wov)) hG zlt rfl rfl (nI k) (nI w)) dX4_weaveNext_46 ?_
            refine z_istore_n (lv' := [(3, .int (zAt (zLy cart mis c (nI w) wov) (nI k) (nI w))), (2, .int (nI k)), (0, .ref 1), (1, .int (nI w))]) dX4_weaveNext_49 rfl (by decide) rfl ?_
            refine z_aload_n 2 dX4_weaveNext_50 rfl rfl ?_
            refine z_get (v := .ref 4) 6 rfl rfl inX4 (by decide) zw_218 rfl rfl dX4_weaveNext_51 ?_
            refine z_iload_n 1 dX4_weaveNext_54 rfl rfl ?_
            refine z_iload_n 3 dX4_weaveNext_55 rfl rfl ?_
            refine z_callV (N := mX2_startsRun) 2 [.int (nI k), .int (nI w)] [] lX2_startsRun ⟨zw_700, zw_701, zw_702⟩ rfl rfl rfl rfl (Nat.le_of_ble_eq_true rfl) (by decide) ⟨zlt, zlt⟩ ⟨Nat.zero_le _, Nat.zero_le _⟩ (fun _ => rfl) (c_gStarts (g := 4) (v := 5) (f := (zLy cart mis c (nI w) wov)) hG zlt rfl rfl (nI k) (nI w)) dX4_weaveNext_56 ?_
            refine z_if_eq (tgt := 71) dX4_weaveNext_59 (by decide) (fun c_59 => ?_) (fun c_59 => ?_)
            · skip
              have b_59 := zB_0.mp c_59
              refine z_aload_n 2 dX4_weaveNext_71 rfl rfl ?_
              refine z_get (v := .ref 6) 7 rfl rfl inX4 (by decide) zw_219 rfl rfl dX4_weaveNext_72 ?_
              refine z_iload_n 1 dX4_weaveNext_75 rfl rfl ?_
              refine z_iload_n 3 dX4_weaveNext_76 rfl rfl ?_
              refine z_aload_n 2 dX4_weaveNext_77 rfl rfl ?_
              refine z_get (v := .ref 12) 10 rfl rfl inX4 (by decide) zw_222 rfl rfl dX4_weaveNext_78 ?_
              refine z_iload_n 0 dX4_weaveNext_81 rfl rfl ?_
              refine z_callV (N := mX5_take) 1 [.int (zAt (zLy cart mis c (nI w) wov) (nI k) (nI w))] [.int (nI w), .int (nI k), .ref 6] lX5_take ⟨zw_704, zw_705, zw_706⟩ rfl rfl rfl rfl (Nat.le_of_ble_eq_true rfl) (by decide) ⟨zlt, zlt⟩ ⟨Nat.zero_le _, Nat.zero_le _⟩ (fun _ => rfl) (c_take hG hc hr hw hn (zAt (zLy cart mis c (nI w) wov) (nI k) (nI w))) dX4_weaveNext_82 ?_
              refine z_callV (N := mX2_put) 3 [.int (nI k), .int (nI w), .int (zIu col ((zIt (zWkB (zLy cart mis c (nI w) wov) col w cnt) k (lef, lot)).1) (zAt (zLy cart mis c (nI w) wov) (nI k) (nI w)) 0 cnt)] [] lX2_put ⟨zw_667, zw_668, zw_669⟩ rfl rfl rfl rfl (Nat.le_of_ble_eq_true rfl) (by decide) ⟨zlt, zlt⟩ ⟨Nat.zero_le _, Nat.zero_le _⟩ (fun _ => rfl) (c_gPut (g := 6) (v := 7) (f := (zIt (zWkB (zLy cart mis c (nI w) wov) col w cnt) k (lef, lot)).2) (h1 := (zHp (c, r, w, lim, tol, cart, (zLy cart mis c (nI w) wov), (zPutG ((zIt (zWkB (zLy cart mis c (nI w) wov) col w cnt) k (lef, lot)).2) (nI k) (nI w) (zIu col ((zIt (zWkB (zLy cart mis c (nI w) wov) col w cnt) k (lef, lot)).1) (zAt (zLy cart mis c (nI w) wov) (nI k) (nI w)) 0 cnt)), sew, mis, cnt, col, len, (zTk col ((zIt (zWkB (zLy cart mis c (nI w) wov) col w cnt) k (lef, lot)).1) (zAt (zLy cart mis c (nI w) wov) (nI k) (nI w)) cnt), sbt, shd) X Y out)) zlt rfl rfl (nI k) (nI w) (zIu col ((zIt (zWkB (zLy cart mis c (nI w) wov) col w cnt) k (lef, lot)).1) (zAt (zLy cart mis c (nI w) wov) (nI k) (nI w)) 0 cnt) rfl) dX4_weaveNext_85 ?_
              refine z_iinc (v := nI (k + 1)) (lv' := [(2, .int (nI (k + 1))), (3, .int (zAt (zLy cart mis c (nI w) wov) (nI k) (nI w))), (0, .ref 1), (1, .int (nI w))]) 1 dX4_weaveNext_88 rfl (nI_1 k) (by decide) rfl ?_
              refine z_goto (tgt := 32) dX4_weaveNext_91 (by decide) ?_
              refine z_sub [0, 2, 3] (lv' := [(2, .int (nI (k + 1))), (0, .ref 1), (1, .int (nI w))]) rfl ?_
              refine z_eqs (lv2 := [(2, .int (nI (k + 1))), (0, .ref 1), (1, .int (nI w))]) (h2 := (zHp (c, r, w, lim, tol, cart, (zLy cart mis c (nI w) wov), (zIt (zWkB (zLy cart mis c (nI w) wov) col w cnt) (k + 1) (lef, lot)).2, sew, mis, cnt, col, len, (zIt (zWkB (zLy cart mis c (nI w) wov) col w cnt) (k + 1) (lef, lot)).1, sbt, shd) X Y out)) (by rfl) (by simp only [zIt, zWkB, b_59, if_true, if_false, Bool.false_eq_true]) ?_
              exact ih32 (k + 1) (by omega) (by omega)
            · skip
              have b_59 := zB_tt c_59
              refine z_aload_n 2 dX4_weaveNext_62 rfl rfl ?_
              refine z_get (v := .ref 12) 10 rfl rfl inX4 (by decide) zw_222 rfl rfl dX4_weaveNext_63 ?_
              refine z_iload_n 0 dX4_weaveNext_66 rfl rfl ?_
              refine z_callV (N := mX5_take) 1 [.int (zAt (zLy cart mis c (nI w) wov) (nI k) (nI w))] [] lX5_take ⟨zw_704, zw_705, zw_706⟩ rfl rfl rfl rfl (Nat.le_of_ble_eq_true rfl) (by decide) ⟨zlt, zlt⟩ ⟨Nat.zero_le _, Nat.zero_le _⟩ (fun _ => rfl) (c_take hG hc hr hw hn (zAt (zLy cart mis c (nI w) wov) (nI k) (nI w))) dX4_weaveNext_67 ?_
              refine z_pop dX4_weaveNext_70 rfl ?_
              refine z_aload_n 2 dX4_weaveNext_71 rfl rfl ?_
              refine z_get (v := .ref 6) 7 rfl rfl inX4 (by decide) zw_219 rfl rfl dX4_weaveNext_72 ?_
              refine z_iload_n 1 dX4_weaveNext_75 rfl rfl ?_
              refine z_iload_n 3 dX4_weaveNext_76 rfl rfl ?_
              refine z_aload_n 2 dX4_weaveNext_77 rfl rfl ?_
              refine z_get (v := .ref 12) 10 rfl rfl inX4 (by decide) zw_222 rfl rfl dX4_weaveNext_78 ?_
              refine z_iload_n 0 dX4_weaveNext_81 rfl rfl ?_
              refine z_callV (N := mX5_take) 1 [.int (zAt (zLy cart mis c (nI w) wov) (nI k) (nI w))] [.int (nI w), .int (nI k), .ref 6] lX5_take ⟨zw_704, zw_705, zw_706⟩ rfl rfl rfl rfl (Nat.le_of_ble_eq_true rfl) (by decide) ⟨zlt, zlt⟩ ⟨Nat.zero_le _, Nat.zero_le _⟩ (fun _ => rfl) (c_take hG hc hr hw hn (zAt (zLy cart mis c (nI w) wov) (nI k) (nI w))) dX4_weaveNext_82 ?_
              refine z_callV (N := mX2_put) 3 [.int (nI k), .int (nI w), .int (zIu col (zTk col ((zIt (zWkB (zLy cart mis c (nI w) wov) col w cnt) k (lef, lot)).1) (zAt (zLy cart mis c (nI w) wov) (nI k) (nI w)) cnt) (zAt (zLy cart mis c (nI w) wov) (nI k) (nI w)) 0 cnt)] [] lX2_put ⟨zw_667, zw_668, zw_669⟩ rfl rfl rfl rfl (Nat.le_of_ble_eq_true rfl) (by decide) ⟨zlt, zlt⟩ ⟨Nat.zero_le _, Nat.zero_le _⟩ (fun _ => rfl) (c_gPut (g := 6) (v := 7) (f := (zIt (zWkB (zLy cart mis c (nI w) wov) col w cnt) k (lef, lot)).2) (h1 := (zHp (c, r, w, lim, tol, cart, (zLy cart mis c (nI w) wov), (zPutG ((zIt (zWkB (zLy cart mis c (nI w) wov) col w cnt) k (lef, lot)).2) (nI k) (nI w) (zIu col (zTk col ((zIt (zWkB (zLy cart mis c (nI w) wov) col w cnt) k (lef, lot)).1) (zAt (zLy cart mis c (nI w) wov) (nI k) (nI w)) cnt) (zAt (zLy cart mis c (nI w) wov) (nI k) (nI w)) 0 cnt)), sew, mis, cnt, col, len, (zTk col (zTk col ((zIt (zWkB (zLy cart mis c (nI w) wov) col w cnt) k (lef, lot)).1) (zAt (zLy cart mis c (nI w) wov) (nI k) (nI w)) cnt) (zAt (zLy cart mis c (nI w) wov) (nI k) (nI w)) cnt), sbt, shd) X Y out)) zlt rfl rfl (nI k) (nI w) (zIu col (zTk col ((zIt (zWkB (zLy cart mis c (nI w) wov) col w cnt) k (lef, lot)).1) (zAt (zLy cart mis c (nI w) wov) (nI k) (nI w)) cnt) (zAt (zLy cart mis c (nI w) wov) (nI k) (nI w)) 0 cnt) rfl) dX4_weaveNext_85 ?_
              refine z_iinc (v := nI (k + 1)) (lv' := [(2, .int (nI (k + 1))), (3, .int (zAt (zLy cart mis c (nI w) wov) (nI k) (nI w))), (0, .ref 1), (1, .int (nI w))]) 1 dX4_weaveNext_88 rfl (nI_1 k) (by decide) rfl ?_
              refine z_goto (tgt := 32) dX4_weaveNext_91 (by decide) ?_
              refine z_sub [0, 2, 3] (lv' := [(2, .int (nI (k + 1))), (0, .ref 1), (1, .int (nI w))]) rfl ?_
              refine z_eqs (lv2 := [(2, .int (nI (k + 1))), (0, .ref 1), (1, .int (nI w))]) (h2 := (zHp (c, r, w, lim, tol, cart, (zLy cart mis c (nI w) wov), (zIt (zWkB (zLy cart mis c (nI w) wov) col w cnt) (k + 1) (lef, lot)).2, sew, mis, cnt, col, len, (zIt (zWkB (zLy cart mis c (nI w) wov) col w cnt) (k + 1) (lef, lot)).1, sbt, shd) X Y out)) (by rfl) (by simp only [zIt, zWkB, b_59, if_true, if_false, Bool.false_eq_true]) ?_
              exact ih32 (k + 1) (by omega) (by omega)
      refine z_sub [0, 2, 1] (lv' := [(2, .int 0), (0, .ref 1), (1, .int (nI w))]) rfl ?_
      refine z_eqs (lv2 := [(2, .int (nI 0)), (0, .ref 1), (1, .int (nI w))]) (h2 := (zHp (c, r, w, lim, tol, cart, (zLy cart mis c (nI w) wov), (zIt (zWkB (zLy cart mis c (nI w) wov) col w cnt) 0 (lef, lot)).2, sew, mis, cnt, col, len, (zIt (zWkB (zLy cart mis c (nI w) wov) col w cnt) 0 (lef, lot)).1, sbt, shd) X Y out)) (by rfl) (by rfl) ?_
      exact L32_1 (c + 1) 0 (Nat.zero_le _) (by omega)
    · skip
      have b_25 := zB_0.mp c_25
      refine z_iconst (v := 0) dX4_weaveNext_28 (by decide) ?_
      exact z_zret rfl (by rfl) dX4_weaveNext_29 (zo_i ho9 (by simp only [zWn, if_neg (Nat.not_le.mpr hwr), b_25, Bool.false_eq_true, if_false]; rfl)) (zo_h hh9 (by simp only [zWn, if_neg (Nat.not_le.mpr hwr), b_25, Bool.false_eq_true, if_false])) (Nat.zero_le _) (Nat.zero_le _)
  · skip
    have hwr : r ≤ w := Nat.not_lt.mp fun q => c_10 ((nI_ltI (by omega) (by omega)).mpr q)
    refine z_iconst (v := 0) dX4_weaveNext_13 (by decide) ?_
    exact z_zret rfl (by rfl) dX4_weaveNext_14 (zo_i ho9 (by rw [zWn, if_pos hwr]; rfl)) (zo_h hh9 (by rw [zWn, if_pos hwr])) (Nat.zero_le _) (Nat.zero_le _)

def zWs9 (c r cnt : Nat) (cart col : Nat → Int32) : Nat → zWt → Nat × zWt
  | 0, t => (0, t)
  | d + 1, t => if (zWn c r cnt cart col t).1 then ((zWs9 c r cnt cart col d (zWn c r cnt cart col t).2).1 + 1, (zWs9 c r cnt cart col d (zWn c r cnt cart col t).2).2) else (0, (zWn c r cnt cart col t).2)
theorem zWn_le {c r cnt : Nat} {cart col : Nat → Int32} {t : zWt} (h : t.1 ≤ r) : (zWn c r cnt cart col t).2.1 ≤ r := by
  unfold zWn
  split
  · exact h
  · dsimp only
    split
    · show t.1 + 1 ≤ r; omega
    · exact h

set_option maxHeartbeats 4000000 in
set_option maxRecDepth 100000 in
theorem c_weaveRows {G : zT} {c r w lim cnt : Nat} {tol : Int32} {cart wov lot sew mis col len lef sbt : Nat → Int32} {shd : Nat → UInt32} {X : zXr} {Y : zYr} {out : Nat → Int64} (hG : zAl G = false) (hc : c ≤ 20) (hr : r ≤ 16) (hw : w ≤ r) (hn : cnt ≤ 16) (n : Nat) (hn9 : n ≤ 16) : zRun G mX4_weaveRows 0 0 [.ref 1, .int (nI n)] (zHp (c, r, w, lim, tol, cart, wov, lot, sew, mis, cnt, col, len, lef, sbt, shd) X Y out) (.inr (some (.int (nI (zWs9 c r cnt cart col n (w, wov, lot, lef, mis)).1)))) (zHp (c, r, (zWs9 c r cnt cart col n (w, wov, lot, lef, mis)).2.1, lim, tol, cart, (zWs9 c r cnt cart col n (w, wov, lot, lef, mis)).2.2.1, (zWs9 c r cnt cart col n (w, wov, lot, lef, mis)).2.2.2.1, sew, (zWs9 c r cnt cart col n (w, wov, lot, lef, mis)).2.2.2.2.2, cnt, col, len, (zWs9 c r cnt cart col n (w, wov, lot, lef, mis)).2.2.2.2.1, sbt, shd) X Y out) := by
  refine zRun_of (by decide +kernel) rfl rfl (Nat.le_of_ble_eq_true rfl) ?_
  suffices hs : ∀ (o9 : zO) (h9 : zH), (Sum.inr (some (.int (nI (zWs9 c r cnt cart col n (w, wov, lot, lef, mis)).1))) : zO) = o9 → (zHp (c, r, (zWs9 c r cnt cart col n (w, wov, lot, lef, mis)).2.1, lim, tol, cart, (zWs9 c r cnt cart col n (w, wov, lot, lef, mis)).2.2.1, (zWs9 c r cnt cart col n (w, wov, lot, lef, mis)).2.2.2.1, sew, (zWs9 c r cnt cart col n (w, wov, lot, lef, mis)).2.2.2.2.2, cnt, col, len, (zWs9 c r cnt cart col n (w, wov, lot, lef, mis)).2.2.2.2.1, sbt, shd) X Y out) = h9 → zPW G mX4_weaveRows 0 0 o9 h9 0 0 0 [(0, .ref 1), (1, .int (nI n))] [] (zHp (c, r, w, lim, tol, cart, wov, lot, sew, mis, cnt, col, len, lef, sbt, shd) X Y out) from hs _ _ rfl rfl
  intro o9 h9 ho9 hh9
  refine z_iconst (v := 0) dX4_weaveRows_0 (by decide) ?_
  refine z_istore_n (lv' := [(2, .int 0), (0, .ref 1), (1, .int (nI n))]) dX4_weaveRows_1 rfl (by decide) rfl ?_
  have L2_1 : ∀ (d k : Nat) (t : zWt), k ≤ n → n + 1 ≤ k + d → t.1 ≤ r → zWs9 c r cnt cart col n (w, wov, lot, lef, mis) = ((zWs9 c r cnt cart col (n - k) t).1 + k, (zWs9 c r cnt cart col (n - k) t).2) → zPW G mX4_weaveRows 0 0 o9 h9 0 0 2 [(2, .int (nI k)), (0, .ref 1), (1, .int (nI n))] [] (zHp (c, r, t.1, lim, tol, cart, t.2.1, t.2.2.1, sew, t.2.2.2.2, cnt, col, len, t.2.2.2.1, sbt, shd) X Y out) := by
    intro d
    induction d with
    | zero => intro k t hk hd; exact absurd hd (by omega)
    | succ d ih =>
      intro k t hk_k hd_k ht he_k
      have ih2 := ih
      clear ih
      refine z_iload_n 0 dX4_weaveRows_2 rfl rfl ?_
      refine z_iload_n 2 dX4_weaveRows_3 rfl rfl ?_
      refine z_icmp_ge (tgt := 20) dX4_weaveRows_4 (by decide) (fun c_4 => ?_) (fun c_4 => ?_)
      · skip
        have hx_k := zge (by omega) hk_k c_4
        refine z_iload_n 0 dX4_weaveRows_20 rfl rfl ?_
        exact z_iret rfl dX4_weaveRows_21 (zo_i ho9 (by rw [he_k]; first | (rw [hx_k, Nat.sub_self, zWs9, Nat.zero_add]; done) | (rw [show n - k = (n - (k + 1)) + 1 by omega, zWs9, if_neg (by rw [b_11]; exact Bool.false_ne_true), Nat.zero_add]))) (zo_h hh9 (by rw [he_k]; first | (rw [hx_k, Nat.sub_self, zWs9]; done) | (rw [show n - k = (n - (k + 1)) + 1 by omega, zWs9, if_neg (by rw [b_11]; exact Bool.false_ne_true)]))) (Nat.zero_le _) (Nat.zero_le _)
      · skip
        have hx_k := zlt' (by omega) hk_k c_4
        refine z_aload_n 1 dX4_weaveRows_7 rfl rfl ?_
        refine z_callV (N := mX4_weaveNext) 0 [] [] lX4_weaveNext ⟨zw_687, zw_689, zw_22⟩ rfl rfl rfl rfl (Nat.le_of_ble_eq_true rfl) (by decide) ⟨zlt, zlt⟩ ⟨Nat.zero_le _, Nat.zero_le _⟩ (fun _ => rfl) (c_weaveNext hG hc hr ht hn) dX4_weaveRows_8 ?_
        refine z_if_eq (tgt := 20) dX4_weaveRows_11 (by decide) (fun c_11 => ?_) (fun c_11 => ?_)
        · skip
          refine z_iload_n 0 dX4_weaveRows_20 rfl rfl ?_
          exact z_iret rfl dX4_weaveRows_21 (zo_i ho9 (by rw [he_k]; first | (rw [hx_k, Nat.sub_self, zWs9, Nat.zero_add]; done) | (rw [show n - k = (n - (k + 1)) + 1 by omega, zWs9, if_neg (by rw [b_11]; exact Bool.false_ne_true), Nat.zero_add]))) (zo_h hh9 (by rw [he_k]; first | (rw [hx_k, Nat.sub_self, zWs9]; done) | (rw [show n - k = (n - (k + 1)) + 1 by omega, zWs9, if_neg (by rw [b_11]; exact Bool.false_ne_true)]))) (Nat.zero_le _) (Nat.zero_le _)
        · skip
          refine z_iinc (v := nI (k + 1)) (lv' := [(2, .int (nI (k + 1))), (0, .ref 1), (1, .int (nI n))]) 0 dX4_weaveRows_14 rfl (nI_1 k) (by decide) rfl ?_
          refine z_goto (tgt := 2) dX4_weaveRows_17 (by decide) ?_
          refine z_sub [0, 1, 2] (lv' := [(2, .int (nI (k + 1))), (0, .ref 1), (1, .int (nI n))]) rfl ?_
          refine z_eqs (lv2 := [(2, .int (nI (k + 1))), (0, .ref 1), (1, .int (nI n))]) (h2 := (zHp (c, r, ((zWn c r cnt cart col t).2).1, lim, tol, cart, ((zWn c r cnt cart col t).2).2.1, ((zWn c r cnt cart col t).2).2.2.1, sew, ((zWn c r cnt cart col t).2).2.2.2.2, cnt, col, len, ((zWn c r cnt cart col t).2).2.2.2.1, sbt, shd) X Y out)) (by rfl) (by rfl) ?_
          exact ih2 (k + 1) ((zWn c r cnt cart col t).2) (by omega) (by omega) (zWn_le ht) (by rw [he_k, show n - k = (n - (k + 1)) + 1 by omega, zWs9, if_pos b_11]; simp only [Nat.add_assoc, Nat.add_comm 1 k])
  refine z_sub [0, 1, 2] (lv' := [(2, .int 0), (0, .ref 1), (1, .int (nI n))]) rfl ?_
  refine z_eqs (lv2 := [(2, .int (nI 0)), (0, .ref 1), (1, .int (nI n))]) (h2 := (zHp (c, r, (w, wov, lot, lef, mis).1, lim, tol, cart, (w, wov, lot, lef, mis).2.1, (w, wov, lot, lef, mis).2.2.1, sew, (w, wov, lot, lef, mis).2.2.2.2, cnt, col, len, (w, wov, lot, lef, mis).2.2.2.1, sbt, shd) X Y out)) (by rfl) (by rfl) ?_
  exact L2_1 (n + 1) 0 (w, wov, lot, lef, mis) (Nat.zero_le _) (by omega) hw rfl

