def zTk (col lef : Nat → Int32) (v : Int32) (cnt : Nat) : Nat → Int32 := zPutN 16 lef (zIu col lef v 0 cnt) (zAtN 16 lef (zIu col lef v 0 cnt) - 1)
def zGb (lef : Nat → Int32) (i : Int32) : Nat → Int32 := zPutN 16 lef i (zAtN 16 lef i + 1)

set_option maxHeartbeats 4000000 in
set_option maxRecDepth 100000 in
theorem c_take {G : zT} {c r w lim cnt : Nat} {tol : Int32} {cart wov lot sew mis col len lef sbt : Nat → Int32} {shd : Nat → UInt32} {X : zXr} {Y : zYr} {out : Nat → Int64} (hG : zAl G = false) (hc : c ≤ 20) (hr : r ≤ 16) (hw : w ≤ r) (hn : cnt ≤ 16) (v : Int32) : zRun G mX5_take 0 0 [.ref 12, .int v] (zHp (c, r, w, lim, tol, cart, wov, lot, sew, mis, cnt, col, len, lef, sbt, shd) X Y out) (.inr (some (.int (zIu col lef v 0 cnt)))) (zHp (c, r, w, lim, tol, cart, wov, lot, sew, mis, cnt, col, len, zTk col lef v cnt, sbt, shd) X Y out) := by
  refine zRun_of (by decide +kernel) rfl rfl (Nat.le_of_ble_eq_true rfl) ?_
  suffices hs : ∀ (o9 : zO) (h9 : zH), (Sum.inr (some (.int (zIu col lef v 0 cnt))) : zO) = o9 → (zHp (c, r, w, lim, tol, cart, wov, lot, sew, mis, cnt, col, len, zTk col lef v cnt, sbt, shd) X Y out) = h9 → zPW G mX5_take 0 0 o9 h9 0 0 0 [(0, .ref 12), (1, .int v)] [] (zHp (c, r, w, lim, tol, cart, wov, lot, sew, mis, cnt, col, len, lef, sbt, shd) X Y out) from hs _ _ rfl rfl
  intro o9 h9 ho9 hh9
  refine z_aload_n 0 dX5_take_0 rfl rfl ?_
  refine z_iload_n 1 dX5_take_1 rfl rfl ?_
  refine z_callV (N := mX5_inUse) 1 [.int v] [] lX5_inUse ⟨zw_763, zw_420, zw_421⟩ rfl zgo_12 rfl rfl (Nat.le_of_ble_eq_true rfl) (by decide) ⟨zlt, zlt⟩ ⟨Nat.zero_le _, Nat.zero_le _⟩ (fun _ => rfl) (c_lInUse hG hc hr hw hn v) dX5_take_2 ?_
  refine z_istore_n (lv' := [(2, .int (zIu col lef v 0 cnt)), (0, .ref 12), (1, .int v)]) dX5_take_5 rfl (by decide) rfl ?_
  refine z_aload_n 1 dX5_take_6 rfl rfl ?_
  refine z_get (v := .ref 17) 3 zgo_12 rfl inX5 (by decide) zw_107 rfl rfl dX5_take_7 ?_
  refine z_iload_n 0 dX5_take_10 rfl rfl ?_
  refine z_aload_n 1 dX5_take_11 rfl rfl ?_
  refine z_get (v := .ref 17) 3 zgo_12 rfl inX5 (by decide) zw_107 rfl rfl dX5_take_12 ?_
  refine z_iload_n 0 dX5_take_15 rfl rfl ?_
  refine z_callV (N := mX6_at) 1 [.int (zIu col lef v 0 cnt)] [.int (zIu col lef v 0 cnt), .ref 17] lX6_at ⟨zw_423, zw_416, zw_417⟩ rfl zgo_17 rfl rfl (Nat.le_of_ble_eq_true rfl) (by decide) ⟨zlt, zlt⟩ ⟨Nat.zero_le _, Nat.zero_le _⟩ (fun _ => rfl) (c_nAt (g := 17) (v := 18) (n := 16) (f := lef) (by omega) zlt zgo_17 zga_18 (zIu col lef v 0 cnt)) dX5_take_16 ?_
  refine z_iconst (v := 1) dX5_take_19 (by decide) ?_
  refine z_isub dX5_take_20 ?_
  refine z_callV (N := mX6_put) 2 [.int (zIu col lef v 0 cnt), .int ((zAtN 16 lef (zIu col lef v 0 cnt)) - 1)] [] lX6_put ⟨zw_692, zw_693, zw_694⟩ rfl zgo_17 rfl rfl (Nat.le_of_ble_eq_true rfl) (by decide) ⟨zlt, zlt⟩ ⟨Nat.zero_le _, Nat.zero_le _⟩ zal (c_nPut (g := 17) (v := 18) (n := 16) (f := lef) (h1 := (zHp (c, r, w, lim, tol, cart, wov, lot, sew, mis, cnt, col, len, (zPutN 16 lef (zIu col lef v 0 cnt) ((zAtN 16 lef (zIu col lef v 0 cnt)) - 1)), sbt, shd) X Y out)) (by omega) zlt zgo_17 zga_18 (zIu col lef v 0 cnt) ((zAtN 16 lef (zIu col lef v 0 cnt)) - 1) zsa_18) dX5_take_21 ?_
  refine z_iload_n 0 dX5_take_24 rfl rfl ?_
  exact z_iret rfl dX5_take_25 (zo_i ho9 (by rfl)) (zo_h hh9 (by rfl)) (Nat.zero_le _) (Nat.zero_le _)

set_option maxHeartbeats 4000000 in
set_option maxRecDepth 100000 in
theorem c_giveBack {G : zT} {c r w lim cnt : Nat} {tol : Int32} {cart wov lot sew mis col len lef sbt : Nat → Int32} {shd : Nat → UInt32} {X : zXr} {Y : zYr} {out : Nat → Int64} (hG : zAl G = false) (hc : c ≤ 20) (hr : r ≤ 16) (hw : w ≤ r) (hn : cnt ≤ 16) (i : Int32) : zRun G mX5_giveBack 0 0 [.ref 12, .int i] (zHp (c, r, w, lim, tol, cart, wov, lot, sew, mis, cnt, col, len, lef, sbt, shd) X Y out) (.inr none) (zHp (c, r, w, lim, tol, cart, wov, lot, sew, mis, cnt, col, len, zGb lef i, sbt, shd) X Y out) := by
  refine zRun_of (by decide +kernel) rfl rfl (Nat.le_of_ble_eq_true rfl) ?_
  suffices hs : ∀ (o9 : zO) (h9 : zH), (Sum.inr none : zO) = o9 → (zHp (c, r, w, lim, tol, cart, wov, lot, sew, mis, cnt, col, len, zGb lef i, sbt, shd) X Y out) = h9 → zPW G mX5_giveBack 0 0 o9 h9 0 0 0 [(0, .ref 12), (1, .int i)] [] (zHp (c, r, w, lim, tol, cart, wov, lot, sew, mis, cnt, col, len, lef, sbt, shd) X Y out) from hs _ _ rfl rfl
  intro o9 h9 ho9 hh9
  refine z_aload_n 0 dX5_giveBack_0 rfl rfl ?_
  refine z_get (v := .ref 17) 3 zgo_12 rfl inX5 (by decide) zw_107 rfl rfl dX5_giveBack_1 ?_
  refine z_iload_n 1 dX5_giveBack_4 rfl rfl ?_
  refine z_aload_n 0 dX5_giveBack_5 rfl rfl ?_
  refine z_get (v := .ref 17) 3 zgo_12 rfl inX5 (by decide) zw_107 rfl rfl dX5_giveBack_6 ?_
  refine z_iload_n 1 dX5_giveBack_9 rfl rfl ?_
  refine z_callV (N := mX6_at) 1 [.int i] [.int i, .ref 17] lX6_at ⟨zw_423, zw_416, zw_417⟩ rfl zgo_17 rfl rfl (Nat.le_of_ble_eq_true rfl) (by decide) ⟨zlt, zlt⟩ ⟨Nat.zero_le _, Nat.zero_le _⟩ (fun _ => rfl) (c_nAt (g := 17) (v := 18) (n := 16) (f := lef) (by omega) zlt zgo_17 zga_18 i) dX5_giveBack_10 ?_
  refine z_iconst (v := 1) dX5_giveBack_13 (by decide) ?_
  refine z_iadd dX5_giveBack_14 ?_
  refine z_callV (N := mX6_put) 2 [.int i, .int ((zAtN 16 lef i) + 1)] [] lX6_put ⟨zw_692, zw_693, zw_694⟩ rfl zgo_17 rfl rfl (Nat.le_of_ble_eq_true rfl) (by decide) ⟨zlt, zlt⟩ ⟨Nat.zero_le _, Nat.zero_le _⟩ zal (c_nPut (g := 17) (v := 18) (n := 16) (f := lef) (h1 := (zHp (c, r, w, lim, tol, cart, wov, lot, sew, mis, cnt, col, len, (zPutN 16 lef i ((zAtN 16 lef i) + 1)), sbt, shd) X Y out)) (by omega) zlt zgo_17 zga_18 i ((zAtN 16 lef i) + 1) zsa_18) dX5_giveBack_15 ?_
  exact z_vret rfl dX5_giveBack_18 ho9.symm (zo_h hh9 (by rfl)) (Nat.zero_le _) (Nat.zero_le _)

set_option maxHeartbeats 4000000 in
set_option maxRecDepth 100000 in
theorem c_takeCartoon {G : zT} {c r w lim cnt : Nat} {tol : Int32} {cart wov lot sew mis col len lef sbt : Nat → Int32} {shd : Nat → UInt32} {X : zXr} {Y : zYr} {out : Nat → Int64} (hG : zAl G = false) (hc : c ≤ 20) (hr : r ≤ 16) (hw : w ≤ r) (hn : cnt ≤ 16) (c2 r2 : Nat) : zRun G mX4_takeCartoon 0 0 [.ref 1, .int (nI c2), .int (nI r2)] (zHp (c, r, w, lim, tol, cart, wov, lot, sew, mis, cnt, col, len, lef, sbt, shd) X Y out) (.inr (some (.int (nI w)))) (zHp (c2, r2, 0, lim, tol, (zFl (fun _ => 0) cart 320), wov, lot, (zFl (fun _ => 0) sew 320), (zFl (fun _ => (-1)) mis 20), cnt, col, len, lef, sbt, shd) X Y out) := by
  refine zRun_of (by decide +kernel) rfl rfl (Nat.le_of_ble_eq_true rfl) ?_
  suffices hs : ∀ (o9 : zO) (h9 : zH), (Sum.inr (some (.int (nI w))) : zO) = o9 → (zHp (c2, r2, 0, lim, tol, (zFl (fun _ => 0) cart 320), wov, lot, (zFl (fun _ => 0) sew 320), (zFl (fun _ => (-1)) mis 20), cnt, col, len, lef, sbt, shd) X Y out) = h9 → zPW G mX4_takeCartoon 0 0 o9 h9 0 0 0 [(0, .ref 1), (1, .int (nI c2)), (2, .int (nI r2))] [] (zHp (c, r, w, lim, tol, cart, wov, lot, sew, mis, cnt, col, len, lef, sbt, shd) X Y out) from hs _ _ rfl rfl
  intro o9 h9 ho9 hh9
  refine z_aload_n 0 dX4_takeCartoon_0 rfl rfl ?_
  refine z_get (v := .int (nI w)) 2 zgo_1 rfl inX4 (by decide) zw_134 rfl rfl dX4_takeCartoon_1 ?_
  refine z_istore_n (lv' := [(3, .int (nI w)), (0, .ref 1), (1, .int (nI c2)), (2, .int (nI r2))]) dX4_takeCartoon_4 rfl (by decide) rfl ?_
  refine z_aload_n 1 dX4_takeCartoon_5 rfl rfl ?_
  refine z_iload_n 2 dX4_takeCartoon_6 rfl rfl ?_
  refine z_puti 0 tyX4 zgo_1 rfl inX4 tyX4_ok nmX4 (by decide) zw_130 rfl rfl (by decide +kernel) (Nat.le_of_ble_eq_true rfl) dX4_takeCartoon_7 ?_
  refine z_eqh (h2 := (zHp (c2, r, w, lim, tol, cart, wov, lot, sew, mis, cnt, col, len, lef, sbt, shd) X Y out)) zsf_1_0 ?_
  refine z_aload_n 1 dX4_takeCartoon_10 rfl rfl ?_
  refine z_iload_n 3 dX4_takeCartoon_11 rfl rfl ?_
  refine z_puti 1 tyX4 zgo_1 rfl inX4 tyX4_ok nmX4 (by decide) zw_132 rfl rfl (by decide +kernel) (Nat.le_of_ble_eq_true rfl) dX4_takeCartoon_12 ?_
  refine z_eqh (h2 := (zHp (c2, r2, w, lim, tol, cart, wov, lot, sew, mis, cnt, col, len, lef, sbt, shd) X Y out)) zsf_1_1 ?_
  refine z_aload_n 1 dX4_takeCartoon_15 rfl rfl ?_
  refine z_iconst (v := 0) dX4_takeCartoon_16 (by decide) ?_
  refine z_puti 2 tyX4 zgo_1 rfl inX4 tyX4_ok nmX4 (by decide) zw_134 rfl rfl (by decide +kernel) (Nat.le_of_ble_eq_true rfl) dX4_takeCartoon_17 ?_
  refine z_eqh (h2 := (zHp (c2, r2, 0, lim, tol, cart, wov, lot, sew, mis, cnt, col, len, lef, sbt, shd) X Y out)) zsf_1_2 ?_
  refine z_aload_n 1 dX4_takeCartoon_20 rfl rfl ?_
  refine z_get (v := .ref 2) 5 zgo_1 rfl inX4 (by decide) zw_139 rfl rfl dX4_takeCartoon_21 ?_
  refine z_iconst (v := 0) dX4_takeCartoon_24 (by decide) ?_
  refine z_callV (N := mX2_putAll) 1 [.int 0] [] lX2_putAll ⟨zw_636, zw_637, zw_638⟩ rfl zgo_2 rfl rfl (Nat.le_of_ble_eq_true rfl) (by decide) ⟨zlt, zlt⟩ ⟨Nat.zero_le _, Nat.zero_le _⟩ zal (c_gPutAll (g := 2) (v := 3) (f := cart) (h1 := (zHp (c2, r2, 0, lim, tol, (zFl (fun _ => 0) cart 320), wov, lot, sew, mis, cnt, col, len, lef, sbt, shd) X Y out)) zlt zgo_2 zga_3 0 zsa_3) dX4_takeCartoon_25 ?_
  refine z_aload_n 1 dX4_takeCartoon_28 rfl rfl ?_
  refine z_get (v := .ref 8) 8 zgo_1 rfl inX4 (by decide) zw_143 rfl rfl dX4_takeCartoon_29 ?_
  refine z_iconst (v := 0) dX4_takeCartoon_32 (by decide) ?_
  refine z_callV (N := mX2_putAll) 1 [.int 0] [] lX2_putAll ⟨zw_636, zw_637, zw_638⟩ rfl zgo_8 rfl rfl (Nat.le_of_ble_eq_true rfl) (by decide) ⟨zlt, zlt⟩ ⟨Nat.zero_le _, Nat.zero_le _⟩ zal (c_gPutAll (g := 8) (v := 9) (f := sew) (h1 := (zHp (c2, r2, 0, lim, tol, (zFl (fun _ => 0) cart 320), wov, lot, (zFl (fun _ => 0) sew 320), mis, cnt, col, len, lef, sbt, shd) X Y out)) zlt zgo_8 zga_9 0 zsa_9) dX4_takeCartoon_33 ?_
  refine z_aload_n 1 dX4_takeCartoon_36 rfl rfl ?_
  refine z_get (v := .ref 10) 9 zgo_1 rfl inX4 (by decide) zw_144 rfl rfl dX4_takeCartoon_37 ?_
  refine z_iconst (v := (-1)) dX4_takeCartoon_40 (by decide) ?_
  refine z_callV (N := mX6_putAll) 1 [.int ((-1))] [] lX6_putAll ⟨zw_126, zw_127, zw_128⟩ rfl zgo_10 rfl rfl (Nat.le_of_ble_eq_true rfl) (by decide) ⟨zlt, zlt⟩ ⟨Nat.zero_le _, Nat.zero_le _⟩ zal (c_nPutAll (g := 10) (v := 11) (n := 20) (f := mis) (h1 := (zHp (c2, r2, 0, lim, tol, (zFl (fun _ => 0) cart 320), wov, lot, (zFl (fun _ => 0) sew 320), (zFl (fun _ => (-1)) mis 20), cnt, col, len, lef, sbt, shd) X Y out)) (by omega) zlt zgo_10 zga_11 (-1) zsa_11) dX4_takeCartoon_41 ?_
  refine z_iload_n 0 dX4_takeCartoon_44 rfl rfl ?_
  exact z_iret rfl dX4_takeCartoon_45 (zo_i ho9 (by rfl)) (zo_h hh9 (by rfl)) (Nat.zero_le _) (Nat.zero_le _)

set_option maxHeartbeats 4000000 in
set_option maxRecDepth 100000 in
theorem c_plant {G : zT} {c r w lim cnt : Nat} {tol : Int32} {cart wov lot sew mis col len lef sbt : Nat → Int32} {shd : Nat → UInt32} {X : zXr} {Y : zYr} {out : Nat → Int64} (hG : zAl G = false) (hc : c ≤ 20) (hr : r ≤ 16) (hw : w ≤ r) (hn : cnt ≤ 16) (b v : Int32) : zRun G mX4_plantMistake 0 0 [.ref 1, .int b, .int v] (zHp (c, r, w, lim, tol, cart, wov, lot, sew, mis, cnt, col, len, lef, sbt, shd) X Y out) (.inr (some (.int (nI (zOth 20 (zPutN 20 mis b v) (-1)))))) (zHp (c, r, w, lim, tol, cart, wov, lot, sew, zPutN 20 mis b v, cnt, col, len, lef, sbt, shd) X Y out) := by
  refine zRun_of (by decide +kernel) rfl rfl (Nat.le_of_ble_eq_true rfl) ?_
  suffices hs : ∀ (o9 : zO) (h9 : zH), (Sum.inr (some (.int (nI (zOth 20 (zPutN 20 mis b v) (-1))))) : zO) = o9 → (zHp (c, r, w, lim, tol, cart, wov, lot, sew, zPutN 20 mis b v, cnt, col, len, lef, sbt, shd) X Y out) = h9 → zPW G mX4_plantMistake 0 0 o9 h9 0 0 0 [(0, .ref 1), (1, .int b), (2, .int v)] [] (zHp (c, r, w, lim, tol, cart, wov, lot, sew, mis, cnt, col, len, lef, sbt, shd) X Y out) from hs _ _ rfl rfl
  intro o9 h9 ho9 hh9
  refine z_aload_n 0 dX4_plantMistake_0 rfl rfl ?_
  refine z_get (v := .ref 10) 9 zgo_1 rfl inX4 (by decide) zw_144 rfl rfl dX4_plantMistake_1 ?_
  refine z_iload_n 1 dX4_plantMistake_4 rfl rfl ?_
  refine z_iload_n 2 dX4_plantMistake_5 rfl rfl ?_
  refine z_callV (N := mX6_put) 2 [.int b, .int v] [] lX6_put ⟨zw_731, zw_693, zw_694⟩ rfl zgo_10 rfl rfl (Nat.le_of_ble_eq_true rfl) (by decide) ⟨zlt, zlt⟩ ⟨Nat.zero_le _, Nat.zero_le _⟩ zal (c_nPut (g := 10) (v := 11) (n := 20) (f := mis) (h1 := (zHp (c, r, w, lim, tol, cart, wov, lot, sew, (zPutN 20 mis b v), cnt, col, len, lef, sbt, shd) X Y out)) (by omega) zlt zgo_10 zga_11 b v zsa_11) dX4_plantMistake_6 ?_
  refine z_aload_n 0 dX4_plantMistake_9 rfl rfl ?_
  refine z_get (v := .ref 10) 9 zgo_1 rfl inX4 (by decide) zw_144 rfl rfl dX4_plantMistake_10 ?_
  refine z_iconst (v := (-1)) dX4_plantMistake_13 (by decide) ?_
  refine z_callV (N := mX6_countOthersThan) 1 [.int ((-1))] [] lX6_countOthersThan ⟨zw_256, zw_257, zw_258⟩ rfl zgo_10 rfl rfl (Nat.le_of_ble_eq_true rfl) (by decide) ⟨zlt, zlt⟩ ⟨Nat.zero_le _, Nat.zero_le _⟩ (fun _ => rfl) (c_nOth (g := 10) (v := 11) (n := 20) (f := (zPutN 20 mis b v)) (by omega) zlt zgo_10 zga_11 (-1)) dX4_plantMistake_14 ?_
  exact z_iret rfl dX4_plantMistake_17 (zo_i ho9 (by rfl)) (zo_h hh9 (by rfl)) (Nat.zero_le _) (Nat.zero_le _)

