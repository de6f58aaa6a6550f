set_option maxHeartbeats 4000000 in
set_option maxRecDepth 100000 in
theorem c_f_begin {G : zT} {c r w lim cnt : Nat} {tol : Int32} {cart wov lot sew mis col len lef sbt : Nat → Int32} {shd : Nat → UInt32} {X : zXr} {Y : zYr} {out : Nat → Int64} (hG : zAl G = false) (hc : c ≤ 20) (hr : r ≤ 16) (hw : w ≤ r) (hn : cnt ≤ 16) (hl : lim ≤ 16) (hs : ∀ j, zFinS (shd j)) (hc1 : 1 ≤ c) (h4 : X.2.2.2.2.2.1 < 4) (hc4 : X.2.2.2.2.1 ≤ 4) (a b : Nat) (hk0 : (if zFr 1 (nI a) (nI 20) && zFr 1 (nI b) (nI 16) then (0 : Int32) else 2) = 0) : zRun G mX9_begin 0 0 [.ref 0, .int (nI a), .int (nI b)] (zHp (c, r, w, lim, tol, cart, wov, lot, sew, mis, cnt, col, len, lef, sbt, shd) X Y out) (.inr (some (.int (nI w)))) (zHp (a, b, 0, lim, tol, (zFl (fun _ => 0) cart 320), wov, lot, (zFl (fun _ => 0) sew 320), (zFl (fun _ => (-1)) mis 20), cnt, col, len, lef, sbt, shd) (zSvd (c, r, w, lim, tol, cart, wov, lot, sew, mis, cnt, col, len, lef, sbt, shd) X) Y out) := by
  refine zRun_of (by decide +kernel) rfl rfl (Nat.le_of_ble_eq_true rfl) ?_
  suffices hs : ∀ (o9 : zO) (h9 : zH), (Sum.inr (some (.int (nI w))) : zO) = o9 → (zHp (a, b, 0, lim, tol, (zFl (fun _ => 0) cart 320), wov, lot, (zFl (fun _ => 0) sew 320), (zFl (fun _ => (-1)) mis 20), cnt, col, len, lef, sbt, shd) (zSvd (c, r, w, lim, tol, cart, wov, lot, sew, mis, cnt, col, len, lef, sbt, shd) X) Y out) = h9 → zPW G mX9_begin 0 0 o9 h9 0 0 0 [(0, .ref 0), (1, .int (nI a)), (2, .int (nI b))] [] (zHp (c, r, w, lim, tol, cart, wov, lot, sew, mis, cnt, col, len, lef, sbt, shd) X Y out) from hs _ _ rfl rfl
  intro o9 h9 ho9 hh9
  refine z_aload_n 0 dX9_begin_0 rfl rfl ?_
  refine z_get (v := .ref 1) 0 zgo_0 rfl inX9 (by decide) zw_230 rfl rfl dX9_begin_1 ?_
  refine z_iload_n 1 dX9_begin_4 rfl rfl ?_
  refine z_iload_n 2 dX9_begin_5 rfl rfl ?_
  refine z_callV (N := mX4_whyNotBegin) 2 [.int (nI a), .int (nI b)] [] lX4_whyNotBegin ⟨zw_488, zw_489, zw_490⟩ rfl zgo_1 rfl rfl (Nat.le_of_ble_eq_true rfl) (by decide) ⟨zlt, zlt⟩ ⟨Nat.zero_le _, Nat.zero_le _⟩ (fun _ => rfl) (c_wnBegin hG hc hr hw hn (nI a) (nI b)) dX9_begin_6 ?_
  refine z_top (v2 := .int 0) (by rw [hk0]) ?_
  refine z_callS (N := mX9_refuse) 1 [.int 0] [] lX9_refuse ⟨zw_495, zw_496⟩ rfl rfl rfl (Nat.le_of_ble_eq_true rfl) (by decide) ⟨zlt, zlt⟩ hG ⟨Nat.zero_le _, Nat.zero_le _⟩ c_refuse_0 dX9_begin_9 ?_
  refine z_aload_n 0 dX9_begin_12 rfl rfl ?_
  refine z_get (v := .ref 22) 1 zgo_0 rfl inX9 (by decide) zw_231 rfl rfl dX9_begin_13 ?_
  refine z_aload_n 0 dX9_begin_16 rfl rfl ?_
  refine z_get (v := .ref 1) 0 zgo_0 rfl inX9 (by decide) zw_230 rfl rfl dX9_begin_17 ?_
  refine z_callV (N := mX3_save) 1 [.ref 1] [] lX3_save ⟨zw_598, zw_599, zw_600⟩ rfl zgo_22 rfl rfl (Nat.le_of_ble_eq_true rfl) (by decide) ⟨zlt, zlt⟩ ⟨Nat.zero_le _, Nat.zero_le _⟩ zal (c_save hG h4 hc4) dX9_begin_20 ?_
  refine z_aload_n 0 dX9_begin_23 rfl rfl ?_
  refine z_get (v := .ref 1) 0 zgo_0 rfl inX9 (by decide) zw_230 rfl rfl dX9_begin_24 ?_
  refine z_iload_n 1 dX9_begin_27 rfl rfl ?_
  refine z_iload_n 2 dX9_begin_28 rfl rfl ?_
  refine z_callV (N := mX4_takeCartoon) 2 [.int (nI a), .int (nI b)] [] lX4_takeCartoon ⟨zw_632, zw_633, zw_634⟩ rfl zgo_1 rfl rfl (Nat.le_of_ble_eq_true rfl) (by decide) ⟨zlt, zlt⟩ ⟨Nat.zero_le _, Nat.zero_le _⟩ zal (c_takeCartoon hG hc hr hw hn a b) dX9_begin_29 ?_
  exact z_iret rfl dX9_begin_32 (zo_i ho9 (by rfl)) (zo_h hh9 (by rfl)) (Nat.zero_le _) (Nat.zero_le _)

set_option maxHeartbeats 4000000 in
set_option maxRecDepth 100000 in
theorem c_f_begin_0_2 {G : zT} {c r w lim cnt : Nat} {tol : Int32} {cart wov lot sew mis col len lef sbt : Nat → Int32} {shd : Nat → UInt32} {X : zXr} {Y : zYr} {out : Nat → Int64} (hG : zAl G = false) (hc : c ≤ 20) (hr : r ≤ 16) (hw : w ≤ r) (hn : cnt ≤ 16) (hl : lim ≤ 16) (hs : ∀ j, zFinS (shd j)) (hc1 : 1 ≤ c) (h4 : X.2.2.2.2.2.1 < 4) (hc4 : X.2.2.2.2.1 ≤ 4) (a b : Nat) (hk0 : (if zFr 1 (nI a) (nI 20) && zFr 1 (nI b) (nI 16) then (0 : Int32) else 2) = 2) : zRun G mX9_begin 1 6 [.ref 0, .int (nI a), .int (nI b)] (zHp (c, r, w, lim, tol, cart, wov, lot, sew, mis, cnt, col, len, lef, sbt, shd) X Y out) (.inl "java/lang/IllegalArgumentException") (zHp (c, r, w, lim, tol, cart, wov, lot, sew, mis, cnt, col, len, lef, sbt, shd) X Y out) := by
  refine zRun_of (by decide +kernel) rfl rfl (Nat.le_of_ble_eq_true rfl) ?_
  suffices hs : ∀ (o9 : zO) (h9 : zH), (Sum.inl "java/lang/IllegalArgumentException" : zO) = o9 → (zHp (c, r, w, lim, tol, cart, wov, lot, sew, mis, cnt, col, len, lef, sbt, shd) X Y out) = h9 → zPW G mX9_begin 1 6 o9 h9 0 0 0 [(0, .ref 0), (1, .int (nI a)), (2, .int (nI b))] [] (zHp (c, r, w, lim, tol, cart, wov, lot, sew, mis, cnt, col, len, lef, sbt, shd) X Y out) from hs _ _ rfl rfl
  intro o9 h9 ho9 hh9
  refine z_aload_n 0 dX9_begin_0 rfl rfl ?_
  refine z_get (v := .ref 1) 0 zgo_0 rfl inX9 (by decide) zw_230 rfl rfl dX9_begin_1 ?_
  refine z_iload_n 1 dX9_begin_4 rfl rfl ?_
  refine z_iload_n 2 dX9_begin_5 rfl rfl ?_
  refine z_callV (N := mX4_whyNotBegin) 2 [.int (nI a), .int (nI b)] [] lX4_whyNotBegin ⟨zw_488, zw_489, zw_490⟩ rfl zgo_1 rfl rfl (Nat.le_of_ble_eq_true rfl) (by decide) ⟨zlt, zlt⟩ ⟨Nat.zero_le _, Nat.zero_le _⟩ (fun _ => rfl) (c_wnBegin hG hc hr hw hn (nI a) (nI b)) dX9_begin_6 ?_
  refine z_top (v2 := .int 2) (by rw [hk0]) ?_
  exact z_callSX (N := mX9_refuse) 1 [.int 2] [] lX9_refuse ⟨zw_495, zw_496⟩ rfl rfl rfl (Nat.le_of_ble_eq_true rfl) (by decide) hG ⟨Nat.le_refl _, Nat.le_refl _⟩ c_refuse_2 dX9_begin_9 ho9.symm (zo_h hh9 (by rfl))

set_option maxHeartbeats 4000000 in
set_option maxRecDepth 100000 in
theorem c_f_setLimit {G : zT} {c r w lim cnt : Nat} {tol : Int32} {cart wov lot sew mis col len lef sbt : Nat → Int32} {shd : Nat → UInt32} {X : zXr} {Y : zYr} {out : Nat → Int64} (hG : zAl G = false) (hc : c ≤ 20) (hr : r ≤ 16) (hw : w ≤ r) (hn : cnt ≤ 16) (hl : lim ≤ 16) (hs : ∀ j, zFinS (shd j)) (hc1 : 1 ≤ c) (h4 : X.2.2.2.2.2.1 < 4) (hc4 : X.2.2.2.2.1 ≤ 4) (a : Nat) (ha16 : a ≤ 16) (hk0 : (if zFr 1 (nI a) (nI 16) then (0 : Int32) else 2) = 0) : zRun G mX9_setLimit 0 0 [.ref 0, .int (nI a)] (zHp (c, r, w, lim, tol, cart, wov, lot, sew, mis, cnt, col, len, lef, sbt, shd) X Y out) (.inr (some (.int (nI lim)))) (zHp (c, r, w, a, tol, cart, wov, lot, (zFg wov sew c w a), mis, cnt, col, len, lef, sbt, shd) (zSvd (c, r, w, lim, tol, cart, wov, lot, sew, mis, cnt, col, len, lef, sbt, shd) X) Y out) := by
  refine zRun_of (by decide +kernel) rfl rfl (Nat.le_of_ble_eq_true rfl) ?_
  suffices hs : ∀ (o9 : zO) (h9 : zH), (Sum.inr (some (.int (nI lim))) : zO) = o9 → (zHp (c, r, w, a, tol, cart, wov, lot, (zFg wov sew c w a), mis, cnt, col, len, lef, sbt, shd) (zSvd (c, r, w, lim, tol, cart, wov, lot, sew, mis, cnt, col, len, lef, sbt, shd) X) Y out) = h9 → zPW G mX9_setLimit 0 0 o9 h9 0 0 0 [(0, .ref 0), (1, .int (nI a))] [] (zHp (c, r, w, lim, tol, cart, wov, lot, sew, mis, cnt, col, len, lef, sbt, shd) X Y out) from hs _ _ rfl rfl
  intro o9 h9 ho9 hh9
  refine z_aload_n 0 dX9_setLimit_0 rfl rfl ?_
  refine z_get (v := .ref 1) 0 zgo_0 rfl inX9 (by decide) zw_230 rfl rfl dX9_setLimit_1 ?_
  refine z_iload_n 1 dX9_setLimit_4 rfl rfl ?_
  refine z_callV (N := mX4_whyNotLimit) 1 [.int (nI a)] [] lX4_whyNotLimit ⟨zw_704, zw_705, zw_706⟩ rfl zgo_1 rfl rfl (Nat.le_of_ble_eq_true rfl) (by decide) ⟨zlt, zlt⟩ ⟨Nat.zero_le _, Nat.zero_le _⟩ (fun _ => rfl) (c_wnLimit hG hc hr hw hn (nI a)) dX9_setLimit_5 ?_
  refine z_top (v2 := .int 0) (by rw [hk0]) ?_
  refine z_callS (N := mX9_refuse) 1 [.int 0] [] lX9_refuse ⟨zw_495, zw_496⟩ rfl rfl rfl (Nat.le_of_ble_eq_true rfl) (by decide) ⟨zlt, zlt⟩ hG ⟨Nat.zero_le _, Nat.zero_le _⟩ c_refuse_0 dX9_setLimit_8 ?_
  refine z_aload_n 0 dX9_setLimit_11 rfl rfl ?_
  refine z_get (v := .ref 22) 1 zgo_0 rfl inX9 (by decide) zw_231 rfl rfl dX9_setLimit_12 ?_
  refine z_aload_n 0 dX9_setLimit_15 rfl rfl ?_
  refine z_get (v := .ref 1) 0 zgo_0 rfl inX9 (by decide) zw_230 rfl rfl dX9_setLimit_16 ?_
  refine z_callV (N := mX3_save) 1 [.ref 1] [] lX3_save ⟨zw_598, zw_599, zw_600⟩ rfl zgo_22 rfl rfl (Nat.le_of_ble_eq_true rfl) (by decide) ⟨zlt, zlt⟩ ⟨Nat.zero_le _, Nat.zero_le _⟩ zal (c_save hG h4 hc4) dX9_setLimit_19 ?_
  refine z_aload_n 0 dX9_setLimit_22 rfl rfl ?_
  refine z_get (v := .ref 1) 0 zgo_0 rfl inX9 (by decide) zw_230 rfl rfl dX9_setLimit_23 ?_
  refine z_iload_n 1 dX9_setLimit_26 rfl rfl ?_
  refine z_callV (N := mX4_changeLimit) 1 [.int (nI a)] [] lX4_changeLimit ⟨zw_708, zw_709, zw_710⟩ rfl zgo_1 rfl rfl (Nat.le_of_ble_eq_true rfl) (by decide) ⟨zlt, zlt⟩ ⟨Nat.zero_le _, Nat.zero_le _⟩ zal (c_changeLimit hG hc hr hw hn a (by omega)) dX9_setLimit_27 ?_
  exact z_iret rfl dX9_setLimit_30 (zo_i ho9 (by rfl)) (zo_h hh9 (by rfl)) (Nat.zero_le _) (Nat.zero_le _)

set_option maxHeartbeats 4000000 in
set_option maxRecDepth 100000 in
theorem c_f_setLimit_0_2 {G : zT} {c r w lim cnt : Nat} {tol : Int32} {cart wov lot sew mis col len lef sbt : Nat → Int32} {shd : Nat → UInt32} {X : zXr} {Y : zYr} {out : Nat → Int64} (hG : zAl G = false) (hc : c ≤ 20) (hr : r ≤ 16) (hw : w ≤ r) (hn : cnt ≤ 16) (hl : lim ≤ 16) (hs : ∀ j, zFinS (shd j)) (hc1 : 1 ≤ c) (h4 : X.2.2.2.2.2.1 < 4) (hc4 : X.2.2.2.2.1 ≤ 4) (a : Nat) (hk0 : (if zFr 1 (nI a) (nI 16) then (0 : Int32) else 2) = 2) : zRun G mX9_setLimit 1 6 [.ref 0, .int (nI a)] (zHp (c, r, w, lim, tol, cart, wov, lot, sew, mis, cnt, col, len, lef, sbt, shd) X Y out) (.inl "java/lang/IllegalArgumentException") (zHp (c, r, w, lim, tol, cart, wov, lot, sew, mis, cnt, col, len, lef, sbt, shd) X Y out) := by
  refine zRun_of (by decide +kernel) rfl rfl (Nat.le_of_ble_eq_true rfl) ?_
  suffices hs : ∀ (o9 : zO) (h9 : zH), (Sum.inl "java/lang/IllegalArgumentException" : zO) = o9 → (zHp (c, r, w, lim, tol, cart, wov, lot, sew, mis, cnt, col, len, lef, sbt, shd) X Y out) = h9 → zPW G mX9_setLimit 1 6 o9 h9 0 0 0 [(0, .ref 0), (1, .int (nI a))] [] (zHp (c, r, w, lim, tol, cart, wov, lot, sew, mis, cnt, col, len, lef, sbt, shd) X Y out) from hs _ _ rfl rfl
  intro o9 h9 ho9 hh9
  refine z_aload_n 0 dX9_setLimit_0 rfl rfl ?_
  refine z_get (v := .ref 1) 0 zgo_0 rfl inX9 (by decide) zw_230 rfl rfl dX9_setLimit_1 ?_
  refine z_iload_n 1 dX9_setLimit_4 rfl rfl ?_
  refine z_callV (N := mX4_whyNotLimit) 1 [.int (nI a)] [] lX4_whyNotLimit ⟨zw_704, zw_705, zw_706⟩ rfl zgo_1 rfl rfl (Nat.le_of_ble_eq_true rfl) (by decide) ⟨zlt, zlt⟩ ⟨Nat.zero_le _, Nat.zero_le _⟩ (fun _ => rfl) (c_wnLimit hG hc hr hw hn (nI a)) dX9_setLimit_5 ?_
  refine z_top (v2 := .int 2) (by rw [hk0]) ?_
  exact z_callSX (N := mX9_refuse) 1 [.int 2] [] lX9_refuse ⟨zw_495, zw_496⟩ rfl rfl rfl (Nat.le_of_ble_eq_true rfl) (by decide) hG ⟨Nat.le_refl _, Nat.le_refl _⟩ c_refuse_2 dX9_setLimit_8 ho9.symm (zo_h hh9 (by rfl))

set_option maxHeartbeats 4000000 in
set_option maxRecDepth 100000 in
theorem c_f_cell {G : zT} {c r w lim cnt : Nat} {tol : Int32} {cart wov lot sew mis col len lef sbt : Nat → Int32} {shd : Nat → UInt32} {X : zXr} {Y : zYr} {out : Nat → Int64} (hG : zAl G = false) (hc : c ≤ 20) (hr : r ≤ 16) (hw : w ≤ r) (hn : cnt ≤ 16) (hl : lim ≤ 16) (hs : ∀ j, zFinS (shd j)) (hc1 : 1 ≤ c) (h4 : X.2.2.2.2.2.1 < 4) (hc4 : X.2.2.2.2.1 ≤ 4) (x y t : Int32) (hk0 : (zFr 0 x (nI c - 1) && zFr 0 y (nI r - 1)) = true) (hk1 : (zFr 0 t 3) = true) : zRun G mX9_cell 0 0 [.ref 0, .int x, .int y, .int t] (zHp (c, r, w, lim, tol, cart, wov, lot, sew, mis, cnt, col, len, lef, sbt, shd) X Y out) (.inr (some (.int (zCv cart wov lot c w x y t)))) (zHp (c, r, w, lim, tol, cart, wov, lot, sew, mis, cnt, col, len, lef, sbt, shd) X Y out) := by
  refine zRun_of (by decide +kernel) rfl rfl (Nat.le_of_ble_eq_true rfl) ?_
  suffices hs : ∀ (o9 : zO) (h9 : zH), (Sum.inr (some (.int (zCv cart wov lot c w x y t))) : zO) = o9 → (zHp (c, r, w, lim, tol, cart, wov, lot, sew, mis, cnt, col, len, lef, sbt, shd) X Y out) = h9 → zPW G mX9_cell 0 0 o9 h9 0 0 0 [(0, .ref 0), (1, .int x), (2, .int y), (3, .int t)] [] (zHp (c, r, w, lim, tol, cart, wov, lot, sew, mis, cnt, col, len, lef, sbt, shd) X Y out) from hs _ _ rfl rfl
  intro o9 h9 ho9 hh9
  refine z_aload_n 0 dX9_cell_0 rfl rfl ?_
  refine z_get (v := .ref 1) 0 zgo_0 rfl inX9 (by decide) zw_230 rfl rfl dX9_cell_1 ?_
  refine z_iload_n 1 dX9_cell_4 rfl rfl ?_
  refine z_iload_n 2 dX9_cell_5 rfl rfl ?_
  refine z_callV (N := mX4_hasCell) 2 [.int x, .int y] [] lX4_hasCell ⟨zw_809, zw_654, zw_655⟩ rfl zgo_1 rfl rfl (Nat.le_of_ble_eq_true rfl) (by decide) ⟨zlt, zlt⟩ ⟨Nat.zero_le _, Nat.zero_le _⟩ (fun _ => rfl) (c_hasCell hG hc hr hw hn x y) dX9_cell_6 ?_
  refine z_if_eq (tgt := 16) dX9_cell_9 (by decide) (fun c_9 => ?_) (fun c_9 => ?_)
  · exfalso; exact absurd (zB_0.mp c_9) (by rw [hk0]; decide)
  · skip
    have b_9 := zB_tt c_9
    refine z_iconst (v := 0) dX9_cell_12 (by decide) ?_
    refine z_goto (tgt := 17) dX9_cell_13 (by decide) ?_
    refine z_callS (N := mX9_refuse) 1 [.int 0] [] lX9_refuse ⟨zw_495, zw_496⟩ rfl rfl rfl (Nat.le_of_ble_eq_true rfl) (by decide) ⟨zlt, zlt⟩ hG ⟨Nat.zero_le _, Nat.zero_le _⟩ c_refuse_0 dX9_cell_17 ?_
    refine z_iconst (v := 0) dX9_cell_20 (by decide) ?_
    refine z_iload_n 3 dX9_cell_21 rfl rfl ?_
    refine z_iconst (v := 3) dX9_cell_22 (by decide) ?_
    refine z_callS (N := mX9_isFrom) 3 [.int 0, .int t, .int 3] [] lX9_isFrom ⟨zw_660, zw_493⟩ rfl rfl rfl (Nat.le_of_ble_eq_true rfl) (by decide) ⟨zlt, zlt⟩ hG ⟨Nat.zero_le _, Nat.zero_le _⟩ (c_isFrom hG zlt 0 t 3) dX9_cell_23 ?_
    refine z_if_eq (tgt := 33) dX9_cell_26 (by decide) (fun c_26 => ?_) (fun c_26 => ?_)
    · exfalso; exact absurd (zB_0.mp c_26) (by rw [hk1]; decide)
    · skip
      have b_26 := zB_tt c_26
      refine z_iconst (v := 0) dX9_cell_29 (by decide) ?_
      refine z_goto (tgt := 34) dX9_cell_30 (by decide) ?_
      refine z_callS (N := mX9_refuse) 1 [.int 0] [] lX9_refuse ⟨zw_495, zw_496⟩ rfl rfl rfl (Nat.le_of_ble_eq_true rfl) (by decide) ⟨zlt, zlt⟩ hG ⟨Nat.zero_le _, Nat.zero_le _⟩ c_refuse_0 dX9_cell_34 ?_
      refine z_aload_n 0 dX9_cell_37 rfl rfl ?_
      refine z_get (v := .ref 1) 0 zgo_0 rfl inX9 (by decide) zw_230 rfl rfl dX9_cell_38 ?_
      refine z_iload_n 1 dX9_cell_41 rfl rfl ?_
      refine z_iload_n 2 dX9_cell_42 rfl rfl ?_
      refine z_iload_n 3 dX9_cell_43 rfl rfl ?_
      refine z_callV (N := mX4_cellValue) 3 [.int x, .int y, .int t] [] lX4_cellValue ⟨zw_375, zw_376, zw_377⟩ rfl zgo_1 rfl rfl (Nat.le_of_ble_eq_true rfl) (by decide) ⟨zlt, zlt⟩ ⟨Nat.zero_le _, Nat.zero_le _⟩ (fun _ => rfl) (c_cellValue hG hc hr hw hn x y t) dX9_cell_44 ?_
      exact z_iret rfl dX9_cell_47 (zo_i ho9 (by rfl)) (zo_h hh9 (by rfl)) (Nat.zero_le _) (Nat.zero_le _)

set_option maxHeartbeats 4000000 in
set_option maxRecDepth 100000 in
theorem c_f_cell_0_1 {G : zT} {c r w lim cnt : Nat} {tol : Int32} {cart wov lot sew mis col len lef sbt : Nat → Int32} {shd : Nat → UInt32} {X : zXr} {Y : zYr} {out : Nat → Int64} (hG : zAl G = false) (hc : c ≤ 20) (hr : r ≤ 16) (hw : w ≤ r) (hn : cnt ≤ 16) (hl : lim ≤ 16) (hs : ∀ j, zFinS (shd j)) (hc1 : 1 ≤ c) (h4 : X.2.2.2.2.2.1 < 4) (hc4 : X.2.2.2.2.1 ≤ 4) (x y t : Int32) (hk0 : (zFr 0 x (nI c - 1) && zFr 0 y (nI r - 1)) = false) : zRun G mX9_cell 1 6 [.ref 0, .int x, .int y, .int t] (zHp (c, r, w, lim, tol, cart, wov, lot, sew, mis, cnt, col, len, lef, sbt, shd) X Y out) (.inl "java/lang/IndexOutOfBoundsException") (zHp (c, r, w, lim, tol, cart, wov, lot, sew, mis, cnt, col, len, lef, sbt, shd) X Y out) := by
  refine zRun_of (by decide +kernel) rfl rfl (Nat.le_of_ble_eq_true rfl) ?_
  suffices hs : ∀ (o9 : zO) (h9 : zH), (Sum.inl "java/lang/IndexOutOfBoundsException" : zO) = o9 → (zHp (c, r, w, lim, tol, cart, wov, lot, sew, mis, cnt, col, len, lef, sbt, shd) X Y out) = h9 → zPW G mX9_cell 1 6 o9 h9 0 0 0 [(0, .ref 0), (1, .int x), (2, .int y), (3, .int t)] [] (zHp (c, r, w, lim, tol, cart, wov, lot, sew, mis, cnt, col, len, lef, sbt, shd) X Y out) from hs _ _ rfl rfl
  intro o9 h9 ho9 hh9
  refine z_aload_n 0 dX9_cell_0 rfl rfl ?_
  refine z_get (v := .ref 1) 0 zgo_0 rfl inX9 (by decide) zw_230 rfl rfl dX9_cell_1 ?_
  refine z_iload_n 1 dX9_cell_4 rfl rfl ?_
  refine z_iload_n 2 dX9_cell_5 rfl rfl ?_
  refine z_callV (N := mX4_hasCell) 2 [.int x, .int y] [] lX4_hasCell ⟨zw_809, zw_654, zw_655⟩ rfl zgo_1 rfl rfl (Nat.le_of_ble_eq_true rfl) (by decide) ⟨zlt, zlt⟩ ⟨Nat.zero_le _, Nat.zero_le _⟩ (fun _ => rfl) (c_hasCell hG hc hr hw hn x y) dX9_cell_6 ?_
  refine z_if_eq (tgt := 16) dX9_cell_9 (by decide) (fun c_9 => ?_) (fun c_9 => ?_)
  · skip
    have b_9 := zB_0.mp c_9
    refine z_iconst (v := 1) dX9_cell_16 (by decide) ?_
    exact z_callSX (N := mX9_refuse) 1 [.int 1] [] lX9_refuse ⟨zw_495, zw_496⟩ rfl rfl rfl (Nat.le_of_ble_eq_true rfl) (by decide) hG ⟨Nat.le_refl _, Nat.le_refl _⟩ c_refuse_1 dX9_cell_17 ho9.symm (zo_h hh9 (by rfl))
  · exfalso; exact c_9 (zB_0.mpr hk0)

set_option maxHeartbeats 4000000 in
set_option maxRecDepth 100000 in
theorem c_f_cell_1_2 {G : zT} {c r w lim cnt : Nat} {tol : Int32} {cart wov lot sew mis col len lef sbt : Nat → Int32} {shd : Nat → UInt32} {X : zXr} {Y : zYr} {out : Nat → Int64} (hG : zAl G = false) (hc : c ≤ 20) (hr : r ≤ 16) (hw : w ≤ r) (hn : cnt ≤ 16) (hl : lim ≤ 16) (hs : ∀ j, zFinS (shd j)) (hc1 : 1 ≤ c) (h4 : X.2.2.2.2.2.1 < 4) (hc4 : X.2.2.2.2.1 ≤ 4) (x y t : Int32) (hk0 : (zFr 0 x (nI c - 1) && zFr 0 y (nI r - 1)) = true) (hk1 : (zFr 0 t 3) = false) : zRun G mX9_cell 1 6 [.ref 0, .int x, .int y, .int t] (zHp (c, r, w, lim, tol, cart, wov, lot, sew, mis, cnt, col, len, lef, sbt, shd) X Y out) (.inl "java/lang/IllegalArgumentException") (zHp (c, r, w, lim, tol, cart, wov, lot, sew, mis, cnt, col, len, lef, sbt, shd) X Y out) := by
  refine zRun_of (by decide +kernel) rfl rfl (Nat.le_of_ble_eq_true rfl) ?_
  suffices hs : ∀ (o9 : zO) (h9 : zH), (Sum.inl "java/lang/IllegalArgumentException" : zO) = o9 → (zHp (c, r, w, lim, tol, cart, wov, lot, sew, mis, cnt, col, len, lef, sbt, shd) X Y out) = h9 → zPW G mX9_cell 1 6 o9 h9 0 0 0 [(0, .ref 0), (1, .int x), (2, .int y), (3, .int t)] [] (zHp (c, r, w, lim, tol, cart, wov, lot, sew, mis, cnt, col, len, lef, sbt, shd) X Y out) from hs _ _ rfl rfl
  intro o9 h9 ho9 hh9
  refine z_aload_n 0 dX9_cell_0 rfl rfl ?_
  refine z_get (v := .ref 1) 0 zgo_0 rfl inX9 (by decide) zw_230 rfl rfl dX9_cell_1 ?_
  refine z_iload_n 1 dX9_cell_4 rfl rfl ?_
  refine z_iload_n 2 dX9_cell_5 rfl rfl ?_
  refine z_callV (N := mX4_hasCell) 2 [.int x, .int y] [] lX4_hasCell ⟨zw_809, zw_654, zw_655⟩ rfl zgo_1 rfl rfl (Nat.le_of_ble_eq_true rfl) (by decide) ⟨zlt, zlt⟩ ⟨Nat.zero_le _, Nat.zero_le _⟩ (fun _ => rfl) (c_hasCell hG hc hr hw hn x y) dX9_cell_6 ?_
  refine z_if_eq (tgt := 16) dX9_cell_9 (by decide) (fun c_9 => ?_) (fun c_9 => ?_)
  · exfalso; exact absurd (zB_0.mp c_9) (by rw [hk0]; decide)
  · skip
    have b_9 := zB_tt c_9
    refine z_iconst (v := 0) dX9_cell_12 (by decide) ?_
    refine z_goto (tgt := 17) dX9_cell_13 (by decide) ?_
    refine z_callS (N := mX9_refuse) 1 [.int 0] [] lX9_refuse ⟨zw_495, zw_496⟩ rfl rfl rfl (Nat.le_of_ble_eq_true rfl) (by decide) ⟨zlt, zlt⟩ hG ⟨Nat.zero_le _, Nat.zero_le _⟩ c_refuse_0 dX9_cell_17 ?_
    refine z_iconst (v := 0) dX9_cell_20 (by decide) ?_
    refine z_iload_n 3 dX9_cell_21 rfl rfl ?_
    refine z_iconst (v := 3) dX9_cell_22 (by decide) ?_
    refine z_callS (N := mX9_isFrom) 3 [.int 0, .int t, .int 3] [] lX9_isFrom ⟨zw_660, zw_493⟩ rfl rfl rfl (Nat.le_of_ble_eq_true rfl) (by decide) ⟨zlt, zlt⟩ hG ⟨Nat.zero_le _, Nat.zero_le _⟩ (c_isFrom hG zlt 0 t 3) dX9_cell_23 ?_
    refine z_if_eq (tgt := 33) dX9_cell_26 (by decide) (fun c_26 => ?_) (fun c_26 => ?_)
    · skip
      have b_26 := zB_0.mp c_26
      refine z_iconst (v := 2) dX9_cell_33 (by decide) ?_
      exact z_callSX (N := mX9_refuse) 1 [.int 2] [] lX9_refuse ⟨zw_495, zw_496⟩ rfl rfl rfl (Nat.le_of_ble_eq_true rfl) (by decide) hG ⟨Nat.le_refl _, Nat.le_refl _⟩ c_refuse_2 dX9_cell_34 ho9.symm (zo_h hh9 (by rfl))
    · exfalso; exact c_26 (zB_0.mpr hk1)

set_option maxHeartbeats 4000000 in
set_option maxRecDepth 100000 in
theorem c_f_row {G : zT} {c r w lim cnt : Nat} {tol : Int32} {cart wov lot sew mis col len lef sbt : Nat → Int32} {shd : Nat → UInt32} {X : zXr} {Y : zYr} {out : Nat → Int64} (hG : zAl G = false) (hc : c ≤ 20) (hr : r ≤ 16) (hw : w ≤ r) (hn : cnt ≤ 16) (hl : lim ≤ 16) (hs : ∀ j, zFinS (shd j)) (hc1 : 1 ≤ c) (h4 : X.2.2.2.2.2.1 < 4) (hc4 : X.2.2.2.2.1 ≤ 4) (y t : Int32) (hk0 : (zIn y (nI w)) = true) (hk1 : (zFr 0 t 4) = true) : zRun G mX9_row 0 0 [.ref 0, .int y, .int t] (zHp (c, r, w, lim, tol, cart, wov, lot, sew, mis, cnt, col, len, lef, sbt, shd) X Y out) (.inr (some (.int (zRv wov cart lot c cnt y t)))) (zHp (c, r, w, lim, tol, cart, wov, lot, sew, mis, cnt, col, len, lef, sbt, shd) X Y out) := by
  refine zRun_of (by decide +kernel) rfl rfl (Nat.le_of_ble_eq_true rfl) ?_
  suffices hs : ∀ (o9 : zO) (h9 : zH), (Sum.inr (some (.int (zRv wov cart lot c cnt y t))) : zO) = o9 → (zHp (c, r, w, lim, tol, cart, wov, lot, sew, mis, cnt, col, len, lef, sbt, shd) X Y out) = h9 → zPW G mX9_row 0 0 o9 h9 0 0 0 [(0, .ref 0), (1, .int y), (2, .int t)] [] (zHp (c, r, w, lim, tol, cart, wov, lot, sew, mis, cnt, col, len, lef, sbt, shd) X Y out) from hs _ _ rfl rfl
  intro o9 h9 ho9 hh9
  refine z_aload_n 0 dX9_row_0 rfl rfl ?_
  refine z_get (v := .ref 1) 0 zgo_0 rfl inX9 (by decide) zw_230 rfl rfl dX9_row_1 ?_
  refine z_iload_n 1 dX9_row_4 rfl rfl ?_
  refine z_callV (N := mX4_isWoven) 1 [.int y] [] lX4_isWoven ⟨zw_841, zw_384, zw_385⟩ rfl zgo_1 rfl rfl (Nat.le_of_ble_eq_true rfl) (by decide) ⟨zlt, zlt⟩ ⟨Nat.zero_le _, Nat.zero_le _⟩ (fun _ => rfl) (c_isWoven hG hc hr hw hn y) dX9_row_5 ?_
  refine z_if_eq (tgt := 15) dX9_row_8 (by decide) (fun c_8 => ?_) (fun c_8 => ?_)
  · exfalso; exact absurd (zB_0.mp c_8) (by rw [hk0]; decide)
  · skip
    have b_8 := zB_tt c_8
    refine z_iconst (v := 0) dX9_row_11 (by decide) ?_
    refine z_goto (tgt := 16) dX9_row_12 (by decide) ?_
    refine z_callS (N := mX9_refuse) 1 [.int 0] [] lX9_refuse ⟨zw_495, zw_496⟩ rfl rfl rfl (Nat.le_of_ble_eq_true rfl) (by decide) ⟨zlt, zlt⟩ hG ⟨Nat.zero_le _, Nat.zero_le _⟩ c_refuse_0 dX9_row_16 ?_
    refine z_iconst (v := 0) dX9_row_19 (by decide) ?_
    refine z_iload_n 2 dX9_row_20 rfl rfl ?_
    refine z_iconst (v := 4) dX9_row_21 (by decide) ?_
    refine z_callS (N := mX9_isFrom) 3 [.int 0, .int t, .int 4] [] lX9_isFrom ⟨zw_660, zw_493⟩ rfl rfl rfl (Nat.le_of_ble_eq_true rfl) (by decide) ⟨zlt, zlt⟩ hG ⟨Nat.zero_le _, Nat.zero_le _⟩ (c_isFrom hG zlt 0 t 4) dX9_row_22 ?_
    refine z_if_eq (tgt := 32) dX9_row_25 (by decide) (fun c_25 => ?_) (fun c_25 => ?_)
    · exfalso; exact absurd (zB_0.mp c_25) (by rw [hk1]; decide)
    · skip
      have b_25 := zB_tt c_25
      refine z_iconst (v := 0) dX9_row_28 (by decide) ?_
      refine z_goto (tgt := 33) dX9_row_29 (by decide) ?_
      refine z_callS (N := mX9_refuse) 1 [.int 0] [] lX9_refuse ⟨zw_495, zw_496⟩ rfl rfl rfl (Nat.le_of_ble_eq_true rfl) (by decide) ⟨zlt, zlt⟩ hG ⟨Nat.zero_le _, Nat.zero_le _⟩ c_refuse_0 dX9_row_33 ?_
      refine z_aload_n 0 dX9_row_36 rfl rfl ?_
      refine z_get (v := .ref 1) 0 zgo_0 rfl inX9 (by decide) zw_230 rfl rfl dX9_row_37 ?_
      refine z_iload_n 1 dX9_row_40 rfl rfl ?_
      refine z_iload_n 2 dX9_row_41 rfl rfl ?_
      refine z_callV (N := mX4_rowValue) 2 [.int y, .int t] [] lX4_rowValue ⟨zw_391, zw_392, zw_393⟩ rfl zgo_1 rfl rfl (Nat.le_of_ble_eq_true rfl) (by decide) ⟨zlt, zlt⟩ ⟨Nat.zero_le _, Nat.zero_le _⟩ (fun _ => rfl) (c_rowValue hG hc hr hw hn y t) dX9_row_42 ?_
      exact z_iret rfl dX9_row_45 (zo_i ho9 (by rfl)) (zo_h hh9 (by rfl)) (Nat.zero_le _) (Nat.zero_le _)

set_option maxHeartbeats 4000000 in
set_option maxRecDepth 100000 in
theorem c_f_row_0_1 {G : zT} {c r w lim cnt : Nat} {tol : Int32} {cart wov lot sew mis col len lef sbt : Nat → Int32} {shd : Nat → UInt32} {X : zXr} {Y : zYr} {out : Nat → Int64} (hG : zAl G = false) (hc : c ≤ 20) (hr : r ≤ 16) (hw : w ≤ r) (hn : cnt ≤ 16) (hl : lim ≤ 16) (hs : ∀ j, zFinS (shd j)) (hc1 : 1 ≤ c) (h4 : X.2.2.2.2.2.1 < 4) (hc4 : X.2.2.2.2.1 ≤ 4) (y t : Int32) (hk0 : (zIn y (nI w)) = false) : zRun G mX9_row 1 6 [.ref 0, .int y, .int t] (zHp (c, r, w, lim, tol, cart, wov, lot, sew, mis, cnt, col, len, lef, sbt, shd) X Y out) (.inl "java/lang/IndexOutOfBoundsException") (zHp (c, r, w, lim, tol, cart, wov, lot, sew, mis, cnt, col, len, lef, sbt, shd) X Y out) := by
  refine zRun_of (by decide +kernel) rfl rfl (Nat.le_of_ble_eq_true rfl) ?_
  suffices hs : ∀ (o9 : zO) (h9 : zH), (Sum.inl "java/lang/IndexOutOfBoundsException" : zO) = o9 → (zHp (c, r, w, lim, tol, cart, wov, lot, sew, mis, cnt, col, len, lef, sbt, shd) X Y out) = h9 → zPW G mX9_row 1 6 o9 h9 0 0 0 [(0, .ref 0), (1, .int y), (2, .int t)] [] (zHp (c, r, w, lim, tol, cart, wov, lot, sew, mis, cnt, col, len, lef, sbt, shd) X Y out) from hs _ _ rfl rfl
  intro o9 h9 ho9 hh9
  refine z_aload_n 0 dX9_row_0 rfl rfl ?_
  refine z_get (v := .ref 1) 0 zgo_0 rfl inX9 (by decide) zw_230 rfl rfl dX9_row_1 ?_
  refine z_iload_n 1 dX9_row_4 rfl rfl ?_
  refine z_callV (N := mX4_isWoven) 1 [.int y] [] lX4_isWoven ⟨zw_841, zw_384, zw_385⟩ rfl zgo_1 rfl rfl (Nat.le_of_ble_eq_true rfl) (by decide) ⟨zlt, zlt⟩ ⟨Nat.zero_le _, Nat.zero_le _⟩ (fun _ => rfl) (c_isWoven hG hc hr hw hn y) dX9_row_5 ?_
  refine z_if_eq (tgt := 15) dX9_row_8 (by decide) (fun c_8 => ?_) (fun c_8 => ?_)
  · skip
    have b_8 := zB_0.mp c_8
    refine z_iconst (v := 1) dX9_row_15 (by decide) ?_
    exact z_callSX (N := mX9_refuse) 1 [.int 1] [] lX9_refuse ⟨zw_495, zw_496⟩ rfl rfl rfl (Nat.le_of_ble_eq_true rfl) (by decide) hG ⟨Nat.le_refl _, Nat.le_refl _⟩ c_refuse_1 dX9_row_16 ho9.symm (zo_h hh9 (by rfl))
  · exfalso; exact c_8 (zB_0.mpr hk0)

set_option maxHeartbeats 4000000 in
set_option maxRecDepth 100000 in
theorem c_f_row_1_2 {G : zT} {c r w lim cnt : Nat} {tol : Int32} {cart wov lot sew mis col len lef sbt : Nat → Int32} {shd : Nat → UInt32} {X : zXr} {Y : zYr} {out : Nat → Int64} (hG : zAl G = false) (hc : c ≤ 20) (hr : r ≤ 16) (hw : w ≤ r) (hn : cnt ≤ 16) (hl : lim ≤ 16) (hs : ∀ j, zFinS (shd j)) (hc1 : 1 ≤ c) (h4 : X.2.2.2.2.2.1 < 4) (hc4 : X.2.2.2.2.1 ≤ 4) (y t : Int32) (hk0 : (zIn y (nI w)) = true) (hk1 : (zFr 0 t 4) = false) : zRun G mX9_row 1 6 [.ref 0, .int y, .int t] (zHp (c, r, w, lim, tol, cart, wov, lot, sew, mis, cnt, col, len, lef, sbt, shd) X Y out) (.inl "java/lang/IllegalArgumentException") (zHp (c, r, w, lim, tol, cart, wov, lot, sew, mis, cnt, col, len, lef, sbt, shd) X Y out) := by
  refine zRun_of (by decide +kernel) rfl rfl (Nat.le_of_ble_eq_true rfl) ?_
  suffices hs : ∀ (o9 : zO) (h9 : zH), (Sum.inl "java/lang/IllegalArgumentException" : zO) = o9 → (zHp (c, r, w, lim, tol, cart, wov, lot, sew, mis, cnt, col, len, lef, sbt, shd) X Y out) = h9 → zPW G mX9_row 1 6 o9 h9 0 0 0 [(0, .ref 0), (1, .int y), (2, .int t)] [] (zHp (c, r, w, lim, tol, cart, wov, lot, sew, mis, cnt, col, len, lef, sbt, shd) X Y out) from hs _ _ rfl rfl
  intro o9 h9 ho9 hh9
  refine z_aload_n 0 dX9_row_0 rfl rfl ?_
  refine z_get (v := .ref 1) 0 zgo_0 rfl inX9 (by decide) zw_230 rfl rfl dX9_row_1 ?_
  refine z_iload_n 1 dX9_row_4 rfl rfl ?_
  refine z_callV (N := mX4_isWoven) 1 [.int y] [] lX4_isWoven ⟨zw_841, zw_384, zw_385⟩ rfl zgo_1 rfl rfl (Nat.le_of_ble_eq_true rfl) (by decide) ⟨zlt, zlt⟩ ⟨Nat.zero_le _, Nat.zero_le _⟩ (fun _ => rfl) (c_isWoven hG hc hr hw hn y) dX9_row_5 ?_
  refine z_if_eq (tgt := 15) dX9_row_8 (by decide) (fun c_8 => ?_) (fun c_8 => ?_)
  · exfalso; exact absurd (zB_0.mp c_8) (by rw [hk0]; decide)
  · skip
    have b_8 := zB_tt c_8
    refine z_iconst (v := 0) dX9_row_11 (by decide) ?_
    refine z_goto (tgt := 16) dX9_row_12 (by decide) ?_
    refine z_callS (N := mX9_refuse) 1 [.int 0] [] lX9_refuse ⟨zw_495, zw_496⟩ rfl rfl rfl (Nat.le_of_ble_eq_true rfl) (by decide) ⟨zlt, zlt⟩ hG ⟨Nat.zero_le _, Nat.zero_le _⟩ c_refuse_0 dX9_row_16 ?_
    refine z_iconst (v := 0) dX9_row_19 (by decide) ?_
    refine z_iload_n 2 dX9_row_20 rfl rfl ?_
    refine z_iconst (v := 4) dX9_row_21 (by decide) ?_
    refine z_callS (N := mX9_isFrom) 3 [.int 0, .int t, .int 4] [] lX9_isFrom ⟨zw_660, zw_493⟩ rfl rfl rfl (Nat.le_of_ble_eq_true rfl) (by decide) ⟨zlt, zlt⟩ hG ⟨Nat.zero_le _, Nat.zero_le _⟩ (c_isFrom hG zlt 0 t 4) dX9_row_22 ?_
    refine z_if_eq (tgt := 32) dX9_row_25 (by decide) (fun c_25 => ?_) (fun c_25 => ?_)
    · skip
      have b_25 := zB_0.mp c_25
      refine z_iconst (v := 2) dX9_row_32 (by decide) ?_
      exact z_callSX (N := mX9_refuse) 1 [.int 2] [] lX9_refuse ⟨zw_495, zw_496⟩ rfl rfl rfl (Nat.le_of_ble_eq_true rfl) (by decide) hG ⟨Nat.le_refl _, Nat.le_refl _⟩ c_refuse_2 dX9_row_33 ho9.symm (zo_h hh9 (by rfl))
    · exfalso; exact c_25 (zB_0.mpr hk1)

set_option maxHeartbeats 4000000 in
set_option maxRecDepth 100000 in
theorem c_f_lot {G : zT} {c r w lim cnt : Nat} {tol : Int32} {cart wov lot sew mis col len lef sbt : Nat → Int32} {shd : Nat → UInt32} {X : zXr} {Y : zYr} {out : Nat → Int64} (hG : zAl G = false) (hc : c ≤ 20) (hr : r ≤ 16) (hw : w ≤ r) (hn : cnt ≤ 16) (hl : lim ≤ 16) (hs : ∀ j, zFinS (shd j)) (hc1 : 1 ≤ c) (h4 : X.2.2.2.2.2.1 < 4) (hc4 : X.2.2.2.2.1 ≤ 4) (l t : Int32) (hk0 : (zIn l (nI cnt)) = true) (hk1 : (zFr 0 t 5) = true) : zRun G mX9_lot 0 0 [.ref 0, .int l, .int t] (zHp (c, r, w, lim, tol, cart, wov, lot, sew, mis, cnt, col, len, lef, sbt, shd) X Y out) (.inr (some (.int (zLv lot col len lef sbt c w cnt l t)))) (zHp (c, r, w, lim, tol, cart, wov, lot, sew, mis, cnt, col, len, lef, sbt, shd) X Y out) := by
  refine zRun_of (by decide +kernel) rfl rfl (Nat.le_of_ble_eq_true rfl) ?_
  suffices hs : ∀ (o9 : zO) (h9 : zH), (Sum.inr (some (.int (zLv lot col len lef sbt c w cnt l t))) : zO) = o9 → (zHp (c, r, w, lim, tol, cart, wov, lot, sew, mis, cnt, col, len, lef, sbt, shd) X Y out) = h9 → zPW G mX9_lot 0 0 o9 h9 0 0 0 [(0, .ref 0), (1, .int l), (2, .int t)] [] (zHp (c, r, w, lim, tol, cart, wov, lot, sew, mis, cnt, col, len, lef, sbt, shd) X Y out) from hs _ _ rfl rfl
  intro o9 h9 ho9 hh9
  refine z_aload_n 0 dX9_lot_0 rfl rfl ?_
  refine z_get (v := .ref 1) 0 zgo_0 rfl inX9 (by decide) zw_230 rfl rfl dX9_lot_1 ?_
  refine z_getN (v := .ref 12) 10 zgo_1 rfl inX4 (by decide) (by decide) rfl rfl dX9_lot_4 ?_
  refine z_iload_n 1 dX9_lot_7 rfl rfl ?_
  refine z_callV (N := mX5_has) 1 [.int l] [] lX5_has ⟨zw_849, zw_850, zw_851⟩ rfl zgo_12 rfl rfl (Nat.le_of_ble_eq_true rfl) (by decide) ⟨zlt, zlt⟩ ⟨Nat.zero_le _, Nat.zero_le _⟩ (fun _ => rfl) (c_lHas hG hc hr hw hn l) dX9_lot_8 ?_
  refine z_if_eq (tgt := 18) dX9_lot_11 (by decide) (fun c_11 => ?_) (fun c_11 => ?_)
  · exfalso; exact absurd (zB_0.mp c_11) (by rw [hk0]; decide)
  · skip
    have b_11 := zB_tt c_11
    refine z_iconst (v := 0) dX9_lot_14 (by decide) ?_
    refine z_goto (tgt := 19) dX9_lot_15 (by decide) ?_
    refine z_callS (N := mX9_refuse) 1 [.int 0] [] lX9_refuse ⟨zw_495, zw_496⟩ rfl rfl rfl (Nat.le_of_ble_eq_true rfl) (by decide) ⟨zlt, zlt⟩ hG ⟨Nat.zero_le _, Nat.zero_le _⟩ c_refuse_0 dX9_lot_19 ?_
    refine z_iconst (v := 0) dX9_lot_22 (by decide) ?_
    refine z_iload_n 2 dX9_lot_23 rfl rfl ?_
    refine z_iconst (v := 5) dX9_lot_24 (by decide) ?_
    refine z_callS (N := mX9_isFrom) 3 [.int 0, .int t, .int 5] [] lX9_isFrom ⟨zw_660, zw_493⟩ rfl rfl rfl (Nat.le_of_ble_eq_true rfl) (by decide) ⟨zlt, zlt⟩ hG ⟨Nat.zero_le _, Nat.zero_le _⟩ (c_isFrom hG zlt 0 t 5) dX9_lot_25 ?_
    refine z_if_eq (tgt := 35) dX9_lot_28 (by decide) (fun c_28 => ?_) (fun c_28 => ?_)
    · exfalso; exact absurd (zB_0.mp c_28) (by rw [hk1]; decide)
    · skip
      have b_28 := zB_tt c_28
      refine z_iconst (v := 0) dX9_lot_31 (by decide) ?_
      refine z_goto (tgt := 36) dX9_lot_32 (by decide) ?_
      refine z_callS (N := mX9_refuse) 1 [.int 0] [] lX9_refuse ⟨zw_495, zw_496⟩ rfl rfl rfl (Nat.le_of_ble_eq_true rfl) (by decide) ⟨zlt, zlt⟩ hG ⟨Nat.zero_le _, Nat.zero_le _⟩ c_refuse_0 dX9_lot_36 ?_
      refine z_aload_n 0 dX9_lot_39 rfl rfl ?_
      refine z_get (v := .ref 1) 0 zgo_0 rfl inX9 (by decide) zw_230 rfl rfl dX9_lot_40 ?_
      refine z_iload_n 1 dX9_lot_43 rfl rfl ?_
      refine z_iload_n 2 dX9_lot_44 rfl rfl ?_
      refine z_callV (N := mX4_lotValue) 2 [.int l, .int t] [] lX4_lotValue ⟨zw_411, zw_412, zw_413⟩ rfl zgo_1 rfl rfl (Nat.le_of_ble_eq_true rfl) (by decide) ⟨zlt, zlt⟩ ⟨Nat.zero_le _, Nat.zero_le _⟩ (fun _ => rfl) (c_lotValue hG hc hr hw hn l t) dX9_lot_45 ?_
      exact z_iret rfl dX9_lot_48 (zo_i ho9 (by rfl)) (zo_h hh9 (by rfl)) (Nat.zero_le _) (Nat.zero_le _)

set_option maxHeartbeats 4000000 in
set_option maxRecDepth 100000 in
theorem c_f_lot_0_1 {G : zT} {c r w lim cnt : Nat} {tol : Int32} {cart wov lot sew mis col len lef sbt : Nat → Int32} {shd : Nat → UInt32} {X : zXr} {Y : zYr} {out : Nat → Int64} (hG : zAl G = false) (hc : c ≤ 20) (hr : r ≤ 16) (hw : w ≤ r) (hn : cnt ≤ 16) (hl : lim ≤ 16) (hs : ∀ j, zFinS (shd j)) (hc1 : 1 ≤ c) (h4 : X.2.2.2.2.2.1 < 4) (hc4 : X.2.2.2.2.1 ≤ 4) (l t : Int32) (hk0 : (zIn l (nI cnt)) = false) : zRun G mX9_lot 1 6 [.ref 0, .int l, .int t] (zHp (c, r, w, lim, tol, cart, wov, lot, sew, mis, cnt, col, len, lef, sbt, shd) X Y out) (.inl "java/lang/IndexOutOfBoundsException") (zHp (c, r, w, lim, tol, cart, wov, lot, sew, mis, cnt, col, len, lef, sbt, shd) X Y out) := by
  refine zRun_of (by decide +kernel) rfl rfl (Nat.le_of_ble_eq_true rfl) ?_
  suffices hs : ∀ (o9 : zO) (h9 : zH), (Sum.inl "java/lang/IndexOutOfBoundsException" : zO) = o9 → (zHp (c, r, w, lim, tol, cart, wov, lot, sew, mis, cnt, col, len, lef, sbt, shd) X Y out) = h9 → zPW G mX9_lot 1 6 o9 h9 0 0 0 [(0, .ref 0), (1, .int l), (2, .int t)] [] (zHp (c, r, w, lim, tol, cart, wov, lot, sew, mis, cnt, col, len, lef, sbt, shd) X Y out) from hs _ _ rfl rfl
  intro o9 h9 ho9 hh9
  refine z_aload_n 0 dX9_lot_0 rfl rfl ?_
  refine z_get (v := .ref 1) 0 zgo_0 rfl inX9 (by decide) zw_230 rfl rfl dX9_lot_1 ?_
  refine z_getN (v := .ref 12) 10 zgo_1 rfl inX4 (by decide) (by decide) rfl rfl dX9_lot_4 ?_
  refine z_iload_n 1 dX9_lot_7 rfl rfl ?_
  refine z_callV (N := mX5_has) 1 [.int l] [] lX5_has ⟨zw_849, zw_850, zw_851⟩ rfl zgo_12 rfl rfl (Nat.le_of_ble_eq_true rfl) (by decide) ⟨zlt, zlt⟩ ⟨Nat.zero_le _, Nat.zero_le _⟩ (fun _ => rfl) (c_lHas hG hc hr hw hn l) dX9_lot_8 ?_
  refine z_if_eq (tgt := 18) dX9_lot_11 (by decide) (fun c_11 => ?_) (fun c_11 => ?_)
  · skip
    have b_11 := zB_0.mp c_11
    refine z_iconst (v := 1) dX9_lot_18 (by decide) ?_
    exact z_callSX (N := mX9_refuse) 1 [.int 1] [] lX9_refuse ⟨zw_495, zw_496⟩ rfl rfl rfl (Nat.le_of_ble_eq_true rfl) (by decide) hG ⟨Nat.le_refl _, Nat.le_refl _⟩ c_refuse_1 dX9_lot_19 ho9.symm (zo_h hh9 (by rfl))
  · exfalso; exact c_11 (zB_0.mpr hk0)

set_option maxHeartbeats 4000000 in
set_option maxRecDepth 100000 in
theorem c_f_lot_1_2 {G : zT} {c r w lim cnt : Nat} {tol : Int32} {cart wov lot sew mis col len lef sbt : Nat → Int32} {shd : Nat → UInt32} {X : zXr} {Y : zYr} {out : Nat → Int64} (hG : zAl G = false) (hc : c ≤ 20) (hr : r ≤ 16) (hw : w ≤ r) (hn : cnt ≤ 16) (hl : lim ≤ 16) (hs : ∀ j, zFinS (shd j)) (hc1 : 1 ≤ c) (h4 : X.2.2.2.2.2.1 < 4) (hc4 : X.2.2.2.2.1 ≤ 4) (l t : Int32) (hk0 : (zIn l (nI cnt)) = true) (hk1 : (zFr 0 t 5) = false) : zRun G mX9_lot 1 6 [.ref 0, .int l, .int t] (zHp (c, r, w, lim, tol, cart, wov, lot, sew, mis, cnt, col, len, lef, sbt, shd) X Y out) (.inl "java/lang/IllegalArgumentException") (zHp (c, r, w, lim, tol, cart, wov, lot, sew, mis, cnt, col, len, lef, sbt, shd) X Y out) := by
  refine zRun_of (by decide +kernel) rfl rfl (Nat.le_of_ble_eq_true rfl) ?_
  suffices hs : ∀ (o9 : zO) (h9 : zH), (Sum.inl "java/lang/IllegalArgumentException" : zO) = o9 → (zHp (c, r, w, lim, tol, cart, wov, lot, sew, mis, cnt, col, len, lef, sbt, shd) X Y out) = h9 → zPW G mX9_lot 1 6 o9 h9 0 0 0 [(0, .ref 0), (1, .int l), (2, .int t)] [] (zHp (c, r, w, lim, tol, cart, wov, lot, sew, mis, cnt, col, len, lef, sbt, shd) X Y out) from hs _ _ rfl rfl
  intro o9 h9 ho9 hh9
  refine z_aload_n 0 dX9_lot_0 rfl rfl ?_
  refine z_get (v := .ref 1) 0 zgo_0 rfl inX9 (by decide) zw_230 rfl rfl dX9_lot_1 ?_
  refine z_getN (v := .ref 12) 10 zgo_1 rfl inX4 (by decide) (by decide) rfl rfl dX9_lot_4 ?_
  refine z_iload_n 1 dX9_lot_7 rfl rfl ?_
  refine z_callV (N := mX5_has) 1 [.int l] [] lX5_has ⟨zw_849, zw_850, zw_851⟩ rfl zgo_12 rfl rfl (Nat.le_of_ble_eq_true rfl) (by decide) ⟨zlt, zlt⟩ ⟨Nat.zero_le _, Nat.zero_le _⟩ (fun _ => rfl) (c_lHas hG hc hr hw hn l) dX9_lot_8 ?_
  refine z_if_eq (tgt := 18) dX9_lot_11 (by decide) (fun c_11 => ?_) (fun c_11 => ?_)
  · exfalso; exact absurd (zB_0.mp c_11) (by rw [hk0]; decide)
  · skip
    have b_11 := zB_tt c_11
    refine z_iconst (v := 0) dX9_lot_14 (by decide) ?_
    refine z_goto (tgt := 19) dX9_lot_15 (by decide) ?_
    refine z_callS (N := mX9_refuse) 1 [.int 0] [] lX9_refuse ⟨zw_495, zw_496⟩ rfl rfl rfl (Nat.le_of_ble_eq_true rfl) (by decide) ⟨zlt, zlt⟩ hG ⟨Nat.zero_le _, Nat.zero_le _⟩ c_refuse_0 dX9_lot_19 ?_
    refine z_iconst (v := 0) dX9_lot_22 (by decide) ?_
    refine z_iload_n 2 dX9_lot_23 rfl rfl ?_
    refine z_iconst (v := 5) dX9_lot_24 (by decide) ?_
    refine z_callS (N := mX9_isFrom) 3 [.int 0, .int t, .int 5] [] lX9_isFrom ⟨zw_660, zw_493⟩ rfl rfl rfl (Nat.le_of_ble_eq_true rfl) (by decide) ⟨zlt, zlt⟩ hG ⟨Nat.zero_le _, Nat.zero_le _⟩ (c_isFrom hG zlt 0 t 5) dX9_lot_25 ?_
    refine z_if_eq (tgt := 35) dX9_lot_28 (by decide) (fun c_28 => ?_) (fun c_28 => ?_)
    · skip
      have b_28 := zB_0.mp c_28
      refine z_iconst (v := 2) dX9_lot_35 (by decide) ?_
      exact z_callSX (N := mX9_refuse) 1 [.int 2] [] lX9_refuse ⟨zw_495, zw_496⟩ rfl rfl rfl (Nat.le_of_ble_eq_true rfl) (by decide) hG ⟨Nat.le_refl _, Nat.le_refl _⟩ c_refuse_2 dX9_lot_36 ho9.symm (zo_h hh9 (by rfl))
    · exfalso; exact c_28 (zB_0.mpr hk1)

set_option maxHeartbeats 4000000 in
set_option maxRecDepth 100000 in
theorem c_f_color {G : zT} {c r w lim cnt : Nat} {tol : Int32} {cart wov lot sew mis col len lef sbt : Nat → Int32} {shd : Nat → UInt32} {X : zXr} {Y : zYr} {out : Nat → Int64} (hG : zAl G = false) (hc : c ≤ 20) (hr : r ≤ 16) (hw : w ≤ r) (hn : cnt ≤ 16) (hl : lim ≤ 16) (hs : ∀ j, zFinS (shd j)) (hc1 : 1 ≤ c) (h4 : X.2.2.2.2.2.1 < 4) (hc4 : X.2.2.2.2.1 ≤ 4) (v t : Int32) (hk0 : (zFr 0 v 7) = true) (hk1 : (zFr 0 t 5) = true) : zRun G mX9_color 0 0 [.ref 0, .int v, .int t] (zHp (c, r, w, lim, tol, cart, wov, lot, sew, mis, cnt, col, len, lef, sbt, shd) X Y out) (.inr (some (.int (zCvl cart wov col lef c r w cnt v t)))) (zHp (c, r, w, lim, tol, cart, wov, lot, sew, mis, cnt, col, len, lef, sbt, shd) X Y out) := by
  refine zRun_of (by decide +kernel) rfl rfl (Nat.le_of_ble_eq_true rfl) ?_
  suffices hs : ∀ (o9 : zO) (h9 : zH), (Sum.inr (some (.int (zCvl cart wov col lef c r w cnt v t))) : zO) = o9 → (zHp (c, r, w, lim, tol, cart, wov, lot, sew, mis, cnt, col, len, lef, sbt, shd) X Y out) = h9 → zPW G mX9_color 0 0 o9 h9 0 0 0 [(0, .ref 0), (1, .int v), (2, .int t)] [] (zHp (c, r, w, lim, tol, cart, wov, lot, sew, mis, cnt, col, len, lef, sbt, shd) X Y out) from hs _ _ rfl rfl
  intro o9 h9 ho9 hh9
  refine z_iload_n 1 dX9_color_0 rfl rfl ?_
  refine z_callS (N := mX9_isColor) 1 [.int v] [] lX9_isColor ⟨zw_860, zw_658⟩ rfl rfl rfl (Nat.le_of_ble_eq_true rfl) (by decide) ⟨zlt, zlt⟩ hG ⟨Nat.zero_le _, Nat.zero_le _⟩ (c_isColor hG zlt v) dX9_color_1 ?_
  refine z_if_eq (tgt := 20) dX9_color_4 (by decide) (fun c_4 => ?_) (fun c_4 => ?_)
  · exfalso; exact absurd (zB_0.mp c_4) (by rw [hk0]; decide)
  · skip
    have b_4 := zB_tt c_4
    refine z_iconst (v := 0) dX9_color_7 (by decide) ?_
    refine z_iload_n 2 dX9_color_8 rfl rfl ?_
    refine z_iconst (v := 5) dX9_color_9 (by decide) ?_
    refine z_callS (N := mX9_isFrom) 3 [.int 0, .int t, .int 5] [] lX9_isFrom ⟨zw_660, zw_493⟩ rfl rfl rfl (Nat.le_of_ble_eq_true rfl) (by decide) ⟨zlt, zlt⟩ hG ⟨Nat.zero_le _, Nat.zero_le _⟩ (c_isFrom hG zlt 0 t 5) dX9_color_10 ?_
    refine z_if_eq (tgt := 20) dX9_color_13 (by decide) (fun c_13 => ?_) (fun c_13 => ?_)
    · exfalso; exact absurd (zB_0.mp c_13) (by rw [hk1]; decide)
    · skip
      have b_13 := zB_tt c_13
      refine z_iconst (v := 0) dX9_color_16 (by decide) ?_
      refine z_goto (tgt := 21) dX9_color_17 (by decide) ?_
      refine z_callS (N := mX9_refuse) 1 [.int 0] [] lX9_refuse ⟨zw_495, zw_496⟩ rfl rfl rfl (Nat.le_of_ble_eq_true rfl) (by decide) ⟨zlt, zlt⟩ hG ⟨Nat.zero_le _, Nat.zero_le _⟩ c_refuse_0 dX9_color_21 ?_
      refine z_aload_n 0 dX9_color_24 rfl rfl ?_
      refine z_get (v := .ref 1) 0 zgo_0 rfl inX9 (by decide) zw_230 rfl rfl dX9_color_25 ?_
      refine z_iload_n 1 dX9_color_28 rfl rfl ?_
      refine z_iload_n 2 dX9_color_29 rfl rfl ?_
      refine z_callV (N := mX4_colorValue) 2 [.int v, .int t] [] lX4_colorValue ⟨zw_428, zw_429, zw_430⟩ rfl zgo_1 rfl rfl (Nat.le_of_ble_eq_true rfl) (by decide) ⟨zlt, zlt⟩ ⟨Nat.zero_le _, Nat.zero_le _⟩ (fun _ => rfl) (c_colorValue hG hc hr hw hn v t) dX9_color_30 ?_
      exact z_iret rfl dX9_color_33 (zo_i ho9 (by rfl)) (zo_h hh9 (by rfl)) (Nat.zero_le _) (Nat.zero_le _)

set_option maxHeartbeats 4000000 in
set_option maxRecDepth 100000 in
theorem c_f_color_0_2 {G : zT} {c r w lim cnt : Nat} {tol : Int32} {cart wov lot sew mis col len lef sbt : Nat → Int32} {shd : Nat → UInt32} {X : zXr} {Y : zYr} {out : Nat → Int64} (hG : zAl G = false) (hc : c ≤ 20) (hr : r ≤ 16) (hw : w ≤ r) (hn : cnt ≤ 16) (hl : lim ≤ 16) (hs : ∀ j, zFinS (shd j)) (hc1 : 1 ≤ c) (h4 : X.2.2.2.2.2.1 < 4) (hc4 : X.2.2.2.2.1 ≤ 4) (v t : Int32) (hk0 : (zFr 0 v 7) = false) : zRun G mX9_color 1 6 [.ref 0, .int v, .int t] (zHp (c, r, w, lim, tol, cart, wov, lot, sew, mis, cnt, col, len, lef, sbt, shd) X Y out) (.inl "java/lang/IllegalArgumentException") (zHp (c, r, w, lim, tol, cart, wov, lot, sew, mis, cnt, col, len, lef, sbt, shd) X Y out) := by
  refine zRun_of (by decide +kernel) rfl rfl (Nat.le_of_ble_eq_true rfl) ?_
  suffices hs : ∀ (o9 : zO) (h9 : zH), (Sum.inl "java/lang/IllegalArgumentException" : zO) = o9 → (zHp (c, r, w, lim, tol, cart, wov, lot, sew, mis, cnt, col, len, lef, sbt, shd) X Y out) = h9 → zPW G mX9_color 1 6 o9 h9 0 0 0 [(0, .ref 0), (1, .int v), (2, .int t)] [] (zHp (c, r, w, lim, tol, cart, wov, lot, sew, mis, cnt, col, len, lef, sbt, shd) X Y out) from hs _ _ rfl rfl
  intro o9 h9 ho9 hh9
  refine z_iload_n 1 dX9_color_0 rfl rfl ?_
  refine z_callS (N := mX9_isColor) 1 [.int v] [] lX9_isColor ⟨zw_860, zw_658⟩ rfl rfl rfl (Nat.le_of_ble_eq_true rfl) (by decide) ⟨zlt, zlt⟩ hG ⟨Nat.zero_le _, Nat.zero_le _⟩ (c_isColor hG zlt v) dX9_color_1 ?_
  refine z_if_eq (tgt := 20) dX9_color_4 (by decide) (fun c_4 => ?_) (fun c_4 => ?_)
  · skip
    have b_4 := zB_0.mp c_4
    refine z_iconst (v := 2) dX9_color_20 (by decide) ?_
    exact z_callSX (N := mX9_refuse) 1 [.int 2] [] lX9_refuse ⟨zw_495, zw_496⟩ rfl rfl rfl (Nat.le_of_ble_eq_true rfl) (by decide) hG ⟨Nat.le_refl _, Nat.le_refl _⟩ c_refuse_2 dX9_color_21 ho9.symm (zo_h hh9 (by rfl))
  · exfalso; exact c_4 (zB_0.mpr hk0)

set_option maxHeartbeats 4000000 in
set_option maxRecDepth 100000 in
theorem c_f_color_1_2 {G : zT} {c r w lim cnt : Nat} {tol : Int32} {cart wov lot sew mis col len lef sbt : Nat → Int32} {shd : Nat → UInt32} {X : zXr} {Y : zYr} {out : Nat → Int64} (hG : zAl G = false) (hc : c ≤ 20) (hr : r ≤ 16) (hw : w ≤ r) (hn : cnt ≤ 16) (hl : lim ≤ 16) (hs : ∀ j, zFinS (shd j)) (hc1 : 1 ≤ c) (h4 : X.2.2.2.2.2.1 < 4) (hc4 : X.2.2.2.2.1 ≤ 4) (v t : Int32) (hk0 : (zFr 0 v 7) = true) (hk1 : (zFr 0 t 5) = false) : zRun G mX9_color 1 6 [.ref 0, .int v, .int t] (zHp (c, r, w, lim, tol, cart, wov, lot, sew, mis, cnt, col, len, lef, sbt, shd) X Y out) (.inl "java/lang/IllegalArgumentException") (zHp (c, r, w, lim, tol, cart, wov, lot, sew, mis, cnt, col, len, lef, sbt, shd) X Y out) := by
  refine zRun_of (by decide +kernel) rfl rfl (Nat.le_of_ble_eq_true rfl) ?_
  suffices hs : ∀ (o9 : zO) (h9 : zH), (Sum.inl "java/lang/IllegalArgumentException" : zO) = o9 → (zHp (c, r, w, lim, tol, cart, wov, lot, sew, mis, cnt, col, len, lef, sbt, shd) X Y out) = h9 → zPW G mX9_color 1 6 o9 h9 0 0 0 [(0, .ref 0), (1, .int v), (2, .int t)] [] (zHp (c, r, w, lim, tol, cart, wov, lot, sew, mis, cnt, col, len, lef, sbt, shd) X Y out) from hs _ _ rfl rfl
  intro o9 h9 ho9 hh9
  refine z_iload_n 1 dX9_color_0 rfl rfl ?_
  refine z_callS (N := mX9_isColor) 1 [.int v] [] lX9_isColor ⟨zw_860, zw_658⟩ rfl rfl rfl (Nat.le_of_ble_eq_true rfl) (by decide) ⟨zlt, zlt⟩ hG ⟨Nat.zero_le _, Nat.zero_le _⟩ (c_isColor hG zlt v) dX9_color_1 ?_
  refine z_if_eq (tgt := 20) dX9_color_4 (by decide) (fun c_4 => ?_) (fun c_4 => ?_)
  · exfalso; exact absurd (zB_0.mp c_4) (by rw [hk0]; decide)
  · skip
    have b_4 := zB_tt c_4
    refine z_iconst (v := 0) dX9_color_7 (by decide) ?_
    refine z_iload_n 2 dX9_color_8 rfl rfl ?_
    refine z_iconst (v := 5) dX9_color_9 (by decide) ?_
    refine z_callS (N := mX9_isFrom) 3 [.int 0, .int t, .int 5] [] lX9_isFrom ⟨zw_660, zw_493⟩ rfl rfl rfl (Nat.le_of_ble_eq_true rfl) (by decide) ⟨zlt, zlt⟩ hG ⟨Nat.zero_le _, Nat.zero_le _⟩ (c_isFrom hG zlt 0 t 5) dX9_color_10 ?_
    refine z_if_eq (tgt := 20) dX9_color_13 (by decide) (fun c_13 => ?_) (fun c_13 => ?_)
    · skip
      have b_13 := zB_0.mp c_13
      refine z_iconst (v := 2) dX9_color_20 (by decide) ?_
      exact z_callSX (N := mX9_refuse) 1 [.int 2] [] lX9_refuse ⟨zw_495, zw_496⟩ rfl rfl rfl (Nat.le_of_ble_eq_true rfl) (by decide) hG ⟨Nat.le_refl _, Nat.le_refl _⟩ c_refuse_2 dX9_color_21 ho9.symm (zo_h hh9 (by rfl))
    · exfalso; exact c_13 (zB_0.mpr hk1)

set_option maxHeartbeats 4000000 in
set_option maxRecDepth 100000 in
theorem c_f_rowsPossible {G : zT} {c r w lim cnt : Nat} {tol : Int32} {cart wov lot sew mis col len lef sbt : Nat → Int32} {shd : Nat → UInt32} {X : zXr} {Y : zYr} {out : Nat → Int64} (hG : zAl G = false) (hc : c ≤ 20) (hr : r ≤ 16) (hw : w ≤ r) (hn : cnt ≤ 16) (hl : lim ≤ 16) (hs : ∀ j, zFinS (shd j)) (hc1 : 1 ≤ c) (h4 : X.2.2.2.2.2.1 < 4) (hc4 : X.2.2.2.2.1 ≤ 4)  : zRun G mX9_rowsPossible 0 0 [.ref 0] (zHp (c, r, w, lim, tol, cart, wov, lot, sew, mis, cnt, col, len, lef, sbt, shd) X Y out) (.inr (some (.int (nI (zPr (zRyF cart col lef c r w cnt) 8 (r - w)))))) (zHp (c, r, w, lim, tol, cart, wov, lot, sew, mis, cnt, col, len, lef, sbt, shd) X Y out) := by
  refine zRun_of (by decide +kernel) rfl rfl (Nat.le_of_ble_eq_true rfl) ?_
  suffices hs : ∀ (o9 : zO) (h9 : zH), (Sum.inr (some (.int (nI (zPr (zRyF cart col lef c r w cnt) 8 (r - w))))) : zO) = o9 → (zHp (c, r, w, lim, tol, cart, wov, lot, sew, mis, cnt, col, len, lef, sbt, shd) X Y out) = h9 → zPW G mX9_rowsPossible 0 0 o9 h9 0 0 0 [(0, .ref 0)] [] (zHp (c, r, w, lim, tol, cart, wov, lot, sew, mis, cnt, col, len, lef, sbt, shd) X Y out) from hs _ _ rfl rfl
  intro o9 h9 ho9 hh9
  refine z_aload_n 0 dX9_rowsPossible_0 rfl rfl ?_
  refine z_get (v := .ref 1) 0 zgo_0 rfl inX9 (by decide) zw_230 rfl rfl dX9_rowsPossible_1 ?_
  refine z_callV (N := mX4_possibleRows) 0 [] [] lX4_possibleRows ⟨zw_894, zw_895, zw_896⟩ rfl zgo_1 rfl rfl (Nat.le_of_ble_eq_true rfl) (by decide) ⟨zlt, zlt⟩ ⟨Nat.zero_le _, Nat.zero_le _⟩ (fun _ => rfl) (c_possibleRows hG hc hr hw hn ) dX9_rowsPossible_4 ?_
  exact z_iret rfl dX9_rowsPossible_7 (zo_i ho9 (by rfl)) (zo_h hh9 (by rfl)) (Nat.zero_le _) (Nat.zero_le _)

set_option maxHeartbeats 4000000 in
set_option maxRecDepth 100000 in
theorem c_f_firstWrong {G : zT} {c r w lim cnt : Nat} {tol : Int32} {cart wov lot sew mis col len lef sbt : Nat → Int32} {shd : Nat → UInt32} {X : zXr} {Y : zYr} {out : Nat → Int64} (hG : zAl G = false) (hc : c ≤ 20) (hr : r ≤ 16) (hw : w ≤ r) (hn : cnt ≤ 16) (hl : lim ≤ 16) (hs : ∀ j, zFinS (shd j)) (hc1 : 1 ≤ c) (h4 : X.2.2.2.2.2.1 < 4) (hc4 : X.2.2.2.2.1 ≤ 4)  : zRun G mX9_firstWrong 0 0 [.ref 0] (zHp (c, r, w, lim, tol, cart, wov, lot, sew, mis, cnt, col, len, lef, sbt, shd) X Y out) (.inr (some (.int (zFw wov cart c 0 w)))) (zHp (c, r, w, lim, tol, cart, wov, lot, sew, mis, cnt, col, len, lef, sbt, shd) X Y out) := by
  refine zRun_of (by decide +kernel) rfl rfl (Nat.le_of_ble_eq_true rfl) ?_
  suffices hs : ∀ (o9 : zO) (h9 : zH), (Sum.inr (some (.int (zFw wov cart c 0 w))) : zO) = o9 → (zHp (c, r, w, lim, tol, cart, wov, lot, sew, mis, cnt, col, len, lef, sbt, shd) X Y out) = h9 → zPW G mX9_firstWrong 0 0 o9 h9 0 0 0 [(0, .ref 0)] [] (zHp (c, r, w, lim, tol, cart, wov, lot, sew, mis, cnt, col, len, lef, sbt, shd) X Y out) from hs _ _ rfl rfl
  intro o9 h9 ho9 hh9
  refine z_aload_n 0 dX9_firstWrong_0 rfl rfl ?_
  refine z_get (v := .ref 1) 0 zgo_0 rfl inX9 (by decide) zw_230 rfl rfl dX9_firstWrong_1 ?_
  refine z_callV (N := mX4_firstWrongRow) 0 [] [] lX4_firstWrongRow ⟨zw_865, zw_866, zw_867⟩ rfl zgo_1 rfl rfl (Nat.le_of_ble_eq_true rfl) (by decide) ⟨zlt, zlt⟩ ⟨Nat.zero_le _, Nat.zero_le _⟩ (fun _ => rfl) (c_firstWrongRow hG hc hr hw hn ) dX9_firstWrong_4 ?_
  exact z_iret rfl dX9_firstWrong_7 (zo_i ho9 (by rfl)) (zo_h hh9 (by rfl)) (Nat.zero_le _) (Nat.zero_le _)

set_option maxHeartbeats 4000000 in
set_option maxRecDepth 100000 in
theorem c_f_slitsWith {G : zT} {c r w lim cnt : Nat} {tol : Int32} {cart wov lot sew mis col len lef sbt : Nat → Int32} {shd : Nat → UInt32} {X : zXr} {Y : zYr} {out : Nat → Int64} (hG : zAl G = false) (hc : c ≤ 20) (hr : r ≤ 16) (hw : w ≤ r) (hn : cnt ≤ 16) (hl : lim ≤ 16) (hs : ∀ j, zFinS (shd j)) (hc1 : 1 ≤ c) (h4 : X.2.2.2.2.2.1 < 4) (hc4 : X.2.2.2.2.1 ≤ 4) (a : Nat) (ha16 : a ≤ 16) (hk0 : (if zFr 1 (nI a) (nI 16) then (0 : Int32) else 2) = 0) : zRun G mX9_slitsWith 0 0 [.ref 0, .int (nI a)] (zHp (c, r, w, lim, tol, cart, wov, lot, sew, mis, cnt, col, len, lef, sbt, shd) X Y out) (.inr (some (.int (nI (zSc wov c w a))))) (zHp (c, r, w, lim, tol, cart, wov, lot, sew, mis, cnt, col, len, lef, sbt, shd) X Y out) := by
  refine zRun_of (by decide +kernel) rfl rfl (Nat.le_of_ble_eq_true rfl) ?_
  suffices hs : ∀ (o9 : zO) (h9 : zH), (Sum.inr (some (.int (nI (zSc wov c w a)))) : zO) = o9 → (zHp (c, r, w, lim, tol, cart, wov, lot, sew, mis, cnt, col, len, lef, sbt, shd) X Y out) = h9 → zPW G mX9_slitsWith 0 0 o9 h9 0 0 0 [(0, .ref 0), (1, .int (nI a))] [] (zHp (c, r, w, lim, tol, cart, wov, lot, sew, mis, cnt, col, len, lef, sbt, shd) X Y out) from hs _ _ rfl rfl
  intro o9 h9 ho9 hh9
  refine z_aload_n 0 dX9_slitsWith_0 rfl rfl ?_
  refine z_get (v := .ref 1) 0 zgo_0 rfl inX9 (by decide) zw_230 rfl rfl dX9_slitsWith_1 ?_
  refine z_iload_n 1 dX9_slitsWith_4 rfl rfl ?_
  refine z_callV (N := mX4_whyNotLimit) 1 [.int (nI a)] [] lX4_whyNotLimit ⟨zw_704, zw_705, zw_706⟩ rfl zgo_1 rfl rfl (Nat.le_of_ble_eq_true rfl) (by decide) ⟨zlt, zlt⟩ ⟨Nat.zero_le _, Nat.zero_le _⟩ (fun _ => rfl) (c_wnLimit hG hc hr hw hn (nI a)) dX9_slitsWith_5 ?_
  refine z_top (v2 := .int 0) (by rw [hk0]) ?_
  refine z_callS (N := mX9_refuse) 1 [.int 0] [] lX9_refuse ⟨zw_495, zw_496⟩ rfl rfl rfl (Nat.le_of_ble_eq_true rfl) (by decide) ⟨zlt, zlt⟩ hG ⟨Nat.zero_le _, Nat.zero_le _⟩ c_refuse_0 dX9_slitsWith_8 ?_
  refine z_aload_n 0 dX9_slitsWith_11 rfl rfl ?_
  refine z_get (v := .ref 1) 0 zgo_0 rfl inX9 (by decide) zw_230 rfl rfl dX9_slitsWith_12 ?_
  refine z_iload_n 1 dX9_slitsWith_15 rfl rfl ?_
  refine z_callV (N := mX4_slitCount) 1 [.int (nI a)] [] lX4_slitCount ⟨zw_913, zw_277, zw_278⟩ rfl zgo_1 rfl rfl (Nat.le_of_ble_eq_true rfl) (by decide) ⟨zlt, zlt⟩ ⟨Nat.zero_le _, Nat.zero_le _⟩ (fun _ => rfl) (c_slitCount hG hc hr hw hn a (by omega)) dX9_slitsWith_16 ?_
  exact z_iret rfl dX9_slitsWith_19 (zo_i ho9 (by rfl)) (zo_h hh9 (by rfl)) (Nat.zero_le _) (Nat.zero_le _)

set_option maxHeartbeats 4000000 in
set_option maxRecDepth 100000 in
theorem c_f_slitsWith_0_2 {G : zT} {c r w lim cnt : Nat} {tol : Int32} {cart wov lot sew mis col len lef sbt : Nat → Int32} {shd : Nat → UInt32} {X : zXr} {Y : zYr} {out : Nat → Int64} (hG : zAl G = false) (hc : c ≤ 20) (hr : r ≤ 16) (hw : w ≤ r) (hn : cnt ≤ 16) (hl : lim ≤ 16) (hs : ∀ j, zFinS (shd j)) (hc1 : 1 ≤ c) (h4 : X.2.2.2.2.2.1 < 4) (hc4 : X.2.2.2.2.1 ≤ 4) (a : Nat) (hk0 : (if zFr 1 (nI a) (nI 16) then (0 : Int32) else 2) = 2) : zRun G mX9_slitsWith 1 6 [.ref 0, .int (nI a)] (zHp (c, r, w, lim, tol, cart, wov, lot, sew, mis, cnt, col, len, lef, sbt, shd) X Y out) (.inl "java/lang/IllegalArgumentException") (zHp (c, r, w, lim, tol, cart, wov, lot, sew, mis, cnt, col, len, lef, sbt, shd) X Y out) := by
  refine zRun_of (by decide +kernel) rfl rfl (Nat.le_of_ble_eq_true rfl) ?_
  suffices hs : ∀ (o9 : zO) (h9 : zH), (Sum.inl "java/lang/IllegalArgumentException" : zO) = o9 → (zHp (c, r, w, lim, tol, cart, wov, lot, sew, mis, cnt, col, len, lef, sbt, shd) X Y out) = h9 → zPW G mX9_slitsWith 1 6 o9 h9 0 0 0 [(0, .ref 0), (1, .int (nI a))] [] (zHp (c, r, w, lim, tol, cart, wov, lot, sew, mis, cnt, col, len, lef, sbt, shd) X Y out) from hs _ _ rfl rfl
  intro o9 h9 ho9 hh9
  refine z_aload_n 0 dX9_slitsWith_0 rfl rfl ?_
  refine z_get (v := .ref 1) 0 zgo_0 rfl inX9 (by decide) zw_230 rfl rfl dX9_slitsWith_1 ?_
  refine z_iload_n 1 dX9_slitsWith_4 rfl rfl ?_
  refine z_callV (N := mX4_whyNotLimit) 1 [.int (nI a)] [] lX4_whyNotLimit ⟨zw_704, zw_705, zw_706⟩ rfl zgo_1 rfl rfl (Nat.le_of_ble_eq_true rfl) (by decide) ⟨zlt, zlt⟩ ⟨Nat.zero_le _, Nat.zero_le _⟩ (fun _ => rfl) (c_wnLimit hG hc hr hw hn (nI a)) dX9_slitsWith_5 ?_
  refine z_top (v2 := .int 2) (by rw [hk0]) ?_
  exact z_callSX (N := mX9_refuse) 1 [.int 2] [] lX9_refuse ⟨zw_495, zw_496⟩ rfl rfl rfl (Nat.le_of_ble_eq_true rfl) (by decide) hG ⟨Nat.le_refl _, Nat.le_refl _⟩ c_refuse_2 dX9_slitsWith_8 ho9.symm (zo_h hh9 (by rfl))

set_option maxHeartbeats 4000000 in
set_option maxRecDepth 100000 in
theorem c_f_shuttlesFor {G : zT} {c r w lim cnt : Nat} {tol : Int32} {cart wov lot sew mis col len lef sbt : Nat → Int32} {shd : Nat → UInt32} {X : zXr} {Y : zYr} {out : Nat → Int64} (hG : zAl G = false) (hc : c ≤ 20) (hr : r ≤ 16) (hw : w ≤ r) (hn : cnt ≤ 16) (hl : lim ≤ 16) (hs : ∀ j, zFinS (shd j)) (hc1 : 1 ≤ c) (h4 : X.2.2.2.2.2.1 < 4) (hc4 : X.2.2.2.2.1 ≤ 4) (y : Int32) (hk0 : (zFr 0 0 (nI c - 1) && zFr 0 y (nI r - 1)) = true) : zRun G mX9_shuttlesFor 0 0 [.ref 0, .int y] (zHp (c, r, w, lim, tol, cart, wov, lot, sew, mis, cnt, col, len, lef, sbt, shd) X Y out) (.inr (some (.int (nI (zRu cart y c))))) (zHp (c, r, w, lim, tol, cart, wov, lot, sew, mis, cnt, col, len, lef, sbt, shd) X Y out) := by
  refine zRun_of (by decide +kernel) rfl rfl (Nat.le_of_ble_eq_true rfl) ?_
  suffices hs : ∀ (o9 : zO) (h9 : zH), (Sum.inr (some (.int (nI (zRu cart y c)))) : zO) = o9 → (zHp (c, r, w, lim, tol, cart, wov, lot, sew, mis, cnt, col, len, lef, sbt, shd) X Y out) = h9 → zPW G mX9_shuttlesFor 0 0 o9 h9 0 0 0 [(0, .ref 0), (1, .int y)] [] (zHp (c, r, w, lim, tol, cart, wov, lot, sew, mis, cnt, col, len, lef, sbt, shd) X Y out) from hs _ _ rfl rfl
  intro o9 h9 ho9 hh9
  refine z_aload_n 0 dX9_shuttlesFor_0 rfl rfl ?_
  refine z_get (v := .ref 1) 0 zgo_0 rfl inX9 (by decide) zw_230 rfl rfl dX9_shuttlesFor_1 ?_
  refine z_iconst (v := 0) dX9_shuttlesFor_4 (by decide) ?_
  refine z_iload_n 1 dX9_shuttlesFor_5 rfl rfl ?_
  refine z_callV (N := mX4_hasCell) 2 [.int 0, .int y] [] lX4_hasCell ⟨zw_809, zw_654, zw_655⟩ rfl zgo_1 rfl rfl (Nat.le_of_ble_eq_true rfl) (by decide) ⟨zlt, zlt⟩ ⟨Nat.zero_le _, Nat.zero_le _⟩ (fun _ => rfl) (c_hasCell hG hc hr hw hn 0 y) dX9_shuttlesFor_6 ?_
  refine z_if_eq (tgt := 16) dX9_shuttlesFor_9 (by decide) (fun c_9 => ?_) (fun c_9 => ?_)
  · exfalso; exact absurd (zB_0.mp c_9) (by rw [hk0]; decide)
  · skip
    have b_9 := zB_tt c_9
    refine z_iconst (v := 0) dX9_shuttlesFor_12 (by decide) ?_
    refine z_goto (tgt := 17) dX9_shuttlesFor_13 (by decide) ?_
    refine z_callS (N := mX9_refuse) 1 [.int 0] [] lX9_refuse ⟨zw_495, zw_496⟩ rfl rfl rfl (Nat.le_of_ble_eq_true rfl) (by decide) ⟨zlt, zlt⟩ hG ⟨Nat.zero_le _, Nat.zero_le _⟩ c_refuse_0 dX9_shuttlesFor_17 ?_
    refine z_aload_n 0 dX9_shuttlesFor_20 rfl rfl ?_
    refine z_get (v := .ref 1) 0 zgo_0 rfl inX9 (by decide) zw_230 rfl rfl dX9_shuttlesFor_21 ?_
    refine z_getN (v := .ref 2) 5 zgo_1 rfl inX4 (by decide) (by decide) rfl rfl dX9_shuttlesFor_24 ?_
    refine z_iload_n 1 dX9_shuttlesFor_27 rfl rfl ?_
    refine z_aload_n 0 dX9_shuttlesFor_28 rfl rfl ?_
    refine z_get (v := .ref 1) 0 zgo_0 rfl inX9 (by decide) zw_230 rfl rfl dX9_shuttlesFor_29 ?_
    refine z_getN (v := .int (nI c)) 0 zgo_1 rfl inX4 (by decide) (by decide) rfl rfl dX9_shuttlesFor_32 ?_
    refine z_callV (N := mX2_runs) 2 [.int y, .int (nI c)] [] lX2_runs ⟨zw_889, zw_350, zw_351⟩ rfl zgo_2 rfl rfl (Nat.le_of_ble_eq_true rfl) (by decide) ⟨zlt, zlt⟩ ⟨Nat.zero_le _, Nat.zero_le _⟩ (fun _ => rfl) (c_gRuns (g := 2) (v := 3) (f := cart) hG zlt zgo_2 zga_3 y (c := c) (by omega)) dX9_shuttlesFor_35 ?_
    exact z_iret rfl dX9_shuttlesFor_38 (zo_i ho9 (by rfl)) (zo_h hh9 (by rfl)) (Nat.zero_le _) (Nat.zero_le _)

set_option maxHeartbeats 4000000 in
set_option maxRecDepth 100000 in
theorem c_f_shuttlesFor_0_1 {G : zT} {c r w lim cnt : Nat} {tol : Int32} {cart wov lot sew mis col len lef sbt : Nat → Int32} {shd : Nat → UInt32} {X : zXr} {Y : zYr} {out : Nat → Int64} (hG : zAl G = false) (hc : c ≤ 20) (hr : r ≤ 16) (hw : w ≤ r) (hn : cnt ≤ 16) (hl : lim ≤ 16) (hs : ∀ j, zFinS (shd j)) (hc1 : 1 ≤ c) (h4 : X.2.2.2.2.2.1 < 4) (hc4 : X.2.2.2.2.1 ≤ 4) (y : Int32) (hk0 : (zFr 0 0 (nI c - 1) && zFr 0 y (nI r - 1)) = false) : zRun G mX9_shuttlesFor 1 6 [.ref 0, .int y] (zHp (c, r, w, lim, tol, cart, wov, lot, sew, mis, cnt, col, len, lef, sbt, shd) X Y out) (.inl "java/lang/IndexOutOfBoundsException") (zHp (c, r, w, lim, tol, cart, wov, lot, sew, mis, cnt, col, len, lef, sbt, shd) X Y out) := by
  refine zRun_of (by decide +kernel) rfl rfl (Nat.le_of_ble_eq_true rfl) ?_
  suffices hs : ∀ (o9 : zO) (h9 : zH), (Sum.inl "java/lang/IndexOutOfBoundsException" : zO) = o9 → (zHp (c, r, w, lim, tol, cart, wov, lot, sew, mis, cnt, col, len, lef, sbt, shd) X Y out) = h9 → zPW G mX9_shuttlesFor 1 6 o9 h9 0 0 0 [(0, .ref 0), (1, .int y)] [] (zHp (c, r, w, lim, tol, cart, wov, lot, sew, mis, cnt, col, len, lef, sbt, shd) X Y out) from hs _ _ rfl rfl
  intro o9 h9 ho9 hh9
  refine z_aload_n 0 dX9_shuttlesFor_0 rfl rfl ?_
  refine z_get (v := .ref 1) 0 zgo_0 rfl inX9 (by decide) zw_230 rfl rfl dX9_shuttlesFor_1 ?_
  refine z_iconst (v := 0) dX9_shuttlesFor_4 (by decide) ?_
  refine z_iload_n 1 dX9_shuttlesFor_5 rfl rfl ?_
  refine z_callV (N := mX4_hasCell) 2 [.int 0, .int y] [] lX4_hasCell ⟨zw_809, zw_654, zw_655⟩ rfl zgo_1 rfl rfl (Nat.le_of_ble_eq_true rfl) (by decide) ⟨zlt, zlt⟩ ⟨Nat.zero_le _, Nat.zero_le _⟩ (fun _ => rfl) (c_hasCell hG hc hr hw hn 0 y) dX9_shuttlesFor_6 ?_
  refine z_if_eq (tgt := 16) dX9_shuttlesFor_9 (by decide) (fun c_9 => ?_) (fun c_9 => ?_)
  · skip
    have b_9 := zB_0.mp c_9
    refine z_iconst (v := 1) dX9_shuttlesFor_16 (by decide) ?_
    exact z_callSX (N := mX9_refuse) 1 [.int 1] [] lX9_refuse ⟨zw_495, zw_496⟩ rfl rfl rfl (Nat.le_of_ble_eq_true rfl) (by decide) hG ⟨Nat.le_refl _, Nat.le_refl _⟩ c_refuse_1 dX9_shuttlesFor_17 ho9.symm (zo_h hh9 (by rfl))
  · exfalso; exact c_9 (zB_0.mpr hk0)

set_option maxHeartbeats 4000000 in
set_option maxRecDepth 100000 in
theorem c_f_sew {G : zT} {c r w lim cnt : Nat} {tol : Int32} {cart wov lot sew mis col len lef sbt : Nat → Int32} {shd : Nat → UInt32} {X : zXr} {Y : zYr} {out : Nat → Int64} (hG : zAl G = false) (hc : c ≤ 20) (hr : r ≤ 16) (hw : w ≤ r) (hn : cnt ≤ 16) (hl : lim ≤ 16) (hs : ∀ j, zFinS (shd j)) (hc1 : 1 ≤ c) (h4 : X.2.2.2.2.2.1 < 4) (hc4 : X.2.2.2.2.1 ≤ 4) (ix : Int32) (hk0 : (if zSp wov c w lim ix = -1 then (1 : Int32) else if zAt sew (zSp wov c w lim ix / nI 16) (zSp wov c w lim ix - zSp wov c w lim ix / nI 16 * nI 16) == 1 then 3 else 0) = 0) : zRun G mX9_sew 0 0 [.ref 0, .int ix] (zHp (c, r, w, lim, tol, cart, wov, lot, sew, mis, cnt, col, len, lef, sbt, shd) X Y out) (.inr (some (.int (nI (zSc wov c w lim) - nI (zCi (zSwS wov sew c w lim ix) 1 c r))))) (zHp (c, r, w, lim, tol, cart, wov, lot, (zSwS wov sew c w lim ix), mis, cnt, col, len, lef, sbt, shd) (zSvd (c, r, w, lim, tol, cart, wov, lot, sew, mis, cnt, col, len, lef, sbt, shd) X) Y out) := by
  refine zRun_of (by decide +kernel) rfl rfl (Nat.le_of_ble_eq_true rfl) ?_
  suffices hs : ∀ (o9 : zO) (h9 : zH), (Sum.inr (some (.int (nI (zSc wov c w lim) - nI (zCi (zSwS wov sew c w lim ix) 1 c r)))) : zO) = o9 → (zHp (c, r, w, lim, tol, cart, wov, lot, (zSwS wov sew c w lim ix), mis, cnt, col, len, lef, sbt, shd) (zSvd (c, r, w, lim, tol, cart, wov, lot, sew, mis, cnt, col, len, lef, sbt, shd) X) Y out) = h9 → zPW G mX9_sew 0 0 o9 h9 0 0 0 [(0, .ref 0), (1, .int ix)] [] (zHp (c, r, w, lim, tol, cart, wov, lot, sew, mis, cnt, col, len, lef, sbt, shd) X Y out) from hs _ _ rfl rfl
  intro o9 h9 ho9 hh9
  refine z_aload_n 0 dX9_sew_0 rfl rfl ?_
  refine z_get (v := .ref 1) 0 zgo_0 rfl inX9 (by decide) zw_230 rfl rfl dX9_sew_1 ?_
  refine z_iload_n 1 dX9_sew_4 rfl rfl ?_
  refine z_callV (N := mX4_whyNotSew) 1 [.int ix] [] lX4_whyNotSew ⟨zw_790, zw_791, zw_792⟩ rfl zgo_1 rfl rfl (Nat.le_of_ble_eq_true rfl) (by decide) ⟨zlt, zlt⟩ ⟨Nat.zero_le _, Nat.zero_le _⟩ (fun _ => rfl) (c_wnSew hG hc hr hw hn hl ix) dX9_sew_5 ?_
  refine z_top (v2 := .int 0) (by rw [hk0]) ?_
  refine z_callS (N := mX9_refuse) 1 [.int 0] [] lX9_refuse ⟨zw_495, zw_496⟩ rfl rfl rfl (Nat.le_of_ble_eq_true rfl) (by decide) ⟨zlt, zlt⟩ hG ⟨Nat.zero_le _, Nat.zero_le _⟩ c_refuse_0 dX9_sew_8 ?_
  refine z_aload_n 0 dX9_sew_11 rfl rfl ?_
  refine z_get (v := .ref 22) 1 zgo_0 rfl inX9 (by decide) zw_231 rfl rfl dX9_sew_12 ?_
  refine z_aload_n 0 dX9_sew_15 rfl rfl ?_
  refine z_get (v := .ref 1) 0 zgo_0 rfl inX9 (by decide) zw_230 rfl rfl dX9_sew_16 ?_
  refine z_callV (N := mX3_save) 1 [.ref 1] [] lX3_save ⟨zw_598, zw_599, zw_600⟩ rfl zgo_22 rfl rfl (Nat.le_of_ble_eq_true rfl) (by decide) ⟨zlt, zlt⟩ ⟨Nat.zero_le _, Nat.zero_le _⟩ zal (c_save hG h4 hc4) dX9_sew_19 ?_
  refine z_aload_n 0 dX9_sew_22 rfl rfl ?_
  refine z_get (v := .ref 1) 0 zgo_0 rfl inX9 (by decide) zw_230 rfl rfl dX9_sew_23 ?_
  refine z_iload_n 1 dX9_sew_26 rfl rfl ?_
  refine z_callV (N := mX4_sewSlit) 1 [.int ix] [] lX4_sewSlit ⟨zw_798, zw_799, zw_800⟩ rfl zgo_1 rfl rfl (Nat.le_of_ble_eq_true rfl) (by decide) ⟨zlt, zlt⟩ ⟨Nat.zero_le _, Nat.zero_le _⟩ zal (c_sewSlit hG hc hr hw hn hl ix) dX9_sew_27 ?_
  exact z_iret rfl dX9_sew_30 (zo_i ho9 (by rfl)) (zo_h hh9 (by rfl)) (Nat.zero_le _) (Nat.zero_le _)

set_option maxHeartbeats 4000000 in
set_option maxRecDepth 100000 in
theorem c_f_sew_0_1 {G : zT} {c r w lim cnt : Nat} {tol : Int32} {cart wov lot sew mis col len lef sbt : Nat → Int32} {shd : Nat → UInt32} {X : zXr} {Y : zYr} {out : Nat → Int64} (hG : zAl G = false) (hc : c ≤ 20) (hr : r ≤ 16) (hw : w ≤ r) (hn : cnt ≤ 16) (hl : lim ≤ 16) (hs : ∀ j, zFinS (shd j)) (hc1 : 1 ≤ c) (h4 : X.2.2.2.2.2.1 < 4) (hc4 : X.2.2.2.2.1 ≤ 4) (ix : Int32) (hk0 : (if zSp wov c w lim ix = -1 then (1 : Int32) else if zAt sew (zSp wov c w lim ix / nI 16) (zSp wov c w lim ix - zSp wov c w lim ix / nI 16 * nI 16) == 1 then 3 else 0) = 1) : zRun G mX9_sew 1 6 [.ref 0, .int ix] (zHp (c, r, w, lim, tol, cart, wov, lot, sew, mis, cnt, col, len, lef, sbt, shd) X Y out) (.inl "java/lang/IndexOutOfBoundsException") (zHp (c, r, w, lim, tol, cart, wov, lot, sew, mis, cnt, col, len, lef, sbt, shd) X Y out) := by
  refine zRun_of (by decide +kernel) rfl rfl (Nat.le_of_ble_eq_true rfl) ?_
  suffices hs : ∀ (o9 : zO) (h9 : zH), (Sum.inl "java/lang/IndexOutOfBoundsException" : zO) = o9 → (zHp (c, r, w, lim, tol, cart, wov, lot, sew, mis, cnt, col, len, lef, sbt, shd) X Y out) = h9 → zPW G mX9_sew 1 6 o9 h9 0 0 0 [(0, .ref 0), (1, .int ix)] [] (zHp (c, r, w, lim, tol, cart, wov, lot, sew, mis, cnt, col, len, lef, sbt, shd) X Y out) from hs _ _ rfl rfl
  intro o9 h9 ho9 hh9
  refine z_aload_n 0 dX9_sew_0 rfl rfl ?_
  refine z_get (v := .ref 1) 0 zgo_0 rfl inX9 (by decide) zw_230 rfl rfl dX9_sew_1 ?_
  refine z_iload_n 1 dX9_sew_4 rfl rfl ?_
  refine z_callV (N := mX4_whyNotSew) 1 [.int ix] [] lX4_whyNotSew ⟨zw_790, zw_791, zw_792⟩ rfl zgo_1 rfl rfl (Nat.le_of_ble_eq_true rfl) (by decide) ⟨zlt, zlt⟩ ⟨Nat.zero_le _, Nat.zero_le _⟩ (fun _ => rfl) (c_wnSew hG hc hr hw hn hl ix) dX9_sew_5 ?_
  refine z_top (v2 := .int 1) (by rw [hk0]) ?_
  exact z_callSX (N := mX9_refuse) 1 [.int 1] [] lX9_refuse ⟨zw_495, zw_496⟩ rfl rfl rfl (Nat.le_of_ble_eq_true rfl) (by decide) hG ⟨Nat.le_refl _, Nat.le_refl _⟩ c_refuse_1 dX9_sew_8 ho9.symm (zo_h hh9 (by rfl))

set_option maxHeartbeats 4000000 in
set_option maxRecDepth 100000 in
theorem c_f_sew_0_3 {G : zT} {c r w lim cnt : Nat} {tol : Int32} {cart wov lot sew mis col len lef sbt : Nat → Int32} {shd : Nat → UInt32} {X : zXr} {Y : zYr} {out : Nat → Int64} (hG : zAl G = false) (hc : c ≤ 20) (hr : r ≤ 16) (hw : w ≤ r) (hn : cnt ≤ 16) (hl : lim ≤ 16) (hs : ∀ j, zFinS (shd j)) (hc1 : 1 ≤ c) (h4 : X.2.2.2.2.2.1 < 4) (hc4 : X.2.2.2.2.1 ≤ 4) (ix : Int32) (hk0 : (if zSp wov c w lim ix = -1 then (1 : Int32) else if zAt sew (zSp wov c w lim ix / nI 16) (zSp wov c w lim ix - zSp wov c w lim ix / nI 16 * nI 16) == 1 then 3 else 0) = 3) : zRun G mX9_sew 1 6 [.ref 0, .int ix] (zHp (c, r, w, lim, tol, cart, wov, lot, sew, mis, cnt, col, len, lef, sbt, shd) X Y out) (.inl "java/lang/IllegalStateException") (zHp (c, r, w, lim, tol, cart, wov, lot, sew, mis, cnt, col, len, lef, sbt, shd) X Y out) := by
  refine zRun_of (by decide +kernel) rfl rfl (Nat.le_of_ble_eq_true rfl) ?_
  suffices hs : ∀ (o9 : zO) (h9 : zH), (Sum.inl "java/lang/IllegalStateException" : zO) = o9 → (zHp (c, r, w, lim, tol, cart, wov, lot, sew, mis, cnt, col, len, lef, sbt, shd) X Y out) = h9 → zPW G mX9_sew 1 6 o9 h9 0 0 0 [(0, .ref 0), (1, .int ix)] [] (zHp (c, r, w, lim, tol, cart, wov, lot, sew, mis, cnt, col, len, lef, sbt, shd) X Y out) from hs _ _ rfl rfl
  intro o9 h9 ho9 hh9
  refine z_aload_n 0 dX9_sew_0 rfl rfl ?_
  refine z_get (v := .ref 1) 0 zgo_0 rfl inX9 (by decide) zw_230 rfl rfl dX9_sew_1 ?_
  refine z_iload_n 1 dX9_sew_4 rfl rfl ?_
  refine z_callV (N := mX4_whyNotSew) 1 [.int ix] [] lX4_whyNotSew ⟨zw_790, zw_791, zw_792⟩ rfl zgo_1 rfl rfl (Nat.le_of_ble_eq_true rfl) (by decide) ⟨zlt, zlt⟩ ⟨Nat.zero_le _, Nat.zero_le _⟩ (fun _ => rfl) (c_wnSew hG hc hr hw hn hl ix) dX9_sew_5 ?_
  refine z_top (v2 := .int 3) (by rw [hk0]) ?_
  exact z_callSX (N := mX9_refuse) 1 [.int 3] [] lX9_refuse ⟨zw_495, zw_496⟩ rfl rfl rfl (Nat.le_of_ble_eq_true rfl) (by decide) hG ⟨Nat.le_refl _, Nat.le_refl _⟩ c_refuse_3 dX9_sew_8 ho9.symm (zo_h hh9 (by rfl))

set_option maxHeartbeats 4000000 in
set_option maxRecDepth 100000 in
theorem c_f_plant {G : zT} {c r w lim cnt : Nat} {tol : Int32} {cart wov lot sew mis col len lef sbt : Nat → Int32} {shd : Nat → UInt32} {X : zXr} {Y : zYr} {out : Nat → Int64} (hG : zAl G = false) (hc : c ≤ 20) (hr : r ≤ 16) (hw : w ≤ r) (hn : cnt ≤ 16) (hl : lim ≤ 16) (hs : ∀ j, zFinS (shd j)) (hc1 : 1 ≤ c) (h4 : X.2.2.2.2.2.1 < 4) (hc4 : X.2.2.2.2.1 ≤ 4) (b v : Int32) (hk0 : (if zFr 0 b (nI c - 1) then (if zFr 0 v 7 then (0 : Int32) else 2) else 1) = 0) : zRun G mX9_plant 0 0 [.ref 0, .int b, .int v] (zHp (c, r, w, lim, tol, cart, wov, lot, sew, mis, cnt, col, len, lef, sbt, shd) X Y out) (.inr (some (.int (nI (zOth 20 (zPutN 20 mis b v) (-1)))))) (zHp (c, r, w, lim, tol, cart, wov, lot, sew, (zPutN 20 mis b v), cnt, col, len, lef, sbt, shd) (zSvd (c, r, w, lim, tol, cart, wov, lot, sew, mis, cnt, col, len, lef, sbt, shd) X) Y out) := by
  refine zRun_of (by decide +kernel) rfl rfl (Nat.le_of_ble_eq_true rfl) ?_
  suffices hs : ∀ (o9 : zO) (h9 : zH), (Sum.inr (some (.int (nI (zOth 20 (zPutN 20 mis b v) (-1))))) : zO) = o9 → (zHp (c, r, w, lim, tol, cart, wov, lot, sew, (zPutN 20 mis b v), cnt, col, len, lef, sbt, shd) (zSvd (c, r, w, lim, tol, cart, wov, lot, sew, mis, cnt, col, len, lef, sbt, shd) X) Y out) = h9 → zPW G mX9_plant 0 0 o9 h9 0 0 0 [(0, .ref 0), (1, .int b), (2, .int v)] [] (zHp (c, r, w, lim, tol, cart, wov, lot, sew, mis, cnt, col, len, lef, sbt, shd) X Y out) from hs _ _ rfl rfl
  intro o9 h9 ho9 hh9
  refine z_aload_n 0 dX9_plant_0 rfl rfl ?_
  refine z_get (v := .ref 1) 0 zgo_0 rfl inX9 (by decide) zw_230 rfl rfl dX9_plant_1 ?_
  refine z_iload_n 1 dX9_plant_4 rfl rfl ?_
  refine z_iload_n 2 dX9_plant_5 rfl rfl ?_
  refine z_callV (N := mX4_whyNotPlant) 2 [.int b, .int v] [] lX4_whyNotPlant ⟨zw_723, zw_724, zw_725⟩ rfl zgo_1 rfl rfl (Nat.le_of_ble_eq_true rfl) (by decide) ⟨zlt, zlt⟩ ⟨Nat.zero_le _, Nat.zero_le _⟩ (fun _ => rfl) (c_wnPlant hG hc hr hw hn b v) dX9_plant_6 ?_
  refine z_top (v2 := .int 0) (by rw [hk0]) ?_
  refine z_callS (N := mX9_refuse) 1 [.int 0] [] lX9_refuse ⟨zw_495, zw_496⟩ rfl rfl rfl (Nat.le_of_ble_eq_true rfl) (by decide) ⟨zlt, zlt⟩ hG ⟨Nat.zero_le _, Nat.zero_le _⟩ c_refuse_0 dX9_plant_9 ?_
  refine z_aload_n 0 dX9_plant_12 rfl rfl ?_
  refine z_get (v := .ref 22) 1 zgo_0 rfl inX9 (by decide) zw_231 rfl rfl dX9_plant_13 ?_
  refine z_aload_n 0 dX9_plant_16 rfl rfl ?_
  refine z_get (v := .ref 1) 0 zgo_0 rfl inX9 (by decide) zw_230 rfl rfl dX9_plant_17 ?_
  refine z_callV (N := mX3_save) 1 [.ref 1] [] lX3_save ⟨zw_598, zw_599, zw_600⟩ rfl zgo_22 rfl rfl (Nat.le_of_ble_eq_true rfl) (by decide) ⟨zlt, zlt⟩ ⟨Nat.zero_le _, Nat.zero_le _⟩ zal (c_save hG h4 hc4) dX9_plant_20 ?_
  refine z_aload_n 0 dX9_plant_23 rfl rfl ?_
  refine z_get (v := .ref 1) 0 zgo_0 rfl inX9 (by decide) zw_230 rfl rfl dX9_plant_24 ?_
  refine z_iload_n 1 dX9_plant_27 rfl rfl ?_
  refine z_iload_n 2 dX9_plant_28 rfl rfl ?_
  refine z_callV (N := mX4_plantMistake) 2 [.int b, .int v] [] lX4_plantMistake ⟨zw_727, zw_728, zw_729⟩ rfl zgo_1 rfl rfl (Nat.le_of_ble_eq_true rfl) (by decide) ⟨zlt, zlt⟩ ⟨Nat.zero_le _, Nat.zero_le _⟩ zal (c_plant hG hc hr hw hn b v) dX9_plant_29 ?_
  exact z_iret rfl dX9_plant_32 (zo_i ho9 (by rfl)) (zo_h hh9 (by rfl)) (Nat.zero_le _) (Nat.zero_le _)

set_option maxHeartbeats 4000000 in
set_option maxRecDepth 100000 in
theorem c_f_plant_0_1 {G : zT} {c r w lim cnt : Nat} {tol : Int32} {cart wov lot sew mis col len lef sbt : Nat → Int32} {shd : Nat → UInt32} {X : zXr} {Y : zYr} {out : Nat → Int64} (hG : zAl G = false) (hc : c ≤ 20) (hr : r ≤ 16) (hw : w ≤ r) (hn : cnt ≤ 16) (hl : lim ≤ 16) (hs : ∀ j, zFinS (shd j)) (hc1 : 1 ≤ c) (h4 : X.2.2.2.2.2.1 < 4) (hc4 : X.2.2.2.2.1 ≤ 4) (b v : Int32) (hk0 : (if zFr 0 b (nI c - 1) then (if zFr 0 v 7 then (0 : Int32) else 2) else 1) = 1) : zRun G mX9_plant 1 6 [.ref 0, .int b, .int v] (zHp (c, r, w, lim, tol, cart, wov, lot, sew, mis, cnt, col, len, lef, sbt, shd) X Y out) (.inl "java/lang/IndexOutOfBoundsException") (zHp (c, r, w, lim, tol, cart, wov, lot, sew, mis, cnt, col, len, lef, sbt, shd) X Y out) := by
  refine zRun_of (by decide +kernel) rfl rfl (Nat.le_of_ble_eq_true rfl) ?_
  suffices hs : ∀ (o9 : zO) (h9 : zH), (Sum.inl "java/lang/IndexOutOfBoundsException" : zO) = o9 → (zHp (c, r, w, lim, tol, cart, wov, lot, sew, mis, cnt, col, len, lef, sbt, shd) X Y out) = h9 → zPW G mX9_plant 1 6 o9 h9 0 0 0 [(0, .ref 0), (1, .int b), (2, .int v)] [] (zHp (c, r, w, lim, tol, cart, wov, lot, sew, mis, cnt, col, len, lef, sbt, shd) X Y out) from hs _ _ rfl rfl
  intro o9 h9 ho9 hh9
  refine z_aload_n 0 dX9_plant_0 rfl rfl ?_
  refine z_get (v := .ref 1) 0 zgo_0 rfl inX9 (by decide) zw_230 rfl rfl dX9_plant_1 ?_
  refine z_iload_n 1 dX9_plant_4 rfl rfl ?_
  refine z_iload_n 2 dX9_plant_5 rfl rfl ?_
  refine z_callV (N := mX4_whyNotPlant) 2 [.int b, .int v] [] lX4_whyNotPlant ⟨zw_723, zw_724, zw_725⟩ rfl zgo_1 rfl rfl (Nat.le_of_ble_eq_true rfl) (by decide) ⟨zlt, zlt⟩ ⟨Nat.zero_le _, Nat.zero_le _⟩ (fun _ => rfl) (c_wnPlant hG hc hr hw hn b v) dX9_plant_6 ?_
  refine z_top (v2 := .int 1) (by rw [hk0]) ?_
  exact z_callSX (N := mX9_refuse) 1 [.int 1] [] lX9_refuse ⟨zw_495, zw_496⟩ rfl rfl rfl (Nat.le_of_ble_eq_true rfl) (by decide) hG ⟨Nat.le_refl _, Nat.le_refl _⟩ c_refuse_1 dX9_plant_9 ho9.symm (zo_h hh9 (by rfl))

set_option maxHeartbeats 4000000 in
set_option maxRecDepth 100000 in
theorem c_f_plant_0_2 {G : zT} {c r w lim cnt : Nat} {tol : Int32} {cart wov lot sew mis col len lef sbt : Nat → Int32} {shd : Nat → UInt32} {X : zXr} {Y : zYr} {out : Nat → Int64} (hG : zAl G = false) (hc : c ≤ 20) (hr : r ≤ 16) (hw : w ≤ r) (hn : cnt ≤ 16) (hl : lim ≤ 16) (hs : ∀ j, zFinS (shd j)) (hc1 : 1 ≤ c) (h4 : X.2.2.2.2.2.1 < 4) (hc4 : X.2.2.2.2.1 ≤ 4) (b v : Int32) (hk0 : (if zFr 0 b (nI c - 1) then (if zFr 0 v 7 then (0 : Int32) else 2) else 1) = 2) : zRun G mX9_plant 1 6 [.ref 0, .int b, .int v] (zHp (c, r, w, lim, tol, cart, wov, lot, sew, mis, cnt, col, len, lef, sbt, shd) X Y out) (.inl "java/lang/IllegalArgumentException") (zHp (c, r, w, lim, tol, cart, wov, lot, sew, mis, cnt, col, len, lef, sbt, shd) X Y out) := by
  refine zRun_of (by decide +kernel) rfl rfl (Nat.le_of_ble_eq_true rfl) ?_
  suffices hs : ∀ (o9 : zO) (h9 : zH), (Sum.inl "java/lang/IllegalArgumentException" : zO) = o9 → (zHp (c, r, w, lim, tol, cart, wov, lot, sew, mis, cnt, col, len, lef, sbt, shd) X Y out) = h9 → zPW G mX9_plant 1 6 o9 h9 0 0 0 [(0, .ref 0), (1, .int b), (2, .int v)] [] (zHp (c, r, w, lim, tol, cart, wov, lot, sew, mis, cnt, col, len, lef, sbt, shd) X Y out) from hs _ _ rfl rfl
  intro o9 h9 ho9 hh9
  refine z_aload_n 0 dX9_plant_0 rfl rfl ?_
  refine z_get (v := .ref 1) 0 zgo_0 rfl inX9 (by decide) zw_230 rfl rfl dX9_plant_1 ?_
  refine z_iload_n 1 dX9_plant_4 rfl rfl ?_
  refine z_iload_n 2 dX9_plant_5 rfl rfl ?_
  refine z_callV (N := mX4_whyNotPlant) 2 [.int b, .int v] [] lX4_whyNotPlant ⟨zw_723, zw_724, zw_725⟩ rfl zgo_1 rfl rfl (Nat.le_of_ble_eq_true rfl) (by decide) ⟨zlt, zlt⟩ ⟨Nat.zero_le _, Nat.zero_le _⟩ (fun _ => rfl) (c_wnPlant hG hc hr hw hn b v) dX9_plant_6 ?_
  refine z_top (v2 := .int 2) (by rw [hk0]) ?_
  exact z_callSX (N := mX9_refuse) 1 [.int 2] [] lX9_refuse ⟨zw_495, zw_496⟩ rfl rfl rfl (Nat.le_of_ble_eq_true rfl) (by decide) hG ⟨Nat.le_refl _, Nat.le_refl _⟩ c_refuse_2 dX9_plant_9 ho9.symm (zo_h hh9 (by rfl))

set_option maxHeartbeats 4000000 in
set_option maxRecDepth 100000 in
theorem c_f_whole {G : zT} {c r w lim cnt : Nat} {tol : Int32} {cart wov lot sew mis col len lef sbt : Nat → Int32} {shd : Nat → UInt32} {X : zXr} {Y : zYr} {out : Nat → Int64} (hG : zAl G = false) (hc : c ≤ 20) (hr : r ≤ 16) (hw : w ≤ r) (hn : cnt ≤ 16) (hl : lim ≤ 16) (hs : ∀ j, zFinS (shd j)) (hc1 : 1 ≤ c) (h4 : X.2.2.2.2.2.1 < 4) (hc4 : X.2.2.2.2.1 ≤ 4) (t : Nat) (ht14 : t ≤ 14) (hk0 : (zFr 0 (nI t) (nI 14)) = true) : zRun G mX9_whole 0 0 [.ref 0, .int (nI t)] (zHp (c, r, w, lim, tol, cart, wov, lot, sew, mis, cnt, col, len, lef, sbt, shd) X Y out) (.inr (some (.int (zWh c r w lim tol cart wov lot sew mis cnt shd (nI (X.2.2.2.2.2.2.2.1)) t)))) (zHp (c, r, w, lim, tol, cart, wov, lot, sew, mis, cnt, col, len, lef, sbt, shd) X Y out) := by
  refine zRun_of (by decide +kernel) rfl rfl (Nat.le_of_ble_eq_true rfl) ?_
  suffices hs : ∀ (o9 : zO) (h9 : zH), (Sum.inr (some (.int (zWh c r w lim tol cart wov lot sew mis cnt shd (nI (X.2.2.2.2.2.2.2.1)) t))) : zO) = o9 → (zHp (c, r, w, lim, tol, cart, wov, lot, sew, mis, cnt, col, len, lef, sbt, shd) X Y out) = h9 → zPW G mX9_whole 0 0 o9 h9 0 0 0 [(0, .ref 0), (1, .int (nI t))] [] (zHp (c, r, w, lim, tol, cart, wov, lot, sew, mis, cnt, col, len, lef, sbt, shd) X Y out) from hs _ _ rfl rfl
  intro o9 h9 ho9 hh9
  refine z_iconst (v := 0) dX9_whole_0 (by decide) ?_
  refine z_iload_n 1 dX9_whole_1 rfl rfl ?_
  refine z_bipush (v := nI 14) dX9_whole_2 (by decide) ?_
  refine z_callS (N := mX9_isFrom) 3 [.int 0, .int (nI t), .int (nI 14)] [] lX9_isFrom ⟨zw_660, zw_493⟩ rfl rfl rfl (Nat.le_of_ble_eq_true rfl) (by decide) ⟨zlt, zlt⟩ hG ⟨Nat.zero_le _, Nat.zero_le _⟩ (c_isFrom hG zlt 0 (nI t) (nI 14)) dX9_whole_4 ?_
  refine z_if_eq (tgt := 14) dX9_whole_7 (by decide) (fun c_7 => ?_) (fun c_7 => ?_)
  · exfalso; exact absurd (zB_0.mp c_7) (by rw [hk0]; decide)
  · skip
    have b_7 := zB_tt c_7
    refine z_iconst (v := 0) dX9_whole_10 (by decide) ?_
    refine z_goto (tgt := 15) dX9_whole_11 (by decide) ?_
    refine z_callS (N := mX9_refuse) 1 [.int 0] [] lX9_refuse ⟨zw_495, zw_496⟩ rfl rfl rfl (Nat.le_of_ble_eq_true rfl) (by decide) ⟨zlt, zlt⟩ hG ⟨Nat.zero_le _, Nat.zero_le _⟩ c_refuse_0 dX9_whole_15 ?_
    refine z_aload_n 0 dX9_whole_18 rfl rfl ?_
    refine z_get (v := .ref 1) 0 zgo_0 rfl inX9 (by decide) zw_230 rfl rfl dX9_whole_19 ?_
    refine z_iload_n 1 dX9_whole_22 rfl rfl ?_
    refine z_aload_n 0 dX9_whole_23 rfl rfl ?_
    refine z_get (v := .ref 108) 2 zgo_0 rfl inX9 (by decide) zw_232 rfl rfl dX9_whole_24 ?_
    refine z_getN (v := .int (nI (X.2.2.2.2.2.2.2.1))) 1 zgo_108 rfl inX1 (by decide) (by decide) rfl rfl dX9_whole_27 ?_
    refine z_callV (N := mX4_wholeValueOf) 2 [.int (nI t), .int (nI (X.2.2.2.2.2.2.2.1))] [] lX4_wholeValueOf ⟨zw_252, zw_253, zw_254⟩ rfl zgo_1 rfl rfl (Nat.le_of_ble_eq_true rfl) (by decide) ⟨zlt, zlt⟩ ⟨Nat.zero_le _, Nat.zero_le _⟩ (fun _ => rfl) (c_wholeValue hG hc hr hw hn hl hs (nI (X.2.2.2.2.2.2.2.1)) t (by omega)) dX9_whole_30 ?_
    exact z_iret rfl dX9_whole_33 (zo_i ho9 (by rfl)) (zo_h hh9 (by rfl)) (Nat.zero_le _) (Nat.zero_le _)

set_option maxHeartbeats 4000000 in
set_option maxRecDepth 100000 in
theorem c_f_whole_0_2 {G : zT} {c r w lim cnt : Nat} {tol : Int32} {cart wov lot sew mis col len lef sbt : Nat → Int32} {shd : Nat → UInt32} {X : zXr} {Y : zYr} {out : Nat → Int64} (hG : zAl G = false) (hc : c ≤ 20) (hr : r ≤ 16) (hw : w ≤ r) (hn : cnt ≤ 16) (hl : lim ≤ 16) (hs : ∀ j, zFinS (shd j)) (hc1 : 1 ≤ c) (h4 : X.2.2.2.2.2.1 < 4) (hc4 : X.2.2.2.2.1 ≤ 4) (t : Nat) (hk0 : (zFr 0 (nI t) (nI 14)) = false) : zRun G mX9_whole 1 6 [.ref 0, .int (nI t)] (zHp (c, r, w, lim, tol, cart, wov, lot, sew, mis, cnt, col, len, lef, sbt, shd) X Y out) (.inl "java/lang/IllegalArgumentException") (zHp (c, r, w, lim, tol, cart, wov, lot, sew, mis, cnt, col, len, lef, sbt, shd) X Y out) := by
  refine zRun_of (by decide +kernel) rfl rfl (Nat.le_of_ble_eq_true rfl) ?_
  suffices hs : ∀ (o9 : zO) (h9 : zH), (Sum.inl "java/lang/IllegalArgumentException" : zO) = o9 → (zHp (c, r, w, lim, tol, cart, wov, lot, sew, mis, cnt, col, len, lef, sbt, shd) X Y out) = h9 → zPW G mX9_whole 1 6 o9 h9 0 0 0 [(0, .ref 0), (1, .int (nI t))] [] (zHp (c, r, w, lim, tol, cart, wov, lot, sew, mis, cnt, col, len, lef, sbt, shd) X Y out) from hs _ _ rfl rfl
  intro o9 h9 ho9 hh9
  refine z_iconst (v := 0) dX9_whole_0 (by decide) ?_
  refine z_iload_n 1 dX9_whole_1 rfl rfl ?_
  refine z_bipush (v := nI 14) dX9_whole_2 (by decide) ?_
  refine z_callS (N := mX9_isFrom) 3 [.int 0, .int (nI t), .int (nI 14)] [] lX9_isFrom ⟨zw_660, zw_493⟩ rfl rfl rfl (Nat.le_of_ble_eq_true rfl) (by decide) ⟨zlt, zlt⟩ hG ⟨Nat.zero_le _, Nat.zero_le _⟩ (c_isFrom hG zlt 0 (nI t) (nI 14)) dX9_whole_4 ?_
  refine z_if_eq (tgt := 14) dX9_whole_7 (by decide) (fun c_7 => ?_) (fun c_7 => ?_)
  · skip
    have b_7 := zB_0.mp c_7
    refine z_iconst (v := 2) dX9_whole_14 (by decide) ?_
    exact z_callSX (N := mX9_refuse) 1 [.int 2] [] lX9_refuse ⟨zw_495, zw_496⟩ rfl rfl rfl (Nat.le_of_ble_eq_true rfl) (by decide) hG ⟨Nat.le_refl _, Nat.le_refl _⟩ c_refuse_2 dX9_whole_15 ho9.symm (zo_h hh9 (by rfl))
  · exfalso; exact c_7 (zB_0.mpr hk0)

set_option maxHeartbeats 4000000 in
set_option maxRecDepth 100000 in
theorem c_f_unweave {G : zT} {c r w lim cnt : Nat} {tol : Int32} {cart wov lot sew mis col len lef sbt : Nat → Int32} {shd : Nat → UInt32} {X : zXr} {Y : zYr} {out : Nat → Int64} (hG : zAl G = false) (hc : c ≤ 20) (hr : r ≤ 16) (hw : w ≤ r) (hn : cnt ≤ 16) (hl : lim ≤ 16) (hs : ∀ j, zFinS (shd j)) (hc1 : 1 ≤ c) (h4 : X.2.2.2.2.2.1 < 4) (hc4 : X.2.2.2.2.1 ≤ 4) (n : Nat) (hnw : n ≤ w) (hk0 : (if zFr 1 (nI n) (nI 16) then (if nI w < nI n then (3 : Int32) else 0) else 2) = 0) : zRun G mX9_unweave 0 0 [.ref 0, .int (nI n)] (zHp (c, r, w, lim, tol, cart, wov, lot, sew, mis, cnt, col, len, lef, sbt, shd) X Y out) (.inr (some (.int (nI (n * c))))) (zHp (c, r, (w - n), lim, tol, cart, wov, lot, (zFg wov sew c (w - n) lim), mis, cnt, col, len, (zUw lot c w n lef), sbt, shd) (zSvd (c, r, w, lim, tol, cart, wov, lot, sew, mis, cnt, col, len, lef, sbt, shd) X) Y out) := by
  refine zRun_of (by decide +kernel) rfl rfl (Nat.le_of_ble_eq_true rfl) ?_
  suffices hs : ∀ (o9 : zO) (h9 : zH), (Sum.inr (some (.int (nI (n * c)))) : zO) = o9 → (zHp (c, r, (w - n), lim, tol, cart, wov, lot, (zFg wov sew c (w - n) lim), mis, cnt, col, len, (zUw lot c w n lef), sbt, shd) (zSvd (c, r, w, lim, tol, cart, wov, lot, sew, mis, cnt, col, len, lef, sbt, shd) X) Y out) = h9 → zPW G mX9_unweave 0 0 o9 h9 0 0 0 [(0, .ref 0), (1, .int (nI n))] [] (zHp (c, r, w, lim, tol, cart, wov, lot, sew, mis, cnt, col, len, lef, sbt, shd) X Y out) from hs _ _ rfl rfl
  intro o9 h9 ho9 hh9
  refine z_aload_n 0 dX9_unweave_0 rfl rfl ?_
  refine z_get (v := .ref 1) 0 zgo_0 rfl inX9 (by decide) zw_230 rfl rfl dX9_unweave_1 ?_
  refine z_iload_n 1 dX9_unweave_4 rfl rfl ?_
  refine z_callV (N := mX4_whyNotUnweave) 1 [.int (nI n)] [] lX4_whyNotUnweave ⟨zw_771, zw_772, zw_773⟩ rfl zgo_1 rfl rfl (Nat.le_of_ble_eq_true rfl) (by decide) ⟨zlt, zlt⟩ ⟨Nat.zero_le _, Nat.zero_le _⟩ (fun _ => rfl) (c_wnUnweave hG hc hr hw hn (nI n)) dX9_unweave_5 ?_
  refine z_top (v2 := .int 0) (by rw [hk0]) ?_
  refine z_callS (N := mX9_refuse) 1 [.int 0] [] lX9_refuse ⟨zw_495, zw_496⟩ rfl rfl rfl (Nat.le_of_ble_eq_true rfl) (by decide) ⟨zlt, zlt⟩ hG ⟨Nat.zero_le _, Nat.zero_le _⟩ c_refuse_0 dX9_unweave_8 ?_
  refine z_aload_n 0 dX9_unweave_11 rfl rfl ?_
  refine z_get (v := .ref 22) 1 zgo_0 rfl inX9 (by decide) zw_231 rfl rfl dX9_unweave_12 ?_
  refine z_aload_n 0 dX9_unweave_15 rfl rfl ?_
  refine z_get (v := .ref 1) 0 zgo_0 rfl inX9 (by decide) zw_230 rfl rfl dX9_unweave_16 ?_
  refine z_callV (N := mX3_save) 1 [.ref 1] [] lX3_save ⟨zw_598, zw_599, zw_600⟩ rfl zgo_22 rfl rfl (Nat.le_of_ble_eq_true rfl) (by decide) ⟨zlt, zlt⟩ ⟨Nat.zero_le _, Nat.zero_le _⟩ zal (c_save hG h4 hc4) dX9_unweave_19 ?_
  refine z_aload_n 0 dX9_unweave_22 rfl rfl ?_
  refine z_get (v := .ref 1) 0 zgo_0 rfl inX9 (by decide) zw_230 rfl rfl dX9_unweave_23 ?_
  refine z_iload_n 1 dX9_unweave_26 rfl rfl ?_
  refine z_callV (N := mX4_unweaveRows) 1 [.int (nI n)] [] lX4_unweaveRows ⟨zw_775, zw_776, zw_777⟩ rfl zgo_1 rfl rfl (Nat.le_of_ble_eq_true rfl) (by decide) ⟨zlt, zlt⟩ ⟨Nat.zero_le _, Nat.zero_le _⟩ zal (c_unweaveRows hG hc hr hw hn hl n hnw) dX9_unweave_27 ?_
  exact z_iret rfl dX9_unweave_30 (zo_i ho9 (by rfl)) (zo_h hh9 (by rfl)) (Nat.zero_le _) (Nat.zero_le _)

set_option maxHeartbeats 4000000 in
set_option maxRecDepth 100000 in
theorem c_f_unweave_0_2 {G : zT} {c r w lim cnt : Nat} {tol : Int32} {cart wov lot sew mis col len lef sbt : Nat → Int32} {shd : Nat → UInt32} {X : zXr} {Y : zYr} {out : Nat → Int64} (hG : zAl G = false) (hc : c ≤ 20) (hr : r ≤ 16) (hw : w ≤ r) (hn : cnt ≤ 16) (hl : lim ≤ 16) (hs : ∀ j, zFinS (shd j)) (hc1 : 1 ≤ c) (h4 : X.2.2.2.2.2.1 < 4) (hc4 : X.2.2.2.2.1 ≤ 4) (n : Nat) (hk0 : (if zFr 1 (nI n) (nI 16) then (if nI w < nI n then (3 : Int32) else 0) else 2) = 2) : zRun G mX9_unweave 1 6 [.ref 0, .int (nI n)] (zHp (c, r, w, lim, tol, cart, wov, lot, sew, mis, cnt, col, len, lef, sbt, shd) X Y out) (.inl "java/lang/IllegalArgumentException") (zHp (c, r, w, lim, tol, cart, wov, lot, sew, mis, cnt, col, len, lef, sbt, shd) X Y out) := by
  refine zRun_of (by decide +kernel) rfl rfl (Nat.le_of_ble_eq_true rfl) ?_
  suffices hs : ∀ (o9 : zO) (h9 : zH), (Sum.inl "java/lang/IllegalArgumentException" : zO) = o9 → (zHp (c, r, w, lim, tol, cart, wov, lot, sew, mis, cnt, col, len, lef, sbt, shd) X Y out) = h9 → zPW G mX9_unweave 1 6 o9 h9 0 0 0 [(0, .ref 0), (1, .int (nI n))] [] (zHp (c, r, w, lim, tol, cart, wov, lot, sew, mis, cnt, col, len, lef, sbt, shd) X Y out) from hs _ _ rfl rfl
  intro o9 h9 ho9 hh9
  refine z_aload_n 0 dX9_unweave_0 rfl rfl ?_
  refine z_get (v := .ref 1) 0 zgo_0 rfl inX9 (by decide) zw_230 rfl rfl dX9_unweave_1 ?_
  refine z_iload_n 1 dX9_unweave_4 rfl rfl ?_
  refine z_callV (N := mX4_whyNotUnweave) 1 [.int (nI n)] [] lX4_whyNotUnweave ⟨zw_771, zw_772, zw_773⟩ rfl zgo_1 rfl rfl (Nat.le_of_ble_eq_true rfl) (by decide) ⟨zlt, zlt⟩ ⟨Nat.zero_le _, Nat.zero_le _⟩ (fun _ => rfl) (c_wnUnweave hG hc hr hw hn (nI n)) dX9_unweave_5 ?_
  refine z_top (v2 := .int 2) (by rw [hk0]) ?_
  exact z_callSX (N := mX9_refuse) 1 [.int 2] [] lX9_refuse ⟨zw_495, zw_496⟩ rfl rfl rfl (Nat.le_of_ble_eq_true rfl) (by decide) hG ⟨Nat.le_refl _, Nat.le_refl _⟩ c_refuse_2 dX9_unweave_8 ho9.symm (zo_h hh9 (by rfl))

set_option maxHeartbeats 4000000 in
set_option maxRecDepth 100000 in
theorem c_f_unweave_0_3 {G : zT} {c r w lim cnt : Nat} {tol : Int32} {cart wov lot sew mis col len lef sbt : Nat → Int32} {shd : Nat → UInt32} {X : zXr} {Y : zYr} {out : Nat → Int64} (hG : zAl G = false) (hc : c ≤ 20) (hr : r ≤ 16) (hw : w ≤ r) (hn : cnt ≤ 16) (hl : lim ≤ 16) (hs : ∀ j, zFinS (shd j)) (hc1 : 1 ≤ c) (h4 : X.2.2.2.2.2.1 < 4) (hc4 : X.2.2.2.2.1 ≤ 4) (n : Nat) (hk0 : (if zFr 1 (nI n) (nI 16) then (if nI w < nI n then (3 : Int32) else 0) else 2) = 3) : zRun G mX9_unweave 1 6 [.ref 0, .int (nI n)] (zHp (c, r, w, lim, tol, cart, wov, lot, sew, mis, cnt, col, len, lef, sbt, shd) X Y out) (.inl "java/lang/IllegalStateException") (zHp (c, r, w, lim, tol, cart, wov, lot, sew, mis, cnt, col, len, lef, sbt, shd) X Y out) := by
  refine zRun_of (by decide +kernel) rfl rfl (Nat.le_of_ble_eq_true rfl) ?_
  suffices hs : ∀ (o9 : zO) (h9 : zH), (Sum.inl "java/lang/IllegalStateException" : zO) = o9 → (zHp (c, r, w, lim, tol, cart, wov, lot, sew, mis, cnt, col, len, lef, sbt, shd) X Y out) = h9 → zPW G mX9_unweave 1 6 o9 h9 0 0 0 [(0, .ref 0), (1, .int (nI n))] [] (zHp (c, r, w, lim, tol, cart, wov, lot, sew, mis, cnt, col, len, lef, sbt, shd) X Y out) from hs _ _ rfl rfl
  intro o9 h9 ho9 hh9
  refine z_aload_n 0 dX9_unweave_0 rfl rfl ?_
  refine z_get (v := .ref 1) 0 zgo_0 rfl inX9 (by decide) zw_230 rfl rfl dX9_unweave_1 ?_
  refine z_iload_n 1 dX9_unweave_4 rfl rfl ?_
  refine z_callV (N := mX4_whyNotUnweave) 1 [.int (nI n)] [] lX4_whyNotUnweave ⟨zw_771, zw_772, zw_773⟩ rfl zgo_1 rfl rfl (Nat.le_of_ble_eq_true rfl) (by decide) ⟨zlt, zlt⟩ ⟨Nat.zero_le _, Nat.zero_le _⟩ (fun _ => rfl) (c_wnUnweave hG hc hr hw hn (nI n)) dX9_unweave_5 ?_
  refine z_top (v2 := .int 3) (by rw [hk0]) ?_
  exact z_callSX (N := mX9_refuse) 1 [.int 3] [] lX9_refuse ⟨zw_495, zw_496⟩ rfl rfl rfl (Nat.le_of_ble_eq_true rfl) (by decide) hG ⟨Nat.le_refl _, Nat.le_refl _⟩ c_refuse_3 dX9_unweave_8 ho9.symm (zo_h hh9 (by rfl))

set_option maxHeartbeats 4000000 in
set_option maxRecDepth 100000 in
theorem c_f_weave {G : zT} {c r w lim cnt : Nat} {tol : Int32} {cart wov lot sew mis col len lef sbt : Nat → Int32} {shd : Nat → UInt32} {X : zXr} {Y : zYr} {out : Nat → Int64} (hG : zAl G = false) (hc : c ≤ 20) (hr : r ≤ 16) (hw : w ≤ r) (hn : cnt ≤ 16) (hl : lim ≤ 16) (hs : ∀ j, zFinS (shd j)) (hc1 : 1 ≤ c) (h4 : X.2.2.2.2.2.1 < 4) (hc4 : X.2.2.2.2.1 ≤ 4) (n : Nat) (hn9 : n ≤ 16) (hk0 : (if zFr 1 (nI n) (nI 16) then (0 : Int32) else 2) = 0) : zRun G mX9_weave 0 0 [.ref 0, .int (nI n)] (zHp (c, r, w, lim, tol, cart, wov, lot, sew, mis, cnt, col, len, lef, sbt, shd) X Y out) (.inr (some (.int (nI (zWs9 c r cnt cart col n (w, wov, lot, lef, mis)).1)))) (zHp (c, r, (zWs9 c r cnt cart col n (w, wov, lot, lef, mis)).2.1, lim, tol, cart, (zWs9 c r cnt cart col n (w, wov, lot, lef, mis)).2.2.1, (zWs9 c r cnt cart col n (w, wov, lot, lef, mis)).2.2.2.1, sew, (zWs9 c r cnt cart col n (w, wov, lot, lef, mis)).2.2.2.2.2, cnt, col, len, (zWs9 c r cnt cart col n (w, wov, lot, lef, mis)).2.2.2.2.1, sbt, shd) (zSvd (c, r, w, lim, tol, cart, wov, lot, sew, mis, cnt, col, len, lef, sbt, shd) X) Y out) := by
  refine zRun_of (by decide +kernel) rfl rfl (Nat.le_of_ble_eq_true rfl) ?_
  suffices hs : ∀ (o9 : zO) (h9 : zH), (Sum.inr (some (.int (nI (zWs9 c r cnt cart col n (w, wov, lot, lef, mis)).1))) : zO) = o9 → (zHp (c, r, (zWs9 c r cnt cart col n (w, wov, lot, lef, mis)).2.1, lim, tol, cart, (zWs9 c r cnt cart col n (w, wov, lot, lef, mis)).2.2.1, (zWs9 c r cnt cart col n (w, wov, lot, lef, mis)).2.2.2.1, sew, (zWs9 c r cnt cart col n (w, wov, lot, lef, mis)).2.2.2.2.2, cnt, col, len, (zWs9 c r cnt cart col n (w, wov, lot, lef, mis)).2.2.2.2.1, sbt, shd) (zSvd (c, r, w, lim, tol, cart, wov, lot, sew, mis, cnt, col, len, lef, sbt, shd) X) Y out) = h9 → zPW G mX9_weave 0 0 o9 h9 0 0 0 [(0, .ref 0), (1, .int (nI n))] [] (zHp (c, r, w, lim, tol, cart, wov, lot, sew, mis, cnt, col, len, lef, sbt, shd) X Y out) from hs _ _ rfl rfl
  intro o9 h9 ho9 hh9
  refine z_aload_n 0 dX9_weave_0 rfl rfl ?_
  refine z_get (v := .ref 1) 0 zgo_0 rfl inX9 (by decide) zw_230 rfl rfl dX9_weave_1 ?_
  refine z_iload_n 1 dX9_weave_4 rfl rfl ?_
  refine z_callV (N := mX4_whyNotWeave) 1 [.int (nI n)] [] lX4_whyNotWeave ⟨zw_739, zw_740, zw_741⟩ rfl zgo_1 rfl rfl (Nat.le_of_ble_eq_true rfl) (by decide) ⟨zlt, zlt⟩ ⟨Nat.zero_le _, Nat.zero_le _⟩ (fun _ => rfl) (c_wnWeave hG hc hr hw hn (nI n)) dX9_weave_5 ?_
  refine z_top (v2 := .int 0) (by rw [hk0]) ?_
  refine z_callS (N := mX9_refuse) 1 [.int 0] [] lX9_refuse ⟨zw_495, zw_496⟩ rfl rfl rfl (Nat.le_of_ble_eq_true rfl) (by decide) ⟨zlt, zlt⟩ hG ⟨Nat.zero_le _, Nat.zero_le _⟩ c_refuse_0 dX9_weave_8 ?_
  refine z_aload_n 0 dX9_weave_11 rfl rfl ?_
  refine z_get (v := .ref 22) 1 zgo_0 rfl inX9 (by decide) zw_231 rfl rfl dX9_weave_12 ?_
  refine z_aload_n 0 dX9_weave_15 rfl rfl ?_
  refine z_get (v := .ref 1) 0 zgo_0 rfl inX9 (by decide) zw_230 rfl rfl dX9_weave_16 ?_
  refine z_callV (N := mX3_save) 1 [.ref 1] [] lX3_save ⟨zw_598, zw_599, zw_600⟩ rfl zgo_22 rfl rfl (Nat.le_of_ble_eq_true rfl) (by decide) ⟨zlt, zlt⟩ ⟨Nat.zero_le _, Nat.zero_le _⟩ zal (c_save hG h4 hc4) dX9_weave_19 ?_
  refine z_aload_n 0 dX9_weave_22 rfl rfl ?_
  refine z_get (v := .ref 1) 0 zgo_0 rfl inX9 (by decide) zw_230 rfl rfl dX9_weave_23 ?_
  refine z_iload_n 1 dX9_weave_26 rfl rfl ?_
  refine z_callV (N := mX4_weaveRows) 1 [.int (nI n)] [] lX4_weaveRows ⟨zw_743, zw_744, zw_745⟩ rfl zgo_1 rfl rfl (Nat.le_of_ble_eq_true rfl) (by decide) ⟨zlt, zlt⟩ ⟨Nat.zero_le _, Nat.zero_le _⟩ zal (c_weaveRows hG hc hr hw hn n (by omega)) dX9_weave_27 ?_
  exact z_iret rfl dX9_weave_30 (zo_i ho9 (by rfl)) (zo_h hh9 (by rfl)) (Nat.zero_le _) (Nat.zero_le _)

set_option maxHeartbeats 4000000 in
set_option maxRecDepth 100000 in
theorem c_f_weave_0_2 {G : zT} {c r w lim cnt : Nat} {tol : Int32} {cart wov lot sew mis col len lef sbt : Nat → Int32} {shd : Nat → UInt32} {X : zXr} {Y : zYr} {out : Nat → Int64} (hG : zAl G = false) (hc : c ≤ 20) (hr : r ≤ 16) (hw : w ≤ r) (hn : cnt ≤ 16) (hl : lim ≤ 16) (hs : ∀ j, zFinS (shd j)) (hc1 : 1 ≤ c) (h4 : X.2.2.2.2.2.1 < 4) (hc4 : X.2.2.2.2.1 ≤ 4) (n : Nat) (hk0 : (if zFr 1 (nI n) (nI 16) then (0 : Int32) else 2) = 2) : zRun G mX9_weave 1 6 [.ref 0, .int (nI n)] (zHp (c, r, w, lim, tol, cart, wov, lot, sew, mis, cnt, col, len, lef, sbt, shd) X Y out) (.inl "java/lang/IllegalArgumentException") (zHp (c, r, w, lim, tol, cart, wov, lot, sew, mis, cnt, col, len, lef, sbt, shd) X Y out) := by
  refine zRun_of (by decide +kernel) rfl rfl (Nat.le_of_ble_eq_true rfl) ?_
  suffices hs : ∀ (o9 : zO) (h9 : zH), (Sum.inl "java/lang/IllegalArgumentException" : zO) = o9 → (zHp (c, r, w, lim, tol, cart, wov, lot, sew, mis, cnt, col, len, lef, sbt, shd) X Y out) = h9 → zPW G mX9_weave 1 6 o9 h9 0 0 0 [(0, .ref 0), (1, .int (nI n))] [] (zHp (c, r, w, lim, tol, cart, wov, lot, sew, mis, cnt, col, len, lef, sbt, shd) X Y out) from hs _ _ rfl rfl
  intro o9 h9 ho9 hh9
  refine z_aload_n 0 dX9_weave_0 rfl rfl ?_
  refine z_get (v := .ref 1) 0 zgo_0 rfl inX9 (by decide) zw_230 rfl rfl dX9_weave_1 ?_
  refine z_iload_n 1 dX9_weave_4 rfl rfl ?_
  refine z_callV (N := mX4_whyNotWeave) 1 [.int (nI n)] [] lX4_whyNotWeave ⟨zw_739, zw_740, zw_741⟩ rfl zgo_1 rfl rfl (Nat.le_of_ble_eq_true rfl) (by decide) ⟨zlt, zlt⟩ ⟨Nat.zero_le _, Nat.zero_le _⟩ (fun _ => rfl) (c_wnWeave hG hc hr hw hn (nI n)) dX9_weave_5 ?_
  refine z_top (v2 := .int 2) (by rw [hk0]) ?_
  exact z_callSX (N := mX9_refuse) 1 [.int 2] [] lX9_refuse ⟨zw_495, zw_496⟩ rfl rfl rfl (Nat.le_of_ble_eq_true rfl) (by decide) hG ⟨Nat.le_refl _, Nat.le_refl _⟩ c_refuse_2 dX9_weave_8 ho9.symm (zo_h hh9 (by rfl))

set_option maxHeartbeats 4000000 in
set_option maxRecDepth 100000 in
theorem c_f_addLot {G : zT} {c r w lim cnt : Nat} {tol : Int32} {cart wov lot sew mis col len lef sbt : Nat → Int32} {shd : Nat → UInt32} {X : zXr} {Y : zYr} {out : Nat → Int64} (hG : zAl G = false) (hc : c ≤ 20) (hr : r ≤ 16) (hw : w ≤ r) (hn : cnt ≤ 16) (hl : lim ≤ 16) (hs : ∀ j, zFinS (shd j)) (hc1 : 1 ≤ c) (h4 : X.2.2.2.2.2.1 < 4) (hc4 : X.2.2.2.2.1 ≤ 4) (v l s : Int32) (hn16 : cnt < 16) (hk0 : (if zFr 0 v 7 && (zFr 1 l (nI 999) && ((s == -2147483648) || zFr 0 s 1120403456)) then (if nI 16 ≤ nI cnt then (3 : Int32) else 0) else 2) = 0) : zRun G mX9_addLot 0 0 [.ref 0, .int v, .int l, .int s] (zHp (c, r, w, lim, tol, cart, wov, lot, sew, mis, cnt, col, len, lef, sbt, shd) X Y out) (.inr (some (.int (nI cnt)))) (zHp (c, r, w, lim, tol, cart, wov, lot, sew, mis, (cnt + 1), (zPutN 16 col (nI cnt) v), (zPutN 16 len (nI cnt) l), (zPutN 16 lef (nI cnt) l), (zPutN 16 sbt (nI cnt) s), (zPutS shd (nI cnt) (zFb s))) (zSvd (c, r, w, lim, tol, cart, wov, lot, sew, mis, cnt, col, len, lef, sbt, shd) X) Y out) := by
  refine zRun_of (by decide +kernel) rfl rfl (Nat.le_of_ble_eq_true rfl) ?_
  suffices hs : ∀ (o9 : zO) (h9 : zH), (Sum.inr (some (.int (nI cnt))) : zO) = o9 → (zHp (c, r, w, lim, tol, cart, wov, lot, sew, mis, (cnt + 1), (zPutN 16 col (nI cnt) v), (zPutN 16 len (nI cnt) l), (zPutN 16 lef (nI cnt) l), (zPutN 16 sbt (nI cnt) s), (zPutS shd (nI cnt) (zFb s))) (zSvd (c, r, w, lim, tol, cart, wov, lot, sew, mis, cnt, col, len, lef, sbt, shd) X) Y out) = h9 → zPW G mX9_addLot 0 0 o9 h9 0 0 0 [(0, .ref 0), (1, .int v), (2, .int l), (3, .int s)] [] (zHp (c, r, w, lim, tol, cart, wov, lot, sew, mis, cnt, col, len, lef, sbt, shd) X Y out) from hs _ _ rfl rfl
  intro o9 h9 ho9 hh9
  refine z_aload_n 0 dX9_addLot_0 rfl rfl ?_
  refine z_get (v := .ref 1) 0 zgo_0 rfl inX9 (by decide) zw_230 rfl rfl dX9_addLot_1 ?_
  refine z_iload_n 1 dX9_addLot_4 rfl rfl ?_
  refine z_iload_n 2 dX9_addLot_5 rfl rfl ?_
  refine z_iload_n 3 dX9_addLot_6 rfl rfl ?_
  refine z_callV (N := mX4_whyNotAddLot) 3 [.int v, .int l, .int s] [] lX4_whyNotAddLot ⟨zw_678, zw_679, zw_680⟩ rfl zgo_1 rfl rfl (Nat.le_of_ble_eq_true rfl) (by decide) ⟨zlt, zlt⟩ ⟨Nat.zero_le _, Nat.zero_le _⟩ (fun _ => rfl) (c_wnAddLot hG hc hr hw hn v l s) dX9_addLot_7 ?_
  refine z_top (v2 := .int 0) (by rw [hk0]) ?_
  refine z_callS (N := mX9_refuse) 1 [.int 0] [] lX9_refuse ⟨zw_495, zw_496⟩ rfl rfl rfl (Nat.le_of_ble_eq_true rfl) (by decide) ⟨zlt, zlt⟩ hG ⟨Nat.zero_le _, Nat.zero_le _⟩ c_refuse_0 dX9_addLot_10 ?_
  refine z_aload_n 0 dX9_addLot_13 rfl rfl ?_
  refine z_get (v := .ref 22) 1 zgo_0 rfl inX9 (by decide) zw_231 rfl rfl dX9_addLot_14 ?_
  refine z_aload_n 0 dX9_addLot_17 rfl rfl ?_
  refine z_get (v := .ref 1) 0 zgo_0 rfl inX9 (by decide) zw_230 rfl rfl dX9_addLot_18 ?_
  refine z_callV (N := mX3_save) 1 [.ref 1] [] lX3_save ⟨zw_598, zw_599, zw_600⟩ rfl zgo_22 rfl rfl (Nat.le_of_ble_eq_true rfl) (by decide) ⟨zlt, zlt⟩ ⟨Nat.zero_le _, Nat.zero_le _⟩ zal (c_save hG h4 hc4) dX9_addLot_21 ?_
  refine z_aload_n 0 dX9_addLot_24 rfl rfl ?_
  refine z_get (v := .ref 1) 0 zgo_0 rfl inX9 (by decide) zw_230 rfl rfl dX9_addLot_25 ?_
  refine z_getN (v := .ref 12) 10 zgo_1 rfl inX4 (by decide) (by decide) rfl rfl dX9_addLot_28 ?_
  refine z_iload_n 1 dX9_addLot_31 rfl rfl ?_
  refine z_iload_n 2 dX9_addLot_32 rfl rfl ?_
  refine z_iload_n 3 dX9_addLot_33 rfl rfl ?_
  refine z_callV (N := mX5_include) 3 [.int v, .int l, .int s] [] lX5_include ⟨zw_688, zw_689, zw_690⟩ rfl zgo_12 rfl rfl (Nat.le_of_ble_eq_true rfl) (by decide) ⟨zlt, zlt⟩ ⟨Nat.zero_le _, Nat.zero_le _⟩ zal (c_include hG hc hr hw hn hn16 v l s) dX9_addLot_34 ?_
  exact z_iret rfl dX9_addLot_37 (zo_i ho9 (by rfl)) (zo_h hh9 (by rfl)) (Nat.zero_le _) (Nat.zero_le _)

set_option maxHeartbeats 4000000 in
set_option maxRecDepth 100000 in
theorem c_f_addLot_0_2 {G : zT} {c r w lim cnt : Nat} {tol : Int32} {cart wov lot sew mis col len lef sbt : Nat → Int32} {shd : Nat → UInt32} {X : zXr} {Y : zYr} {out : Nat → Int64} (hG : zAl G = false) (hc : c ≤ 20) (hr : r ≤ 16) (hw : w ≤ r) (hn : cnt ≤ 16) (hl : lim ≤ 16) (hs : ∀ j, zFinS (shd j)) (hc1 : 1 ≤ c) (h4 : X.2.2.2.2.2.1 < 4) (hc4 : X.2.2.2.2.1 ≤ 4) (v l s : Int32) (hk0 : (if zFr 0 v 7 && (zFr 1 l (nI 999) && ((s == -2147483648) || zFr 0 s 1120403456)) then (if nI 16 ≤ nI cnt then (3 : Int32) else 0) else 2) = 2) : zRun G mX9_addLot 1 6 [.ref 0, .int v, .int l, .int s] (zHp (c, r, w, lim, tol, cart, wov, lot, sew, mis, cnt, col, len, lef, sbt, shd) X Y out) (.inl "java/lang/IllegalArgumentException") (zHp (c, r, w, lim, tol, cart, wov, lot, sew, mis, cnt, col, len, lef, sbt, shd) X Y out) := by
  refine zRun_of (by decide +kernel) rfl rfl (Nat.le_of_ble_eq_true rfl) ?_
  suffices hs : ∀ (o9 : zO) (h9 : zH), (Sum.inl "java/lang/IllegalArgumentException" : zO) = o9 → (zHp (c, r, w, lim, tol, cart, wov, lot, sew, mis, cnt, col, len, lef, sbt, shd) X Y out) = h9 → zPW G mX9_addLot 1 6 o9 h9 0 0 0 [(0, .ref 0), (1, .int v), (2, .int l), (3, .int s)] [] (zHp (c, r, w, lim, tol, cart, wov, lot, sew, mis, cnt, col, len, lef, sbt, shd) X Y out) from hs _ _ rfl rfl
  intro o9 h9 ho9 hh9
  refine z_aload_n 0 dX9_addLot_0 rfl rfl ?_
  refine z_get (v := .ref 1) 0 zgo_0 rfl inX9 (by decide) zw_230 rfl rfl dX9_addLot_1 ?_
  refine z_iload_n 1 dX9_addLot_4 rfl rfl ?_
  refine z_iload_n 2 dX9_addLot_5 rfl rfl ?_
  refine z_iload_n 3 dX9_addLot_6 rfl rfl ?_
  refine z_callV (N := mX4_whyNotAddLot) 3 [.int v, .int l, .int s] [] lX4_whyNotAddLot ⟨zw_678, zw_679, zw_680⟩ rfl zgo_1 rfl rfl (Nat.le_of_ble_eq_true rfl) (by decide) ⟨zlt, zlt⟩ ⟨Nat.zero_le _, Nat.zero_le _⟩ (fun _ => rfl) (c_wnAddLot hG hc hr hw hn v l s) dX9_addLot_7 ?_
  refine z_top (v2 := .int 2) (by rw [hk0]) ?_
  exact z_callSX (N := mX9_refuse) 1 [.int 2] [] lX9_refuse ⟨zw_495, zw_496⟩ rfl rfl rfl (Nat.le_of_ble_eq_true rfl) (by decide) hG ⟨Nat.le_refl _, Nat.le_refl _⟩ c_refuse_2 dX9_addLot_10 ho9.symm (zo_h hh9 (by rfl))

set_option maxHeartbeats 4000000 in
set_option maxRecDepth 100000 in
theorem c_f_addLot_0_3 {G : zT} {c r w lim cnt : Nat} {tol : Int32} {cart wov lot sew mis col len lef sbt : Nat → Int32} {shd : Nat → UInt32} {X : zXr} {Y : zYr} {out : Nat → Int64} (hG : zAl G = false) (hc : c ≤ 20) (hr : r ≤ 16) (hw : w ≤ r) (hn : cnt ≤ 16) (hl : lim ≤ 16) (hs : ∀ j, zFinS (shd j)) (hc1 : 1 ≤ c) (h4 : X.2.2.2.2.2.1 < 4) (hc4 : X.2.2.2.2.1 ≤ 4) (v l s : Int32) (hk0 : (if zFr 0 v 7 && (zFr 1 l (nI 999) && ((s == -2147483648) || zFr 0 s 1120403456)) then (if nI 16 ≤ nI cnt then (3 : Int32) else 0) else 2) = 3) : zRun G mX9_addLot 1 6 [.ref 0, .int v, .int l, .int s] (zHp (c, r, w, lim, tol, cart, wov, lot, sew, mis, cnt, col, len, lef, sbt, shd) X Y out) (.inl "java/lang/IllegalStateException") (zHp (c, r, w, lim, tol, cart, wov, lot, sew, mis, cnt, col, len, lef, sbt, shd) X Y out) := by
  refine zRun_of (by decide +kernel) rfl rfl (Nat.le_of_ble_eq_true rfl) ?_
  suffices hs : ∀ (o9 : zO) (h9 : zH), (Sum.inl "java/lang/IllegalStateException" : zO) = o9 → (zHp (c, r, w, lim, tol, cart, wov, lot, sew, mis, cnt, col, len, lef, sbt, shd) X Y out) = h9 → zPW G mX9_addLot 1 6 o9 h9 0 0 0 [(0, .ref 0), (1, .int v), (2, .int l), (3, .int s)] [] (zHp (c, r, w, lim, tol, cart, wov, lot, sew, mis, cnt, col, len, lef, sbt, shd) X Y out) from hs _ _ rfl rfl
  intro o9 h9 ho9 hh9
  refine z_aload_n 0 dX9_addLot_0 rfl rfl ?_
  refine z_get (v := .ref 1) 0 zgo_0 rfl inX9 (by decide) zw_230 rfl rfl dX9_addLot_1 ?_
  refine z_iload_n 1 dX9_addLot_4 rfl rfl ?_
  refine z_iload_n 2 dX9_addLot_5 rfl rfl ?_
  refine z_iload_n 3 dX9_addLot_6 rfl rfl ?_
  refine z_callV (N := mX4_whyNotAddLot) 3 [.int v, .int l, .int s] [] lX4_whyNotAddLot ⟨zw_678, zw_679, zw_680⟩ rfl zgo_1 rfl rfl (Nat.le_of_ble_eq_true rfl) (by decide) ⟨zlt, zlt⟩ ⟨Nat.zero_le _, Nat.zero_le _⟩ (fun _ => rfl) (c_wnAddLot hG hc hr hw hn v l s) dX9_addLot_7 ?_
  refine z_top (v2 := .int 3) (by rw [hk0]) ?_
  exact z_callSX (N := mX9_refuse) 1 [.int 3] [] lX9_refuse ⟨zw_495, zw_496⟩ rfl rfl rfl (Nat.le_of_ble_eq_true rfl) (by decide) hG ⟨Nat.le_refl _, Nat.le_refl _⟩ c_refuse_3 dX9_addLot_10 ho9.symm (zo_h hh9 (by rfl))

set_option maxHeartbeats 4000000 in
set_option maxRecDepth 100000 in
theorem c_f_fill {G : zT} {c r w lim cnt : Nat} {tol : Int32} {cart wov lot sew mis col len lef sbt : Nat → Int32} {shd : Nat → UInt32} {X : zXr} {Y : zYr} {out : Nat → Int64} (hG : zAl G = false) (hc : c ≤ 20) (hr : r ≤ 16) (hw : w ≤ r) (hn : cnt ≤ 16) (hl : lim ≤ 16) (hs : ∀ j, zFinS (shd j)) (hc1 : 1 ≤ c) (h4 : X.2.2.2.2.2.1 < 4) (hc4 : X.2.2.2.2.1 ≤ 4) (x y u z : Nat) (v : Int32) (hxu : x ≤ u) (hu : u < c) (hyz : y ≤ z) (hz : z < r) (hk0 : (if (zFr 0 (nI x) (nI c - 1) && zFr 0 (nI y) (nI r - 1)) && (zFr 0 (nI u) (nI c - 1) && zFr 0 (nI z) (nI r - 1)) then (if nI u < nI x then (2 : Int32) else if nI z < nI y then 2 else if zFr 0 v 7 then 0 else 2) else 1) = 0) : zRun G mX9_fill 0 0 [.ref 0, .int (nI x), .int (nI y), .int (nI u), .int (nI z), .int v] (zHp (c, r, w, lim, tol, cart, wov, lot, sew, mis, cnt, col, len, lef, sbt, shd) X Y out) (.inr (some (.int (nI (zPt c x y u z v cart).2)))) (zHp (c, r, w, lim, tol, (zPt c x y u z v cart).1, wov, lot, sew, mis, cnt, col, len, lef, sbt, shd) (zSvd (c, r, w, lim, tol, cart, wov, lot, sew, mis, cnt, col, len, lef, sbt, shd) X) Y out) := by
  refine zRun_of (by decide +kernel) rfl rfl (Nat.le_of_ble_eq_true rfl) ?_
  suffices hs : ∀ (o9 : zO) (h9 : zH), (Sum.inr (some (.int (nI (zPt c x y u z v cart).2))) : zO) = o9 → (zHp (c, r, w, lim, tol, (zPt c x y u z v cart).1, wov, lot, sew, mis, cnt, col, len, lef, sbt, shd) (zSvd (c, r, w, lim, tol, cart, wov, lot, sew, mis, cnt, col, len, lef, sbt, shd) X) Y out) = h9 → zPW G mX9_fill 0 0 o9 h9 0 0 0 [(0, .ref 0), (1, .int (nI x)), (2, .int (nI y)), (3, .int (nI u)), (4, .int (nI z)), (5, .int v)] [] (zHp (c, r, w, lim, tol, cart, wov, lot, sew, mis, cnt, col, len, lef, sbt, shd) X Y out) from hs _ _ rfl rfl
  intro o9 h9 ho9 hh9
  refine z_aload_n 0 dX9_fill_0 rfl rfl ?_
  refine z_get (v := .ref 1) 0 zgo_0 rfl inX9 (by decide) zw_230 rfl rfl dX9_fill_1 ?_
  refine z_iload_n 1 dX9_fill_4 rfl rfl ?_
  refine z_iload_n 2 dX9_fill_5 rfl rfl ?_
  refine z_iload_n 3 dX9_fill_6 rfl rfl ?_
  refine z_iload 4 dX9_fill_7 rfl ?_
  refine z_iload 5 dX9_fill_9 rfl ?_
  refine z_callV (N := mX4_whyNotFill) 5 [.int (nI x), .int (nI y), .int (nI u), .int (nI z), .int v] [] lX4_whyNotFill ⟨zw_649, zw_650, zw_651⟩ rfl zgo_1 rfl rfl (Nat.le_of_ble_eq_true rfl) (by decide) ⟨zlt, zlt⟩ ⟨Nat.zero_le _, Nat.zero_le _⟩ (fun _ => rfl) (c_wnFill hG hc hr hw hn (nI x) (nI y) (nI u) (nI z) v) dX9_fill_11 ?_
  refine z_top (v2 := .int 0) (by rw [hk0]) ?_
  refine z_callS (N := mX9_refuse) 1 [.int 0] [] lX9_refuse ⟨zw_495, zw_496⟩ rfl rfl rfl (Nat.le_of_ble_eq_true rfl) (by decide) ⟨zlt, zlt⟩ hG ⟨Nat.zero_le _, Nat.zero_le _⟩ c_refuse_0 dX9_fill_14 ?_
  refine z_aload_n 0 dX9_fill_17 rfl rfl ?_
  refine z_get (v := .ref 22) 1 zgo_0 rfl inX9 (by decide) zw_231 rfl rfl dX9_fill_18 ?_
  refine z_aload_n 0 dX9_fill_21 rfl rfl ?_
  refine z_get (v := .ref 1) 0 zgo_0 rfl inX9 (by decide) zw_230 rfl rfl dX9_fill_22 ?_
  refine z_callV (N := mX3_save) 1 [.ref 1] [] lX3_save ⟨zw_598, zw_599, zw_600⟩ rfl zgo_22 rfl rfl (Nat.le_of_ble_eq_true rfl) (by decide) ⟨zlt, zlt⟩ ⟨Nat.zero_le _, Nat.zero_le _⟩ zal (c_save hG h4 hc4) dX9_fill_25 ?_
  refine z_aload_n 0 dX9_fill_28 rfl rfl ?_
  refine z_get (v := .ref 1) 0 zgo_0 rfl inX9 (by decide) zw_230 rfl rfl dX9_fill_29 ?_
  refine z_iload_n 1 dX9_fill_32 rfl rfl ?_
  refine z_iload_n 2 dX9_fill_33 rfl rfl ?_
  refine z_iload_n 3 dX9_fill_34 rfl rfl ?_
  refine z_iload 4 dX9_fill_35 rfl ?_
  refine z_iload 5 dX9_fill_37 rfl ?_
  refine z_callV (N := mX4_paint) 5 [.int (nI x), .int (nI y), .int (nI u), .int (nI z), .int v] [] lX4_paint ⟨zw_661, zw_662, zw_663⟩ rfl zgo_1 rfl rfl (Nat.le_of_ble_eq_true rfl) (by decide) ⟨zlt, zlt⟩ ⟨Nat.zero_le _, Nat.zero_le _⟩ zal (c_paint hG hc hr hw hn x y u z v hxu hu hyz hz) dX9_fill_39 ?_
  exact z_iret rfl dX9_fill_42 (zo_i ho9 (by rfl)) (zo_h hh9 (by rfl)) (Nat.zero_le _) (Nat.zero_le _)

set_option maxHeartbeats 4000000 in
set_option maxRecDepth 100000 in
theorem c_f_fill_0_1 {G : zT} {c r w lim cnt : Nat} {tol : Int32} {cart wov lot sew mis col len lef sbt : Nat → Int32} {shd : Nat → UInt32} {X : zXr} {Y : zYr} {out : Nat → Int64} (hG : zAl G = false) (hc : c ≤ 20) (hr : r ≤ 16) (hw : w ≤ r) (hn : cnt ≤ 16) (hl : lim ≤ 16) (hs : ∀ j, zFinS (shd j)) (hc1 : 1 ≤ c) (h4 : X.2.2.2.2.2.1 < 4) (hc4 : X.2.2.2.2.1 ≤ 4) (x y u z : Nat) (v : Int32) (hk0 : (if (zFr 0 (nI x) (nI c - 1) && zFr 0 (nI y) (nI r - 1)) && (zFr 0 (nI u) (nI c - 1) && zFr 0 (nI z) (nI r - 1)) then (if nI u < nI x then (2 : Int32) else if nI z < nI y then 2 else if zFr 0 v 7 then 0 else 2) else 1) = 1) : zRun G mX9_fill 1 6 [.ref 0, .int (nI x), .int (nI y), .int (nI u), .int (nI z), .int v] (zHp (c, r, w, lim, tol, cart, wov, lot, sew, mis, cnt, col, len, lef, sbt, shd) X Y out) (.inl "java/lang/IndexOutOfBoundsException") (zHp (c, r, w, lim, tol, cart, wov, lot, sew, mis, cnt, col, len, lef, sbt, shd) X Y out) := by
  refine zRun_of (by decide +kernel) rfl rfl (Nat.le_of_ble_eq_true rfl) ?_
  suffices hs : ∀ (o9 : zO) (h9 : zH), (Sum.inl "java/lang/IndexOutOfBoundsException" : zO) = o9 → (zHp (c, r, w, lim, tol, cart, wov, lot, sew, mis, cnt, col, len, lef, sbt, shd) X Y out) = h9 → zPW G mX9_fill 1 6 o9 h9 0 0 0 [(0, .ref 0), (1, .int (nI x)), (2, .int (nI y)), (3, .int (nI u)), (4, .int (nI z)), (5, .int v)] [] (zHp (c, r, w, lim, tol, cart, wov, lot, sew, mis, cnt, col, len, lef, sbt, shd) X Y out) from hs _ _ rfl rfl
  intro o9 h9 ho9 hh9
  refine z_aload_n 0 dX9_fill_0 rfl rfl ?_
  refine z_get (v := .ref 1) 0 zgo_0 rfl inX9 (by decide) zw_230 rfl rfl dX9_fill_1 ?_
  refine z_iload_n 1 dX9_fill_4 rfl rfl ?_
  refine z_iload_n 2 dX9_fill_5 rfl rfl ?_
  refine z_iload_n 3 dX9_fill_6 rfl rfl ?_
  refine z_iload 4 dX9_fill_7 rfl ?_
  refine z_iload 5 dX9_fill_9 rfl ?_
  refine z_callV (N := mX4_whyNotFill) 5 [.int (nI x), .int (nI y), .int (nI u), .int (nI z), .int v] [] lX4_whyNotFill ⟨zw_649, zw_650, zw_651⟩ rfl zgo_1 rfl rfl (Nat.le_of_ble_eq_true rfl) (by decide) ⟨zlt, zlt⟩ ⟨Nat.zero_le _, Nat.zero_le _⟩ (fun _ => rfl) (c_wnFill hG hc hr hw hn (nI x) (nI y) (nI u) (nI z) v) dX9_fill_11 ?_
  refine z_top (v2 := .int 1) (by rw [hk0]) ?_
  exact z_callSX (N := mX9_refuse) 1 [.int 1] [] lX9_refuse ⟨zw_495, zw_496⟩ rfl rfl rfl (Nat.le_of_ble_eq_true rfl) (by decide) hG ⟨Nat.le_refl _, Nat.le_refl _⟩ c_refuse_1 dX9_fill_14 ho9.symm (zo_h hh9 (by rfl))

set_option maxHeartbeats 4000000 in
set_option maxRecDepth 100000 in
theorem c_f_fill_0_2 {G : zT} {c r w lim cnt : Nat} {tol : Int32} {cart wov lot sew mis col len lef sbt : Nat → Int32} {shd : Nat → UInt32} {X : zXr} {Y : zYr} {out : Nat → Int64} (hG : zAl G = false) (hc : c ≤ 20) (hr : r ≤ 16) (hw : w ≤ r) (hn : cnt ≤ 16) (hl : lim ≤ 16) (hs : ∀ j, zFinS (shd j)) (hc1 : 1 ≤ c) (h4 : X.2.2.2.2.2.1 < 4) (hc4 : X.2.2.2.2.1 ≤ 4) (x y u z : Nat) (v : Int32) (hk0 : (if (zFr 0 (nI x) (nI c - 1) && zFr 0 (nI y) (nI r - 1)) && (zFr 0 (nI u) (nI c - 1) && zFr 0 (nI z) (nI r - 1)) then (if nI u < nI x then (2 : Int32) else if nI z < nI y then 2 else if zFr 0 v 7 then 0 else 2) else 1) = 2) : zRun G mX9_fill 1 6 [.ref 0, .int (nI x), .int (nI y), .int (nI u), .int (nI z), .int v] (zHp (c, r, w, lim, tol, cart, wov, lot, sew, mis, cnt, col, len, lef, sbt, shd) X Y out) (.inl "java/lang/IllegalArgumentException") (zHp (c, r, w, lim, tol, cart, wov, lot, sew, mis, cnt, col, len, lef, sbt, shd) X Y out) := by
  refine zRun_of (by decide +kernel) rfl rfl (Nat.le_of_ble_eq_true rfl) ?_
  suffices hs : ∀ (o9 : zO) (h9 : zH), (Sum.inl "java/lang/IllegalArgumentException" : zO) = o9 → (zHp (c, r, w, lim, tol, cart, wov, lot, sew, mis, cnt, col, len, lef, sbt, shd) X Y out) = h9 → zPW G mX9_fill 1 6 o9 h9 0 0 0 [(0, .ref 0), (1, .int (nI x)), (2, .int (nI y)), (3, .int (nI u)), (4, .int (nI z)), (5, .int v)] [] (zHp (c, r, w, lim, tol, cart, wov, lot, sew, mis, cnt, col, len, lef, sbt, shd) X Y out) from hs _ _ rfl rfl
  intro o9 h9 ho9 hh9
  refine z_aload_n 0 dX9_fill_0 rfl rfl ?_
  refine z_get (v := .ref 1) 0 zgo_0 rfl inX9 (by decide) zw_230 rfl rfl dX9_fill_1 ?_
  refine z_iload_n 1 dX9_fill_4 rfl rfl ?_
  refine z_iload_n 2 dX9_fill_5 rfl rfl ?_
  refine z_iload_n 3 dX9_fill_6 rfl rfl ?_
  refine z_iload 4 dX9_fill_7 rfl ?_
  refine z_iload 5 dX9_fill_9 rfl ?_
  refine z_callV (N := mX4_whyNotFill) 5 [.int (nI x), .int (nI y), .int (nI u), .int (nI z), .int v] [] lX4_whyNotFill ⟨zw_649, zw_650, zw_651⟩ rfl zgo_1 rfl rfl (Nat.le_of_ble_eq_true rfl) (by decide) ⟨zlt, zlt⟩ ⟨Nat.zero_le _, Nat.zero_le _⟩ (fun _ => rfl) (c_wnFill hG hc hr hw hn (nI x) (nI y) (nI u) (nI z) v) dX9_fill_11 ?_
  refine z_top (v2 := .int 2) (by rw [hk0]) ?_
  exact z_callSX (N := mX9_refuse) 1 [.int 2] [] lX9_refuse ⟨zw_495, zw_496⟩ rfl rfl rfl (Nat.le_of_ble_eq_true rfl) (by decide) hG ⟨Nat.le_refl _, Nat.le_refl _⟩ c_refuse_2 dX9_fill_14 ho9.symm (zo_h hh9 (by rfl))

def zMx0 (v : Int32) : Int32 := if 0 < v then v else 0

set_option maxHeartbeats 4000000 in
set_option maxRecDepth 100000 in
theorem c_f_missing {G : zT} {c r w lim cnt : Nat} {tol : Int32} {cart wov lot sew mis col len lef sbt : Nat → Int32} {shd : Nat → UInt32} {X : zXr} {Y : zYr} {out : Nat → Int64} (hG : zAl G = false) (hc : c ≤ 20) (hr : r ≤ 16) (hw : w ≤ r) (hn : cnt ≤ 16) (hl : lim ≤ 16) (hs : ∀ j, zFinS (shd j)) (hc1 : 1 ≤ c) (h4 : X.2.2.2.2.2.1 < 4) (hc4 : X.2.2.2.2.1 ≤ 4) (v : Int32) (hk0 : (zFr 0 v 7) = true) : zRun G mX9_missing 0 0 [.ref 0, .int v] (zHp (c, r, w, lim, tol, cart, wov, lot, sew, mis, cnt, col, len, lef, sbt, shd) X Y out) (.inr (some (.int (zMx0 (nI (zUc cart v c w (r - w)) - zLf col lef v cnt))))) (zHp (c, r, w, lim, tol, cart, wov, lot, sew, mis, cnt, col, len, lef, sbt, shd) X Y out) := by
  refine zRun_of (by decide +kernel) rfl rfl (Nat.le_of_ble_eq_true rfl) ?_
  suffices hs : ∀ (o9 : zO) (h9 : zH), (Sum.inr (some (.int (zMx0 (nI (zUc cart v c w (r - w)) - zLf col lef v cnt)))) : zO) = o9 → (zHp (c, r, w, lim, tol, cart, wov, lot, sew, mis, cnt, col, len, lef, sbt, shd) X Y out) = h9 → zPW G mX9_missing 0 0 o9 h9 0 0 0 [(0, .ref 0), (1, .int v)] [] (zHp (c, r, w, lim, tol, cart, wov, lot, sew, mis, cnt, col, len, lef, sbt, shd) X Y out) from hs _ _ rfl rfl
  intro o9 h9 ho9 hh9
  refine z_iload_n 1 dX9_missing_0 rfl rfl ?_
  refine z_callS (N := mX9_isColor) 1 [.int v] [] lX9_isColor ⟨zw_860, zw_658⟩ rfl rfl rfl (Nat.le_of_ble_eq_true rfl) (by decide) ⟨zlt, zlt⟩ hG ⟨Nat.zero_le _, Nat.zero_le _⟩ (c_isColor hG zlt v) dX9_missing_1 ?_
  refine z_if_eq (tgt := 11) dX9_missing_4 (by decide) (fun c_4 => ?_) (fun c_4 => ?_)
  · exfalso; exact absurd (zB_0.mp c_4) (by rw [hk0]; decide)
  · skip
    have b_4 := zB_tt c_4
    refine z_iconst (v := 0) dX9_missing_7 (by decide) ?_
    refine z_goto (tgt := 12) dX9_missing_8 (by decide) ?_
    refine z_callS (N := mX9_refuse) 1 [.int 0] [] lX9_refuse ⟨zw_495, zw_496⟩ rfl rfl rfl (Nat.le_of_ble_eq_true rfl) (by decide) ⟨zlt, zlt⟩ hG ⟨Nat.zero_le _, Nat.zero_le _⟩ c_refuse_0 dX9_missing_12 ?_
    refine z_iconst (v := 0) dX9_missing_15 (by decide) ?_
    refine z_aload_n 0 dX9_missing_16 rfl rfl ?_
    refine z_get (v := .ref 1) 0 zgo_0 rfl inX9 (by decide) zw_230 rfl rfl dX9_missing_17 ?_
    refine z_iload_n 1 dX9_missing_20 rfl rfl ?_
    refine z_callV (N := mX4_unitsToCome) 1 [.int v] [.int 0] lX4_unitsToCome ⟨zw_879, zw_449, zw_450⟩ rfl zgo_1 rfl rfl (Nat.le_of_ble_eq_true rfl) (by decide) ⟨zlt, zlt⟩ ⟨Nat.zero_le _, Nat.zero_le _⟩ (fun _ => rfl) (c_unitsToCome hG hc hr hw hn v) dX9_missing_21 ?_
    refine z_aload_n 0 dX9_missing_24 rfl rfl ?_
    refine z_get (v := .ref 1) 0 zgo_0 rfl inX9 (by decide) zw_230 rfl rfl dX9_missing_25 ?_
    refine z_getN (v := .ref 12) 10 zgo_1 rfl inX4 (by decide) (by decide) rfl rfl dX9_missing_28 ?_
    refine z_iload_n 1 dX9_missing_31 rfl rfl ?_
    refine z_callV (N := mX5_leftOf) 1 [.int v] [.int (nI (zUc cart v c w (r - w))), .int 0] lX5_leftOf ⟨zw_880, zw_433, zw_434⟩ rfl zgo_12 rfl rfl (Nat.le_of_ble_eq_true rfl) (by decide) ⟨zlt, zlt⟩ ⟨Nat.zero_le _, Nat.zero_le _⟩ (fun _ => rfl) (c_lLeft hG hc hr hw hn v) dX9_missing_32 ?_
    refine z_isub dX9_missing_35 ?_
    refine z_mmax zw_881 (by decide) (Nat.le_of_ble_eq_true rfl) ⟨Nat.zero_le _, Nat.zero_le _⟩ dX9_missing_36 ?_
    exact z_iret rfl dX9_missing_39 (zo_i ho9 (by rfl)) (zo_h hh9 (by rfl)) (Nat.zero_le _) (Nat.zero_le _)

set_option maxHeartbeats 4000000 in
set_option maxRecDepth 100000 in
theorem c_f_missing_0_2 {G : zT} {c r w lim cnt : Nat} {tol : Int32} {cart wov lot sew mis col len lef sbt : Nat → Int32} {shd : Nat → UInt32} {X : zXr} {Y : zYr} {out : Nat → Int64} (hG : zAl G = false) (hc : c ≤ 20) (hr : r ≤ 16) (hw : w ≤ r) (hn : cnt ≤ 16) (hl : lim ≤ 16) (hs : ∀ j, zFinS (shd j)) (hc1 : 1 ≤ c) (h4 : X.2.2.2.2.2.1 < 4) (hc4 : X.2.2.2.2.1 ≤ 4) (v : Int32) (hk0 : (zFr 0 v 7) = false) : zRun G mX9_missing 1 6 [.ref 0, .int v] (zHp (c, r, w, lim, tol, cart, wov, lot, sew, mis, cnt, col, len, lef, sbt, shd) X Y out) (.inl "java/lang/IllegalArgumentException") (zHp (c, r, w, lim, tol, cart, wov, lot, sew, mis, cnt, col, len, lef, sbt, shd) X Y out) := by
  refine zRun_of (by decide +kernel) rfl rfl (Nat.le_of_ble_eq_true rfl) ?_
  suffices hs : ∀ (o9 : zO) (h9 : zH), (Sum.inl "java/lang/IllegalArgumentException" : zO) = o9 → (zHp (c, r, w, lim, tol, cart, wov, lot, sew, mis, cnt, col, len, lef, sbt, shd) X Y out) = h9 → zPW G mX9_missing 1 6 o9 h9 0 0 0 [(0, .ref 0), (1, .int v)] [] (zHp (c, r, w, lim, tol, cart, wov, lot, sew, mis, cnt, col, len, lef, sbt, shd) X Y out) from hs _ _ rfl rfl
  intro o9 h9 ho9 hh9
  refine z_iload_n 1 dX9_missing_0 rfl rfl ?_
  refine z_callS (N := mX9_isColor) 1 [.int v] [] lX9_isColor ⟨zw_860, zw_658⟩ rfl rfl rfl (Nat.le_of_ble_eq_true rfl) (by decide) ⟨zlt, zlt⟩ hG ⟨Nat.zero_le _, Nat.zero_le _⟩ (c_isColor hG zlt v) dX9_missing_1 ?_
  refine z_if_eq (tgt := 11) dX9_missing_4 (by decide) (fun c_4 => ?_) (fun c_4 => ?_)
  · skip
    have b_4 := zB_0.mp c_4
    refine z_iconst (v := 2) dX9_missing_11 (by decide) ?_
    exact z_callSX (N := mX9_refuse) 1 [.int 2] [] lX9_refuse ⟨zw_495, zw_496⟩ rfl rfl rfl (Nat.le_of_ble_eq_true rfl) (by decide) hG ⟨Nat.le_refl _, Nat.le_refl _⟩ c_refuse_2 dX9_missing_12 ho9.symm (zo_h hh9 (by rfl))
  · exfalso; exact c_4 (zB_0.mpr hk0)

set_option maxHeartbeats 4000000 in
set_option maxRecDepth 100000 in
theorem c_f_digest {G : zT} {c r w lim cnt : Nat} {tol : Int32} {cart wov lot sew mis col len lef sbt : Nat → Int32} {shd : Nat → UInt32} {X : zXr} {Y : zYr} {out : Nat → Int64} (hG : zAl G = false) (hc : c ≤ 20) (hr : r ≤ 16) (hw : w ≤ r) (hn : cnt ≤ 16) (hl : lim ≤ 16) (hs : ∀ j, zFinS (shd j)) (hc1 : 1 ≤ c) (h4 : X.2.2.2.2.2.1 < 4) (hc4 : X.2.2.2.2.1 ≤ 4) : zRun G mX9_digest 0 0 [.ref 0] (zHp (c, r, w, lim, tol, cart, wov, lot, sew, mis, cnt, col, len, lef, sbt, shd) X Y out) (.inr (some (.long (zMix (zMsl wov sew c w lim (zMcol cart wov lot col lef shd c r w cnt (zMlot lot col len lef sbt c w cnt (zMrow cart wov lot shd c w cnt (zMcell cart wov lot c r w (zIt (fun t s => zMix s (zWh c r w lim tol cart wov lot sew mis cnt shd (nI (X.2.2.2.2.2.2.2.1)) t)) 15 (zMix 43346 (nI (X.2.2.2.2.1))))))))) (zBo (zWg wov lot shd c w)))))) (zHp (c, r, w, lim, tol, cart, wov, lot, sew, mis, cnt, col, len, lef, sbt, shd) X Y out) := by
  refine zRun_of (by decide +kernel) rfl rfl (Nat.le_of_ble_eq_true rfl) ?_
  suffices hs : ∀ (o9 : zO) (h9 : zH), (Sum.inr (some (.long (zMix (zMsl wov sew c w lim (zMcol cart wov lot col lef shd c r w cnt (zMlot lot col len lef sbt c w cnt (zMrow cart wov lot shd c w cnt (zMcell cart wov lot c r w (zIt (fun t s => zMix s (zWh c r w lim tol cart wov lot sew mis cnt shd (nI (X.2.2.2.2.2.2.2.1)) t)) 15 (zMix 43346 (nI (X.2.2.2.2.1))))))))) (zBo (zWg wov lot shd c w))))) : zO) = o9 → (zHp (c, r, w, lim, tol, cart, wov, lot, sew, mis, cnt, col, len, lef, sbt, shd) X Y out) = h9 → zPW G mX9_digest 0 0 o9 h9 0 0 0 [(0, .ref 0)] [] (zHp (c, r, w, lim, tol, cart, wov, lot, sew, mis, cnt, col, len, lef, sbt, shd) X Y out) from hs _ _ rfl rfl
  intro o9 h9 ho9 hh9
  refine z_ldc2 zw_247 dX9_digest_0 ?_
  refine z_aload_n 0 dX9_digest_3 rfl rfl ?_
  refine z_get (v := .ref 22) 1 zgo_0 rfl inX9 (by decide) zw_231 rfl rfl dX9_digest_4 ?_
  refine z_getN (v := .int (nI (X.2.2.2.2.1))) 1 zgo_22 rfl inX3 (by decide) (by decide) rfl rfl dX9_digest_7 ?_
  refine z_callS (N := mX9_mixed) 2 [.long 43346, .int (nI (X.2.2.2.2.1))] [] lX9_mixed ⟨zw_248, zw_249⟩ rfl rfl rfl (Nat.le_of_ble_eq_true rfl) (by decide) ⟨zlt, zlt⟩ hG ⟨Nat.zero_le _, Nat.zero_le _⟩ (c_mixed hG zlt 43346 (nI (X.2.2.2.2.1))) dX9_digest_10 ?_
  refine z_lstore_n (lv' := [(1, .long (zMix 43346 (nI (X.2.2.2.2.1)))), (0, .ref 0)]) dX9_digest_13 rfl (by decide) rfl ?_
  refine z_iconst (v := 0) dX9_digest_14 (by decide) ?_
  refine z_istore_n (lv' := [(3, .int 0), (1, .long (zMix 43346 (nI (X.2.2.2.2.1)))), (0, .ref 0)]) dX9_digest_15 rfl (by decide) rfl ?_
  have L16_1 : ∀ (d k : Nat), k ≤ 15 → 15 + 1 ≤ k + d → zPW G mX9_digest 0 0 o9 h9 0 0 16 [(3, .int (nI k)), (1, .long (zIt (fun t s => zMix s (zWh c r w lim tol cart wov lot sew mis cnt shd (nI (X.2.2.2.2.2.2.2.1)) t)) k (zMix 43346 (nI (X.2.2.2.2.1))))), (0, .ref 0)] [] (zHp (c, r, w, lim, tol, cart, wov, lot, sew, mis, cnt, col, len, lef, sbt, shd) X Y out) := by
    intro d
    induction d with
    | zero => intro k hk hd; exact absurd hd (by omega)
    | succ d ih =>
      intro k hk_k hd_k
      have ih16 := ih
      clear ih
      refine z_iload_n 0 dX9_digest_16 rfl rfl ?_
      refine z_bipush (v := nI 15) dX9_digest_17 (by decide) ?_
      refine z_icmp_ge (tgt := 48) dX9_digest_19 (by decide) (fun c_19 => ?_) (fun c_19 => ?_)
      · skip
        have hx_k := zge (by omega) hk_k c_19
        refine z_aload_n 2 dX9_digest_48 rfl rfl ?_
        refine z_lload_n 1 dX9_digest_49 rfl rfl ?_
        refine z_callV (N := mX9_mixedCells) 1 [.long (zIt (fun t s => zMix s (zWh c r w lim tol cart wov lot sew mis cnt shd (nI (X.2.2.2.2.2.2.2.1)) t)) k (zMix 43346 (nI (X.2.2.2.2.1))))] [] lX9_mixedCells ⟨zw_371, zw_373, zw_18⟩ rfl zgo_0 rfl rfl (Nat.le_of_ble_eq_true rfl) (by decide) ⟨zlt, zlt⟩ ⟨Nat.zero_le _, Nat.zero_le _⟩ (fun _ => rfl) (c_mCells hG hc hr hw hn (zIt (fun t s => zMix s (zWh c r w lim tol cart wov lot sew mis cnt shd (nI (X.2.2.2.2.2.2.2.1)) t)) k (zMix 43346 (nI (X.2.2.2.2.1))))) dX9_digest_50 ?_
        refine z_lstore_n (lv' := [(1, .long (zMcell cart wov lot c r w (zIt (fun t s => zMix s (zWh c r w lim tol cart wov lot sew mis cnt shd (nI (X.2.2.2.2.2.2.2.1)) t)) k (zMix 43346 (nI (X.2.2.2.2.1)))))), (3, .int (nI k)), (0, .ref 0)]) dX9_digest_53 rfl (by decide) rfl ?_
        refine z_aload_n 2 dX9_digest_54 rfl rfl ?_
        refine z_lload_n 0 dX9_digest_55 rfl rfl ?_
        refine z_callV (N := mX9_mixedRows) 1 [.long (zMcell cart wov lot c r w (zIt (fun t s => zMix s (zWh c r w lim tol cart wov lot sew mis cnt shd (nI (X.2.2.2.2.2.2.2.1)) t)) k (zMix 43346 (nI (X.2.2.2.2.1)))))] [] lX9_mixedRows ⟨zw_387, zw_389, zw_20⟩ rfl zgo_0 rfl rfl (Nat.le_of_ble_eq_true rfl) (by decide) ⟨zlt, zlt⟩ ⟨Nat.zero_le _, Nat.zero_le _⟩ (fun _ => rfl) (c_mRows hG hc hr hw hn hs hc1 (zMcell cart wov lot c r w (zIt (fun t s => zMix s (zWh c r w lim tol cart wov lot sew mis cnt shd (nI (X.2.2.2.2.2.2.2.1)) t)) k (zMix 43346 (nI (X.2.2.2.2.1)))))) dX9_digest_56 ?_
        refine z_lstore_n (lv' := [(1, .long (zMrow cart wov lot shd c w cnt (zMcell cart wov lot c r w (zIt (fun t s => zMix s (zWh c r w lim tol cart wov lot sew mis cnt shd (nI (X.2.2.2.2.2.2.2.1)) t)) k (zMix 43346 (nI (X.2.2.2.2.1))))))), (3, .int (nI k)), (0, .ref 0)]) dX9_digest_59 rfl (by decide) rfl ?_
        refine z_aload_n 2 dX9_digest_60 rfl rfl ?_
        refine z_lload_n 0 dX9_digest_61 rfl rfl ?_
        refine z_callV (N := mX9_mixedLots) 1 [.long (zMrow cart wov lot shd c w cnt (zMcell cart wov lot c r w (zIt (fun t s => zMix s (zWh c r w lim tol cart wov lot sew mis cnt shd (nI (X.2.2.2.2.2.2.2.1)) t)) k (zMix 43346 (nI (X.2.2.2.2.1))))))] [] lX9_mixedLots ⟨zw_407, zw_409, zw_22⟩ rfl zgo_0 rfl rfl (Nat.le_of_ble_eq_true rfl) (by decide) ⟨zlt, zlt⟩ ⟨Nat.zero_le _, Nat.zero_le _⟩ (fun _ => rfl) (c_mLots hG hc hr hw hn (zMrow cart wov lot shd c w cnt (zMcell cart wov lot c r w (zIt (fun t s => zMix s (zWh c r w lim tol cart wov lot sew mis cnt shd (nI (X.2.2.2.2.2.2.2.1)) t)) k (zMix 43346 (nI (X.2.2.2.2.1))))))) dX9_digest_62 ?_
        refine z_lstore_n (lv' := [(1, .long (zMlot lot col len lef sbt c w cnt (zMrow cart wov lot shd c w cnt (zMcell cart wov lot c r w (zIt (fun t s => zMix s (zWh c r w lim tol cart wov lot sew mis cnt shd (nI (X.2.2.2.2.2.2.2.1)) t)) k (zMix 43346 (nI (X.2.2.2.2.1)))))))), (3, .int (nI k)), (0, .ref 0)]) dX9_digest_65 rfl (by decide) rfl ?_
        refine z_aload_n 2 dX9_digest_66 rfl rfl ?_
        refine z_lload_n 0 dX9_digest_67 rfl rfl ?_
        refine z_callV (N := mX9_mixedColors) 1 [.long (zMlot lot col len lef sbt c w cnt (zMrow cart wov lot shd c w cnt (zMcell cart wov lot c r w (zIt (fun t s => zMix s (zWh c r w lim tol cart wov lot sew mis cnt shd (nI (X.2.2.2.2.2.2.2.1)) t)) k (zMix 43346 (nI (X.2.2.2.2.1)))))))] [] lX9_mixedColors ⟨zw_424, zw_426, zw_23⟩ rfl zgo_0 rfl rfl (Nat.le_of_ble_eq_true rfl) (by decide) ⟨zlt, zlt⟩ ⟨Nat.zero_le _, Nat.zero_le _⟩ (fun _ => rfl) (c_mColors hG hc hr hw hn hs (zMlot lot col len lef sbt c w cnt (zMrow cart wov lot shd c w cnt (zMcell cart wov lot c r w (zIt (fun t s => zMix s (zWh c r w lim tol cart wov lot sew mis cnt shd (nI (X.2.2.2.2.2.2.2.1)) t)) k (zMix 43346 (nI (X.2.2.2.2.1)))))))) dX9_digest_68 ?_
        refine z_lstore_n (lv' := [(1, .long (zMcol cart wov lot col lef shd c r w cnt (zMlot lot col len lef sbt c w cnt (zMrow cart wov lot shd c w cnt (zMcell cart wov lot c r w (zIt (fun t s => zMix s (zWh c r w lim tol cart wov lot sew mis cnt shd (nI (X.2.2.2.2.2.2.2.1)) t)) k (zMix 43346 (nI (X.2.2.2.2.1))))))))), (3, .int (nI k)), (0, .ref 0)]) dX9_digest_71 rfl (by decide) rfl ?_
        refine z_aload_n 2 dX9_digest_72 rfl rfl ?_
        refine z_lload_n 0 dX9_digest_73 rfl rfl ?_
        refine z_callV (N := mX9_mixedSlits) 1 [.long (zMcol cart wov lot col lef shd c r w cnt (zMlot lot col len lef sbt c w cnt (zMrow cart wov lot shd c w cnt (zMcell cart wov lot c r w (zIt (fun t s => zMix s (zWh c r w lim tol cart wov lot sew mis cnt shd (nI (X.2.2.2.2.2.2.2.1)) t)) k (zMix 43346 (nI (X.2.2.2.2.1))))))))] [] lX9_mixedSlits ⟨zw_462, zw_464, zw_25⟩ rfl zgo_0 rfl rfl (Nat.le_of_ble_eq_true rfl) (by decide) ⟨zlt, zlt⟩ ⟨Nat.zero_le _, Nat.zero_le _⟩ (fun _ => rfl) (c_mSlits hG hc hr hw hn hl (zMcol cart wov lot col lef shd c r w cnt (zMlot lot col len lef sbt c w cnt (zMrow cart wov lot shd c w cnt (zMcell cart wov lot c r w (zIt (fun t s => zMix s (zWh c r w lim tol cart wov lot sew mis cnt shd (nI (X.2.2.2.2.2.2.2.1)) t)) k (zMix 43346 (nI (X.2.2.2.2.1))))))))) dX9_digest_74 ?_
        refine z_lstore_n (lv' := [(1, .long (zMsl wov sew c w lim (zMcol cart wov lot col lef shd c r w cnt (zMlot lot col len lef sbt c w cnt (zMrow cart wov lot shd c w cnt (zMcell cart wov lot c r w (zIt (fun t s => zMix s (zWh c r w lim tol cart wov lot sew mis cnt shd (nI (X.2.2.2.2.2.2.2.1)) t)) k (zMix 43346 (nI (X.2.2.2.2.1)))))))))), (3, .int (nI k)), (0, .ref 0)]) dX9_digest_77 rfl (by decide) rfl ?_
        refine z_lload_n 0 dX9_digest_78 rfl rfl ?_
        refine z_aload_n 2 dX9_digest_79 rfl rfl ?_
        refine z_get (v := .ref 1) 0 zgo_0 rfl inX9 (by decide) zw_230 rfl rfl dX9_digest_80 ?_
        refine z_callV (N := mX4_widestGap) 0 [] [.long (zMsl wov sew c w lim (zMcol cart wov lot col lef shd c r w cnt (zMlot lot col len lef sbt c w cnt (zMrow cart wov lot shd c w cnt (zMcell cart wov lot c r w (zIt (fun t s => zMix s (zWh c r w lim tol cart wov lot sew mis cnt shd (nI (X.2.2.2.2.2.2.2.1)) t)) k (zMix 43346 (nI (X.2.2.2.2.1)))))))))] lX4_widestGap ⟨zw_471, zw_472, zw_473⟩ rfl zgo_1 rfl rfl (Nat.le_of_ble_eq_true rfl) (by decide) ⟨zlt, zlt⟩ ⟨Nat.zero_le _, Nat.zero_le _⟩ (fun _ => rfl) (c_widest hG hc hr hw hn hs ) dX9_digest_83 ?_
        refine z_callSO (N := mX7_bitsOf) 1 [.float (zWg wov lot shd c w)] [.long (zMsl wov sew c w lim (zMcol cart wov lot col lef shd c r w cnt (zMlot lot col len lef sbt c w cnt (zMrow cart wov lot shd c w cnt (zMcell cart wov lot c r w (zIt (fun t s => zMix s (zWh c r w lim tol cart wov lot sew mis cnt shd (nI (X.2.2.2.2.2.2.2.1)) t)) k (zMix 43346 (nI (X.2.2.2.2.1)))))))))] lX7_bitsOf ⟨zw_403, zw_404⟩ rfl rfl (Nat.le_of_ble_eq_true rfl) (by decide) ⟨zlt, zlt⟩ hG ⟨Nat.zero_le _, Nat.zero_le _⟩ (c_bitsOf hG zlt (zWg wov lot shd c w) (zWg_ok hs)) dX9_digest_86 ?_
        refine z_callS (N := mX9_mixed) 2 [.long (zMsl wov sew c w lim (zMcol cart wov lot col lef shd c r w cnt (zMlot lot col len lef sbt c w cnt (zMrow cart wov lot shd c w cnt (zMcell cart wov lot c r w (zIt (fun t s => zMix s (zWh c r w lim tol cart wov lot sew mis cnt shd (nI (X.2.2.2.2.2.2.2.1)) t)) k (zMix 43346 (nI (X.2.2.2.2.1))))))))), .int (zBo (zWg wov lot shd c w))] [] lX9_mixed ⟨zw_248, zw_249⟩ rfl rfl rfl (Nat.le_of_ble_eq_true rfl) (by decide) ⟨zlt, zlt⟩ hG ⟨Nat.zero_le _, Nat.zero_le _⟩ (c_mixed hG zlt (zMsl wov sew c w lim (zMcol cart wov lot col lef shd c r w cnt (zMlot lot col len lef sbt c w cnt (zMrow cart wov lot shd c w cnt (zMcell cart wov lot c r w (zIt (fun t s => zMix s (zWh c r w lim tol cart wov lot sew mis cnt shd (nI (X.2.2.2.2.2.2.2.1)) t)) k (zMix 43346 (nI (X.2.2.2.2.1))))))))) (zBo (zWg wov lot shd c w))) dX9_digest_89 ?_
        exact z_lret rfl dX9_digest_92 (zo_l ho9 (by rw [hx_k])) (zo_h hh9 (by rfl)) (Nat.zero_le _) (Nat.zero_le _)
      · skip
        have hx_k := zlt' (by omega) hk_k c_19
        refine z_lload_n 1 dX9_digest_22 rfl rfl ?_
        refine z_aload_n 2 dX9_digest_23 rfl rfl ?_
        refine z_get (v := .ref 1) 0 zgo_0 rfl inX9 (by decide) zw_230 rfl rfl dX9_digest_24 ?_
        refine z_iload_n 0 dX9_digest_27 rfl rfl ?_
        refine z_aload_n 2 dX9_digest_28 rfl rfl ?_
        refine z_get (v := .ref 108) 2 zgo_0 rfl inX9 (by decide) zw_232 rfl rfl dX9_digest_29 ?_
        refine z_getN (v := .int (nI (X.2.2.2.2.2.2.2.1))) 1 zgo_108 rfl inX1 (by decide) (by decide) rfl rfl dX9_digest_32 ?_
        refine z_callV (N := mX4_wholeValueOf) 2 [.int (nI k), .int (nI (X.2.2.2.2.2.2.2.1))] [.long (zIt (fun t s => zMix s (zWh c r w lim tol cart wov lot sew mis cnt shd (nI (X.2.2.2.2.2.2.2.1)) t)) k (zMix 43346 (nI (X.2.2.2.2.1))))] lX4_wholeValueOf ⟨zw_252, zw_253, zw_254⟩ rfl zgo_1 rfl rfl (Nat.le_of_ble_eq_true rfl) (by decide) ⟨zlt, zlt⟩ ⟨Nat.zero_le _, Nat.zero_le _⟩ (fun _ => rfl) (c_wholeValue hG hc hr hw hn hl hs (nI (X.2.2.2.2.2.2.2.1)) k (by omega)) dX9_digest_35 ?_
        refine z_callS (N := mX9_mixed) 2 [.long (zIt (fun t s => zMix s (zWh c r w lim tol cart wov lot sew mis cnt shd (nI (X.2.2.2.2.2.2.2.1)) t)) k (zMix 43346 (nI (X.2.2.2.2.1)))), .int (zWh c r w lim tol cart wov lot sew mis cnt shd (nI (X.2.2.2.2.2.2.2.1)) k)] [] lX9_mixed ⟨zw_248, zw_249⟩ rfl rfl rfl (Nat.le_of_ble_eq_true rfl) (by decide) ⟨zlt, zlt⟩ hG ⟨Nat.zero_le _, Nat.zero_le _⟩ (c_mixed hG zlt (zIt (fun t s => zMix s (zWh c r w lim tol cart wov lot sew mis cnt shd (nI (X.2.2.2.2.2.2.2.1)) t)) k (zMix 43346 (nI (X.2.2.2.2.1)))) (zWh c r w lim tol cart wov lot sew mis cnt shd (nI (X.2.2.2.2.2.2.2.1)) k)) dX9_digest_38 ?_
        refine z_lstore_n (lv' := [(1, .long (zMix (zIt (fun t s => zMix s (zWh c r w lim tol cart wov lot sew mis cnt shd (nI (X.2.2.2.2.2.2.2.1)) t)) k (zMix 43346 (nI (X.2.2.2.2.1)))) (zWh c r w lim tol cart wov lot sew mis cnt shd (nI (X.2.2.2.2.2.2.2.1)) k))), (3, .int (nI k)), (0, .ref 0)]) dX9_digest_41 rfl (by decide) rfl ?_
        refine z_iinc (v := nI (k + 1)) (lv' := [(3, .int (nI (k + 1))), (1, .long (zMix (zIt (fun t s => zMix s (zWh c r w lim tol cart wov lot sew mis cnt shd (nI (X.2.2.2.2.2.2.2.1)) t)) k (zMix 43346 (nI (X.2.2.2.2.1)))) (zWh c r w lim tol cart wov lot sew mis cnt shd (nI (X.2.2.2.2.2.2.2.1)) k))), (0, .ref 0)]) 1 dX9_digest_42 rfl (nI_1 k) (by decide) rfl ?_
        refine z_goto (tgt := 16) dX9_digest_45 (by decide) ?_
        refine z_sub [0, 1, 2] (lv' := [(3, .int (nI (k + 1))), (1, .long (zMix (zIt (fun t s => zMix s (zWh c r w lim tol cart wov lot sew mis cnt shd (nI (X.2.2.2.2.2.2.2.1)) t)) k (zMix 43346 (nI (X.2.2.2.2.1)))) (zWh c r w lim tol cart wov lot sew mis cnt shd (nI (X.2.2.2.2.2.2.2.1)) k))), (0, .ref 0)]) rfl ?_
        refine z_eqs (lv2 := [(3, .int (nI (k + 1))), (1, .long (zIt (fun t s => zMix s (zWh c r w lim tol cart wov lot sew mis cnt shd (nI (X.2.2.2.2.2.2.2.1)) t)) (k + 1) (zMix 43346 (nI (X.2.2.2.2.1))))), (0, .ref 0)]) (h2 := (zHp (c, r, w, lim, tol, cart, wov, lot, sew, mis, cnt, col, len, lef, sbt, shd) X Y out)) (by rfl) (by rfl) ?_
        exact ih16 (k + 1) (by omega) (by omega)
  refine z_sub [0, 1, 2] (lv' := [(3, .int 0), (1, .long (zMix 43346 (nI (X.2.2.2.2.1)))), (0, .ref 0)]) rfl ?_
  refine z_eqs (lv2 := [(3, .int (nI 0)), (1, .long (zIt (fun t s => zMix s (zWh c r w lim tol cart wov lot sew mis cnt shd (nI (X.2.2.2.2.2.2.2.1)) t)) 0 (zMix 43346 (nI (X.2.2.2.2.1))))), (0, .ref 0)]) (h2 := (zHp (c, r, w, lim, tol, cart, wov, lot, sew, mis, cnt, col, len, lef, sbt, shd) X Y out)) (by rfl) (by rfl) ?_
  exact L16_1 (15 + 1) 0 (Nat.zero_le _) (by omega)

set_option maxHeartbeats 4000000 in
set_option maxRecDepth 100000 in
theorem c_f_undo_0_3 {G : zT} {c r w lim cnt : Nat} {tol : Int32} {cart wov lot sew mis col len lef sbt : Nat → Int32} {shd : Nat → UInt32} {X : zXr} {Y : zYr} {out : Nat → Int64} (hG : zAl G = false) (hc : c ≤ 20) (hr : r ≤ 16) (hw : w ≤ r) (hn : cnt ≤ 16) (hl : lim ≤ 16) (hs : ∀ j, zFinS (shd j)) (hc1 : 1 ≤ c) (h4 : X.2.2.2.2.2.1 < 4) (hc4 : X.2.2.2.2.1 ≤ 4) (hk0 : X.2.2.2.2.1 = 0) : zRun G mX9_undo 1 6 [.ref 0] (zHp (c, r, w, lim, tol, cart, wov, lot, sew, mis, cnt, col, len, lef, sbt, shd) X Y out) (.inl "java/lang/IllegalStateException") (zHp (c, r, w, lim, tol, cart, wov, lot, sew, mis, cnt, col, len, lef, sbt, shd) X Y out) := by
  refine zRun_of (by decide +kernel) rfl rfl (Nat.le_of_ble_eq_true rfl) ?_
  suffices hs : ∀ (o9 : zO) (h9 : zH), (Sum.inl "java/lang/IllegalStateException" : zO) = o9 → (zHp (c, r, w, lim, tol, cart, wov, lot, sew, mis, cnt, col, len, lef, sbt, shd) X Y out) = h9 → zPW G mX9_undo 1 6 o9 h9 0 0 0 [(0, .ref 0)] [] (zHp (c, r, w, lim, tol, cart, wov, lot, sew, mis, cnt, col, len, lef, sbt, shd) X Y out) from hs _ _ rfl rfl
  intro o9 h9 ho9 hh9
  refine z_aload_n 0 dX9_undo_0 rfl rfl ?_
  refine z_get (v := .ref 22) 1 zgo_0 rfl inX9 (by decide) zw_231 rfl rfl dX9_undo_1 ?_
  refine z_getN (v := .int (nI (X.2.2.2.2.1))) 1 zgo_22 rfl inX3 (by decide) (by decide) rfl rfl dX9_undo_4 ?_
  refine z_if_le (tgt := 14) dX9_undo_7 (by decide) (fun c_7 => ?_) (fun c_7 => ?_)
  · skip
    refine z_iconst (v := 3) dX9_undo_14 (by decide) ?_
    exact z_callSX (N := mX9_refuse) 1 [.int 3] [] lX9_refuse ⟨zw_495, zw_496⟩ rfl rfl rfl (Nat.le_of_ble_eq_true rfl) (by decide) hG ⟨Nat.le_refl _, Nat.le_refl _⟩ c_refuse_3 dX9_undo_15 ho9.symm (zo_h hh9 (by rfl))
  · exfalso; exact c_7 (by rw [hk0]; decide)

set_option maxHeartbeats 4000000 in
set_option maxRecDepth 100000 in
theorem c_f_undo {G : zT} {c r w lim cnt : Nat} {tol : Int32} {cart wov lot sew mis col len lef sbt : Nat → Int32} {shd : Nat → UInt32} {X : zXr} {Y : zYr} {out : Nat → Int64} (hG : zAl G = false) (hc : c ≤ 20) (hr : r ≤ 16) (hw : w ≤ r) (hn : cnt ≤ 16) (hl : lim ≤ 16) (hs : ∀ j, zFinS (shd j)) (hc1 : 1 ≤ c) (h4 : X.2.2.2.2.2.1 < 4) (hc4 : X.2.2.2.2.1 ≤ 4) (hk0 : 0 < X.2.2.2.2.1) : zRun G mX9_undo 0 0 [.ref 0] (zHp (c, r, w, lim, tol, cart, wov, lot, sew, mis, cnt, col, len, lef, sbt, shd) X Y out) (.inr (some (.int (nI (X.2.2.2.2.1 - 1))))) (zHp (zCp (zLast X) (c, r, w, lim, tol, cart, wov, lot, sew, mis, cnt, col, len, lef, sbt, shd)) (X.1, X.2.1, X.2.2.1, X.2.2.2.1, X.2.2.2.2.1 - 1, (X.2.2.2.2.2.1 + 3) % 4, X.2.2.2.2.2.2) Y out) := by
  refine zRun_of (by decide +kernel) rfl rfl (Nat.le_of_ble_eq_true rfl) ?_
  suffices hs : ∀ (o9 : zO) (h9 : zH), (Sum.inr (some (.int (nI (X.2.2.2.2.1 - 1)))) : zO) = o9 → (zHp (zCp (zLast X) (c, r, w, lim, tol, cart, wov, lot, sew, mis, cnt, col, len, lef, sbt, shd)) (X.1, X.2.1, X.2.2.1, X.2.2.2.1, X.2.2.2.2.1 - 1, (X.2.2.2.2.2.1 + 3) % 4, X.2.2.2.2.2.2) Y out) = h9 → zPW G mX9_undo 0 0 o9 h9 0 0 0 [(0, .ref 0)] [] (zHp (c, r, w, lim, tol, cart, wov, lot, sew, mis, cnt, col, len, lef, sbt, shd) X Y out) from hs _ _ rfl rfl
  intro o9 h9 ho9 hh9
  refine z_aload_n 0 dX9_undo_0 rfl rfl ?_
  refine z_get (v := .ref 22) 1 zgo_0 rfl inX9 (by decide) zw_231 rfl rfl dX9_undo_1 ?_
  refine z_getN (v := .int (nI (X.2.2.2.2.1))) 1 zgo_22 rfl inX3 (by decide) (by decide) rfl rfl dX9_undo_4 ?_
  refine z_if_le (tgt := 14) dX9_undo_7 (by decide) (fun c_7 => ?_) (fun c_7 => ?_)
  · exact absurd c_7 (nI_nle hk0 (by omega))
  · skip
    refine z_iconst (v := 0) dX9_undo_10 (by decide) ?_
    refine z_goto (tgt := 15) dX9_undo_11 (by decide) ?_
    refine z_callS (N := mX9_refuse) 1 [.int 0] [] lX9_refuse ⟨zw_495, zw_496⟩ rfl rfl rfl (Nat.le_of_ble_eq_true rfl) (by decide) ⟨zlt, zlt⟩ hG ⟨Nat.zero_le _, Nat.zero_le _⟩ c_refuse_0 dX9_undo_15 ?_
    refine z_aload_n 0 dX9_undo_18 rfl rfl ?_
    refine z_get (v := .ref 22) 1 zgo_0 rfl inX9 (by decide) zw_231 rfl rfl dX9_undo_19 ?_
    refine z_aload_n 0 dX9_undo_22 rfl rfl ?_
    refine z_get (v := .ref 1) 0 zgo_0 rfl inX9 (by decide) zw_230 rfl rfl dX9_undo_23 ?_
    refine z_callV (N := mX3_restore) 1 [.ref 1] [] lX3_restore ⟨zw_824, zw_825, zw_826⟩ rfl zgo_22 rfl rfl (Nat.le_of_ble_eq_true rfl) (by decide) ⟨zlt, zlt⟩ ⟨Nat.zero_le _, Nat.zero_le _⟩ zal (c_restore hG h4 hk0 hc4) dX9_undo_26 ?_
    exact z_iret rfl dX9_undo_29 (zo_i ho9 (by rfl)) (zo_h hh9 (by rfl)) (Nat.zero_le _) (Nat.zero_le _)
