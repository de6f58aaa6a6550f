set_option maxHeartbeats 4000000 in
set_option maxRecDepth 100000 in
theorem c_g_begin_0_2 {G : zT} {c r w lim cnt : Nat} {tol : Int32} {cart wov lot sew mis col len lef sbt : Nat → Int32} {shd : Nat → UInt32} {X : zXr} {Y : zYr} {out : Nat → Int64} (hG : zAl G = false) (hc : c ≤ 20) (hr : r ≤ 16) (hw : w ≤ r) (hn : cnt ≤ 16) (hl : lim ≤ 16) (hs : ∀ j, zFinS (shd j)) (hc1 : 1 ≤ c) (h4 : X.2.2.2.2.2.1 < 4) (hc4 : X.2.2.2.2.1 ≤ 4) (a b : Int32) (hk0 : (if zFr 1 a (nI 20) && zFr 1 b (nI 16) then (0 : Int32) else 2) = 2) : zRun G mX9_begin 1 6 [.ref 0, .int a, .int b] (zHp (c, r, w, lim, tol, cart, wov, lot, sew, mis, cnt, col, len, lef, sbt, shd) X Y out) (.inl "java/lang/IllegalArgumentException") (zHp (c, r, w, lim, tol, cart, wov, lot, sew, mis, cnt, col, len, lef, sbt, shd) X Y out) := by
  refine zRun_of (by decide +kernel) rfl rfl (Nat.le_of_ble_eq_true rfl) ?_
  suffices hs : ∀ (o9 : zO) (h9 : zH), (Sum.inl "java/lang/IllegalArgumentException" : zO) = o9 → (zHp (c, r, w, lim, tol, cart, wov, lot, sew, mis, cnt, col, len, lef, sbt, shd) X Y out) = h9 → zPW G mX9_begin 1 6 o9 h9 0 0 0 [(0, .ref 0), (1, .int a), (2, .int b)] [] (zHp (c, r, w, lim, tol, cart, wov, lot, sew, mis, cnt, col, len, lef, sbt, shd) X Y out) from hs _ _ rfl rfl
  intro o9 h9 ho9 hh9
  refine z_aload_n 0 dX9_begin_0 rfl rfl ?_
  refine z_get (v := .ref 1) 0 zgo_0 rfl inX9 (by decide) zw_312 rfl rfl dX9_begin_1 ?_
  refine z_iload_n 1 dX9_begin_4 rfl rfl ?_
  refine z_iload_n 2 dX9_begin_5 rfl rfl ?_
  refine z_callV (N := mX4_whyNotBegin) 2 [.int a, .int b] [] lX4_whyNotBegin ⟨zw_572, zw_573, zw_574⟩ rfl zgo_1 rfl rfl (Nat.le_of_ble_eq_true rfl) (by decide) ⟨zlt, zlt⟩ ⟨Nat.zero_le _, Nat.zero_le _⟩ (fun _ => rfl) (c_wnBegin hG hc hr hw hn a b) dX9_begin_6 ?_
  refine z_top (v2 := .int 2) (by rw [hk0]) ?_
  exact z_callSX (N := mX9_refuse) 1 [.int 2] [] lX9_refuse ⟨zw_883, zw_884⟩ rfl rfl rfl (Nat.le_of_ble_eq_true rfl) (by decide) hG ⟨Nat.le_refl _, Nat.le_refl _⟩ c_refuse_2 dX9_begin_9 ho9.symm (zo_h hh9 (by rfl))

set_option maxHeartbeats 4000000 in
set_option maxRecDepth 100000 in
theorem c_g_setLimit_0_2 {G : zT} {c r w lim cnt : Nat} {tol : Int32} {cart wov lot sew mis col len lef sbt : Nat → Int32} {shd : Nat → UInt32} {X : zXr} {Y : zYr} {out : Nat → Int64} (hG : zAl G = false) (hc : c ≤ 20) (hr : r ≤ 16) (hw : w ≤ r) (hn : cnt ≤ 16) (hl : lim ≤ 16) (hs : ∀ j, zFinS (shd j)) (hc1 : 1 ≤ c) (h4 : X.2.2.2.2.2.1 < 4) (hc4 : X.2.2.2.2.1 ≤ 4) (a : Int32) (hk0 : (if zFr 1 a (nI 16) then (0 : Int32) else 2) = 2) : zRun G mX9_setLimit 1 6 [.ref 0, .int a] (zHp (c, r, w, lim, tol, cart, wov, lot, sew, mis, cnt, col, len, lef, sbt, shd) X Y out) (.inl "java/lang/IllegalArgumentException") (zHp (c, r, w, lim, tol, cart, wov, lot, sew, mis, cnt, col, len, lef, sbt, shd) X Y out) := by
  refine zRun_of (by decide +kernel) rfl rfl (Nat.le_of_ble_eq_true rfl) ?_
  suffices hs : ∀ (o9 : zO) (h9 : zH), (Sum.inl "java/lang/IllegalArgumentException" : zO) = o9 → (zHp (c, r, w, lim, tol, cart, wov, lot, sew, mis, cnt, col, len, lef, sbt, shd) X Y out) = h9 → zPW G mX9_setLimit 1 6 o9 h9 0 0 0 [(0, .ref 0), (1, .int a)] [] (zHp (c, r, w, lim, tol, cart, wov, lot, sew, mis, cnt, col, len, lef, sbt, shd) X Y out) from hs _ _ rfl rfl
  intro o9 h9 ho9 hh9
  refine z_aload_n 0 dX9_setLimit_0 rfl rfl ?_
  refine z_get (v := .ref 1) 0 zgo_0 rfl inX9 (by decide) zw_312 rfl rfl dX9_setLimit_1 ?_
  refine z_iload_n 1 dX9_setLimit_4 rfl rfl ?_
  refine z_callV (N := mX4_whyNotLimit) 1 [.int a] [] lX4_whyNotLimit ⟨zw_643, zw_644, zw_645⟩ rfl zgo_1 rfl rfl (Nat.le_of_ble_eq_true rfl) (by decide) ⟨zlt, zlt⟩ ⟨Nat.zero_le _, Nat.zero_le _⟩ (fun _ => rfl) (c_wnLimit hG hc hr hw hn a) dX9_setLimit_5 ?_
  refine z_top (v2 := .int 2) (by rw [hk0]) ?_
  exact z_callSX (N := mX9_refuse) 1 [.int 2] [] lX9_refuse ⟨zw_883, zw_884⟩ rfl rfl rfl (Nat.le_of_ble_eq_true rfl) (by decide) hG ⟨Nat.le_refl _, Nat.le_refl _⟩ c_refuse_2 dX9_setLimit_8 ho9.symm (zo_h hh9 (by rfl))

set_option maxHeartbeats 4000000 in
set_option maxRecDepth 100000 in
theorem c_g_slitsWith_0_2 {G : zT} {c r w lim cnt : Nat} {tol : Int32} {cart wov lot sew mis col len lef sbt : Nat → Int32} {shd : Nat → UInt32} {X : zXr} {Y : zYr} {out : Nat → Int64} (hG : zAl G = false) (hc : c ≤ 20) (hr : r ≤ 16) (hw : w ≤ r) (hn : cnt ≤ 16) (hl : lim ≤ 16) (hs : ∀ j, zFinS (shd j)) (hc1 : 1 ≤ c) (h4 : X.2.2.2.2.2.1 < 4) (hc4 : X.2.2.2.2.1 ≤ 4) (a : Int32) (hk0 : (if zFr 1 a (nI 16) then (0 : Int32) else 2) = 2) : zRun G mX9_slitsWith 1 6 [.ref 0, .int a] (zHp (c, r, w, lim, tol, cart, wov, lot, sew, mis, cnt, col, len, lef, sbt, shd) X Y out) (.inl "java/lang/IllegalArgumentException") (zHp (c, r, w, lim, tol, cart, wov, lot, sew, mis, cnt, col, len, lef, sbt, shd) X Y out) := by
  refine zRun_of (by decide +kernel) rfl rfl (Nat.le_of_ble_eq_true rfl) ?_
  suffices hs : ∀ (o9 : zO) (h9 : zH), (Sum.inl "java/lang/IllegalArgumentException" : zO) = o9 → (zHp (c, r, w, lim, tol, cart, wov, lot, sew, mis, cnt, col, len, lef, sbt, shd) X Y out) = h9 → zPW G mX9_slitsWith 1 6 o9 h9 0 0 0 [(0, .ref 0), (1, .int a)] [] (zHp (c, r, w, lim, tol, cart, wov, lot, sew, mis, cnt, col, len, lef, sbt, shd) X Y out) from hs _ _ rfl rfl
  intro o9 h9 ho9 hh9
  refine z_aload_n 0 dX9_slitsWith_0 rfl rfl ?_
  refine z_get (v := .ref 1) 0 zgo_0 rfl inX9 (by decide) zw_312 rfl rfl dX9_slitsWith_1 ?_
  refine z_iload_n 1 dX9_slitsWith_4 rfl rfl ?_
  refine z_callV (N := mX4_whyNotLimit) 1 [.int a] [] lX4_whyNotLimit ⟨zw_643, zw_644, zw_645⟩ rfl zgo_1 rfl rfl (Nat.le_of_ble_eq_true rfl) (by decide) ⟨zlt, zlt⟩ ⟨Nat.zero_le _, Nat.zero_le _⟩ (fun _ => rfl) (c_wnLimit hG hc hr hw hn a) dX9_slitsWith_5 ?_
  refine z_top (v2 := .int 2) (by rw [hk0]) ?_
  exact z_callSX (N := mX9_refuse) 1 [.int 2] [] lX9_refuse ⟨zw_883, zw_884⟩ rfl rfl rfl (Nat.le_of_ble_eq_true rfl) (by decide) hG ⟨Nat.le_refl _, Nat.le_refl _⟩ c_refuse_2 dX9_slitsWith_8 ho9.symm (zo_h hh9 (by rfl))

set_option maxHeartbeats 4000000 in
set_option maxRecDepth 100000 in
theorem c_g_whole_0_2 {G : zT} {c r w lim cnt : Nat} {tol : Int32} {cart wov lot sew mis col len lef sbt : Nat → Int32} {shd : Nat → UInt32} {X : zXr} {Y : zYr} {out : Nat → Int64} (hG : zAl G = false) (hc : c ≤ 20) (hr : r ≤ 16) (hw : w ≤ r) (hn : cnt ≤ 16) (hl : lim ≤ 16) (hs : ∀ j, zFinS (shd j)) (hc1 : 1 ≤ c) (h4 : X.2.2.2.2.2.1 < 4) (hc4 : X.2.2.2.2.1 ≤ 4) (t : Int32) (hk0 : (zFr 0 t (nI 14)) = false) : zRun G mX9_whole 1 6 [.ref 0, .int t] (zHp (c, r, w, lim, tol, cart, wov, lot, sew, mis, cnt, col, len, lef, sbt, shd) X Y out) (.inl "java/lang/IllegalArgumentException") (zHp (c, r, w, lim, tol, cart, wov, lot, sew, mis, cnt, col, len, lef, sbt, shd) X Y out) := by
  refine zRun_of (by decide +kernel) rfl rfl (Nat.le_of_ble_eq_true rfl) ?_
  suffices hs : ∀ (o9 : zO) (h9 : zH), (Sum.inl "java/lang/IllegalArgumentException" : zO) = o9 → (zHp (c, r, w, lim, tol, cart, wov, lot, sew, mis, cnt, col, len, lef, sbt, shd) X Y out) = h9 → zPW G mX9_whole 1 6 o9 h9 0 0 0 [(0, .ref 0), (1, .int t)] [] (zHp (c, r, w, lim, tol, cart, wov, lot, sew, mis, cnt, col, len, lef, sbt, shd) X Y out) from hs _ _ rfl rfl
  intro o9 h9 ho9 hh9
  refine z_iconst (v := 0) dX9_whole_0 (by decide) ?_
  refine z_iload_n 1 dX9_whole_1 rfl rfl ?_
  refine z_bipush (v := nI 14) dX9_whole_2 (by decide) ?_
  refine z_callS (N := mX9_isFrom) 3 [.int 0, .int t, .int (nI 14)] [] lX9_isFrom ⟨zw_590, zw_456⟩ rfl rfl rfl (Nat.le_of_ble_eq_true rfl) (by decide) ⟨zlt, zlt⟩ hG ⟨Nat.zero_le _, Nat.zero_le _⟩ (c_isFrom hG zlt 0 t (nI 14)) dX9_whole_4 ?_
  refine z_if_eq (tgt := 14) dX9_whole_7 (by decide) (fun c_7 => ?_) (fun c_7 => ?_)
  · skip
    have b_7 := zB_0.mp c_7
    refine z_iconst (v := 2) dX9_whole_14 (by decide) ?_
    exact z_callSX (N := mX9_refuse) 1 [.int 2] [] lX9_refuse ⟨zw_883, zw_884⟩ rfl rfl rfl (Nat.le_of_ble_eq_true rfl) (by decide) hG ⟨Nat.le_refl _, Nat.le_refl _⟩ c_refuse_2 dX9_whole_15 ho9.symm (zo_h hh9 (by rfl))
  · exfalso; exact c_7 (zB_0.mpr hk0)

set_option maxHeartbeats 4000000 in
set_option maxRecDepth 100000 in
theorem c_g_unweave_0_2 {G : zT} {c r w lim cnt : Nat} {tol : Int32} {cart wov lot sew mis col len lef sbt : Nat → Int32} {shd : Nat → UInt32} {X : zXr} {Y : zYr} {out : Nat → Int64} (hG : zAl G = false) (hc : c ≤ 20) (hr : r ≤ 16) (hw : w ≤ r) (hn : cnt ≤ 16) (hl : lim ≤ 16) (hs : ∀ j, zFinS (shd j)) (hc1 : 1 ≤ c) (h4 : X.2.2.2.2.2.1 < 4) (hc4 : X.2.2.2.2.1 ≤ 4) (n : Int32) (hk0 : (if zFr 1 n (nI 16) then (if nI w < n then (3 : Int32) else 0) else 2) = 2) : zRun G mX9_unweave 1 6 [.ref 0, .int n] (zHp (c, r, w, lim, tol, cart, wov, lot, sew, mis, cnt, col, len, lef, sbt, shd) X Y out) (.inl "java/lang/IllegalArgumentException") (zHp (c, r, w, lim, tol, cart, wov, lot, sew, mis, cnt, col, len, lef, sbt, shd) X Y out) := by
  refine zRun_of (by decide +kernel) rfl rfl (Nat.le_of_ble_eq_true rfl) ?_
  suffices hs : ∀ (o9 : zO) (h9 : zH), (Sum.inl "java/lang/IllegalArgumentException" : zO) = o9 → (zHp (c, r, w, lim, tol, cart, wov, lot, sew, mis, cnt, col, len, lef, sbt, shd) X Y out) = h9 → zPW G mX9_unweave 1 6 o9 h9 0 0 0 [(0, .ref 0), (1, .int n)] [] (zHp (c, r, w, lim, tol, cart, wov, lot, sew, mis, cnt, col, len, lef, sbt, shd) X Y out) from hs _ _ rfl rfl
  intro o9 h9 ho9 hh9
  refine z_aload_n 0 dX9_unweave_0 rfl rfl ?_
  refine z_get (v := .ref 1) 0 zgo_0 rfl inX9 (by decide) zw_312 rfl rfl dX9_unweave_1 ?_
  refine z_iload_n 1 dX9_unweave_4 rfl rfl ?_
  refine z_callV (N := mX4_whyNotUnweave) 1 [.int n] [] lX4_whyNotUnweave ⟨zw_611, zw_612, zw_613⟩ rfl zgo_1 rfl rfl (Nat.le_of_ble_eq_true rfl) (by decide) ⟨zlt, zlt⟩ ⟨Nat.zero_le _, Nat.zero_le _⟩ (fun _ => rfl) (c_wnUnweave hG hc hr hw hn n) dX9_unweave_5 ?_
  refine z_top (v2 := .int 2) (by rw [hk0]) ?_
  exact z_callSX (N := mX9_refuse) 1 [.int 2] [] lX9_refuse ⟨zw_883, zw_884⟩ rfl rfl rfl (Nat.le_of_ble_eq_true rfl) (by decide) hG ⟨Nat.le_refl _, Nat.le_refl _⟩ c_refuse_2 dX9_unweave_8 ho9.symm (zo_h hh9 (by rfl))

set_option maxHeartbeats 4000000 in
set_option maxRecDepth 100000 in
theorem c_g_unweave_0_3 {G : zT} {c r w lim cnt : Nat} {tol : Int32} {cart wov lot sew mis col len lef sbt : Nat → Int32} {shd : Nat → UInt32} {X : zXr} {Y : zYr} {out : Nat → Int64} (hG : zAl G = false) (hc : c ≤ 20) (hr : r ≤ 16) (hw : w ≤ r) (hn : cnt ≤ 16) (hl : lim ≤ 16) (hs : ∀ j, zFinS (shd j)) (hc1 : 1 ≤ c) (h4 : X.2.2.2.2.2.1 < 4) (hc4 : X.2.2.2.2.1 ≤ 4) (n : Int32) (hk0 : (if zFr 1 n (nI 16) then (if nI w < n then (3 : Int32) else 0) else 2) = 3) : zRun G mX9_unweave 1 6 [.ref 0, .int n] (zHp (c, r, w, lim, tol, cart, wov, lot, sew, mis, cnt, col, len, lef, sbt, shd) X Y out) (.inl "java/lang/IllegalStateException") (zHp (c, r, w, lim, tol, cart, wov, lot, sew, mis, cnt, col, len, lef, sbt, shd) X Y out) := by
  refine zRun_of (by decide +kernel) rfl rfl (Nat.le_of_ble_eq_true rfl) ?_
  suffices hs : ∀ (o9 : zO) (h9 : zH), (Sum.inl "java/lang/IllegalStateException" : zO) = o9 → (zHp (c, r, w, lim, tol, cart, wov, lot, sew, mis, cnt, col, len, lef, sbt, shd) X Y out) = h9 → zPW G mX9_unweave 1 6 o9 h9 0 0 0 [(0, .ref 0), (1, .int n)] [] (zHp (c, r, w, lim, tol, cart, wov, lot, sew, mis, cnt, col, len, lef, sbt, shd) X Y out) from hs _ _ rfl rfl
  intro o9 h9 ho9 hh9
  refine z_aload_n 0 dX9_unweave_0 rfl rfl ?_
  refine z_get (v := .ref 1) 0 zgo_0 rfl inX9 (by decide) zw_312 rfl rfl dX9_unweave_1 ?_
  refine z_iload_n 1 dX9_unweave_4 rfl rfl ?_
  refine z_callV (N := mX4_whyNotUnweave) 1 [.int n] [] lX4_whyNotUnweave ⟨zw_611, zw_612, zw_613⟩ rfl zgo_1 rfl rfl (Nat.le_of_ble_eq_true rfl) (by decide) ⟨zlt, zlt⟩ ⟨Nat.zero_le _, Nat.zero_le _⟩ (fun _ => rfl) (c_wnUnweave hG hc hr hw hn n) dX9_unweave_5 ?_
  refine z_top (v2 := .int 3) (by rw [hk0]) ?_
  exact z_callSX (N := mX9_refuse) 1 [.int 3] [] lX9_refuse ⟨zw_883, zw_884⟩ rfl rfl rfl (Nat.le_of_ble_eq_true rfl) (by decide) hG ⟨Nat.le_refl _, Nat.le_refl _⟩ c_refuse_3 dX9_unweave_8 ho9.symm (zo_h hh9 (by rfl))

set_option maxHeartbeats 4000000 in
set_option maxRecDepth 100000 in
theorem c_g_weave_0_2 {G : zT} {c r w lim cnt : Nat} {tol : Int32} {cart wov lot sew mis col len lef sbt : Nat → Int32} {shd : Nat → UInt32} {X : zXr} {Y : zYr} {out : Nat → Int64} (hG : zAl G = false) (hc : c ≤ 20) (hr : r ≤ 16) (hw : w ≤ r) (hn : cnt ≤ 16) (hl : lim ≤ 16) (hs : ∀ j, zFinS (shd j)) (hc1 : 1 ≤ c) (h4 : X.2.2.2.2.2.1 < 4) (hc4 : X.2.2.2.2.1 ≤ 4) (n : Int32) (hk0 : (if zFr 1 n (nI 16) then (0 : Int32) else 2) = 2) : zRun G mX9_weave 1 6 [.ref 0, .int n] (zHp (c, r, w, lim, tol, cart, wov, lot, sew, mis, cnt, col, len, lef, sbt, shd) X Y out) (.inl "java/lang/IllegalArgumentException") (zHp (c, r, w, lim, tol, cart, wov, lot, sew, mis, cnt, col, len, lef, sbt, shd) X Y out) := by
  refine zRun_of (by decide +kernel) rfl rfl (Nat.le_of_ble_eq_true rfl) ?_
  suffices hs : ∀ (o9 : zO) (h9 : zH), (Sum.inl "java/lang/IllegalArgumentException" : zO) = o9 → (zHp (c, r, w, lim, tol, cart, wov, lot, sew, mis, cnt, col, len, lef, sbt, shd) X Y out) = h9 → zPW G mX9_weave 1 6 o9 h9 0 0 0 [(0, .ref 0), (1, .int n)] [] (zHp (c, r, w, lim, tol, cart, wov, lot, sew, mis, cnt, col, len, lef, sbt, shd) X Y out) from hs _ _ rfl rfl
  intro o9 h9 ho9 hh9
  refine z_aload_n 0 dX9_weave_0 rfl rfl ?_
  refine z_get (v := .ref 1) 0 zgo_0 rfl inX9 (by decide) zw_312 rfl rfl dX9_weave_1 ?_
  refine z_iload_n 1 dX9_weave_4 rfl rfl ?_
  refine z_callV (N := mX4_whyNotWeave) 1 [.int n] [] lX4_whyNotWeave ⟨zw_605, zw_606, zw_607⟩ rfl zgo_1 rfl rfl (Nat.le_of_ble_eq_true rfl) (by decide) ⟨zlt, zlt⟩ ⟨Nat.zero_le _, Nat.zero_le _⟩ (fun _ => rfl) (c_wnWeave hG hc hr hw hn n) dX9_weave_5 ?_
  refine z_top (v2 := .int 2) (by rw [hk0]) ?_
  exact z_callSX (N := mX9_refuse) 1 [.int 2] [] lX9_refuse ⟨zw_883, zw_884⟩ rfl rfl rfl (Nat.le_of_ble_eq_true rfl) (by decide) hG ⟨Nat.le_refl _, Nat.le_refl _⟩ c_refuse_2 dX9_weave_8 ho9.symm (zo_h hh9 (by rfl))

set_option maxHeartbeats 4000000 in
set_option maxRecDepth 100000 in
theorem c_g_fill_0_1 {G : zT} {c r w lim cnt : Nat} {tol : Int32} {cart wov lot sew mis col len lef sbt : Nat → Int32} {shd : Nat → UInt32} {X : zXr} {Y : zYr} {out : Nat → Int64} (hG : zAl G = false) (hc : c ≤ 20) (hr : r ≤ 16) (hw : w ≤ r) (hn : cnt ≤ 16) (hl : lim ≤ 16) (hs : ∀ j, zFinS (shd j)) (hc1 : 1 ≤ c) (h4 : X.2.2.2.2.2.1 < 4) (hc4 : X.2.2.2.2.1 ≤ 4) (x y u z v : Int32) (hk0 : (if (zFr 0 x (nI c - 1) && zFr 0 y (nI r - 1)) && (zFr 0 u (nI c - 1) && zFr 0 z (nI r - 1)) then (if u < x then (2 : Int32) else if z < y then 2 else if zFr 0 v 7 then 0 else 2) else 1) = 1) : zRun G mX9_fill 1 6 [.ref 0, .int x, .int y, .int u, .int z, .int v] (zHp (c, r, w, lim, tol, cart, wov, lot, sew, mis, cnt, col, len, lef, sbt, shd) X Y out) (.inl "java/lang/IndexOutOfBoundsException") (zHp (c, r, w, lim, tol, cart, wov, lot, sew, mis, cnt, col, len, lef, sbt, shd) X Y out) := by
  refine zRun_of (by decide +kernel) rfl rfl (Nat.le_of_ble_eq_true rfl) ?_
  suffices hs : ∀ (o9 : zO) (h9 : zH), (Sum.inl "java/lang/IndexOutOfBoundsException" : zO) = o9 → (zHp (c, r, w, lim, tol, cart, wov, lot, sew, mis, cnt, col, len, lef, sbt, shd) X Y out) = h9 → zPW G mX9_fill 1 6 o9 h9 0 0 0 [(0, .ref 0), (1, .int x), (2, .int y), (3, .int u), (4, .int z), (5, .int v)] [] (zHp (c, r, w, lim, tol, cart, wov, lot, sew, mis, cnt, col, len, lef, sbt, shd) X Y out) from hs _ _ rfl rfl
  intro o9 h9 ho9 hh9
  refine z_aload_n 0 dX9_fill_0 rfl rfl ?_
  refine z_get (v := .ref 1) 0 zgo_0 rfl inX9 (by decide) zw_312 rfl rfl dX9_fill_1 ?_
  refine z_iload_n 1 dX9_fill_4 rfl rfl ?_
  refine z_iload_n 2 dX9_fill_5 rfl rfl ?_
  refine z_iload_n 3 dX9_fill_6 rfl rfl ?_
  refine z_iload 4 dX9_fill_7 rfl ?_
  refine z_iload 5 dX9_fill_9 rfl ?_
  refine z_callV (N := mX4_whyNotFill) 5 [.int x, .int y, .int u, .int z, .int v] [] lX4_whyNotFill ⟨zw_579, zw_580, zw_581⟩ rfl zgo_1 rfl rfl (Nat.le_of_ble_eq_true rfl) (by decide) ⟨zlt, zlt⟩ ⟨Nat.zero_le _, Nat.zero_le _⟩ (fun _ => rfl) (c_wnFill hG hc hr hw hn x y u z v) dX9_fill_11 ?_
  refine z_top (v2 := .int 1) (by rw [hk0]) ?_
  exact z_callSX (N := mX9_refuse) 1 [.int 1] [] lX9_refuse ⟨zw_883, zw_884⟩ rfl rfl rfl (Nat.le_of_ble_eq_true rfl) (by decide) hG ⟨Nat.le_refl _, Nat.le_refl _⟩ c_refuse_1 dX9_fill_14 ho9.symm (zo_h hh9 (by rfl))

set_option maxHeartbeats 4000000 in
set_option maxRecDepth 100000 in
theorem c_g_fill_0_2 {G : zT} {c r w lim cnt : Nat} {tol : Int32} {cart wov lot sew mis col len lef sbt : Nat → Int32} {shd : Nat → UInt32} {X : zXr} {Y : zYr} {out : Nat → Int64} (hG : zAl G = false) (hc : c ≤ 20) (hr : r ≤ 16) (hw : w ≤ r) (hn : cnt ≤ 16) (hl : lim ≤ 16) (hs : ∀ j, zFinS (shd j)) (hc1 : 1 ≤ c) (h4 : X.2.2.2.2.2.1 < 4) (hc4 : X.2.2.2.2.1 ≤ 4) (x y u z v : Int32) (hk0 : (if (zFr 0 x (nI c - 1) && zFr 0 y (nI r - 1)) && (zFr 0 u (nI c - 1) && zFr 0 z (nI r - 1)) then (if u < x then (2 : Int32) else if z < y then 2 else if zFr 0 v 7 then 0 else 2) else 1) = 2) : zRun G mX9_fill 1 6 [.ref 0, .int x, .int y, .int u, .int z, .int v] (zHp (c, r, w, lim, tol, cart, wov, lot, sew, mis, cnt, col, len, lef, sbt, shd) X Y out) (.inl "java/lang/IllegalArgumentException") (zHp (c, r, w, lim, tol, cart, wov, lot, sew, mis, cnt, col, len, lef, sbt, shd) X Y out) := by
  refine zRun_of (by decide +kernel) rfl rfl (Nat.le_of_ble_eq_true rfl) ?_
  suffices hs : ∀ (o9 : zO) (h9 : zH), (Sum.inl "java/lang/IllegalArgumentException" : zO) = o9 → (zHp (c, r, w, lim, tol, cart, wov, lot, sew, mis, cnt, col, len, lef, sbt, shd) X Y out) = h9 → zPW G mX9_fill 1 6 o9 h9 0 0 0 [(0, .ref 0), (1, .int x), (2, .int y), (3, .int u), (4, .int z), (5, .int v)] [] (zHp (c, r, w, lim, tol, cart, wov, lot, sew, mis, cnt, col, len, lef, sbt, shd) X Y out) from hs _ _ rfl rfl
  intro o9 h9 ho9 hh9
  refine z_aload_n 0 dX9_fill_0 rfl rfl ?_
  refine z_get (v := .ref 1) 0 zgo_0 rfl inX9 (by decide) zw_312 rfl rfl dX9_fill_1 ?_
  refine z_iload_n 1 dX9_fill_4 rfl rfl ?_
  refine z_iload_n 2 dX9_fill_5 rfl rfl ?_
  refine z_iload_n 3 dX9_fill_6 rfl rfl ?_
  refine z_iload 4 dX9_fill_7 rfl ?_
  refine z_iload 5 dX9_fill_9 rfl ?_
  refine z_callV (N := mX4_whyNotFill) 5 [.int x, .int y, .int u, .int z, .int v] [] lX4_whyNotFill ⟨zw_579, zw_580, zw_581⟩ rfl zgo_1 rfl rfl (Nat.le_of_ble_eq_true rfl) (by decide) ⟨zlt, zlt⟩ ⟨Nat.zero_le _, Nat.zero_le _⟩ (fun _ => rfl) (c_wnFill hG hc hr hw hn x y u z v) dX9_fill_11 ?_
  refine z_top (v2 := .int 2) (by rw [hk0]) ?_
  exact z_callSX (N := mX9_refuse) 1 [.int 2] [] lX9_refuse ⟨zw_883, zw_884⟩ rfl rfl rfl (Nat.le_of_ble_eq_true rfl) (by decide) hG ⟨Nat.le_refl _, Nat.le_refl _⟩ c_refuse_2 dX9_fill_14 ho9.symm (zo_h hh9 (by rfl))

