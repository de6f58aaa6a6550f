theorem zN_or {a : Nat} (h : a < 2 ^ 23) : a ||| 8388608 < 2 ^ 31 := Nat.lt_trans (Nat.or_lt_two_pow (n := 24) (by omega) (by decide)) (by decide)

set_option maxHeartbeats 4000000 in
set_option maxRecDepth 100000 in
theorem c_wnBegin {G : zT} {c r w lim cnt : Nat} {tol : Int32} {cart wov lot sew mis col len lef sbt : Nat → Int32} {shd : Nat → UInt32} {X : zXr} {Y : zYr} {out : Nat → Int64} (hG : zAl G = false) (hc : c ≤ 20) (hr : r ≤ 16) (hw : w ≤ r) (hn : cnt ≤ 16) (a b : Int32) : zRun G mX4_whyNotBegin 0 0 [.ref 1, .int a, .int b] (zHp (c, r, w, lim, tol, cart, wov, lot, sew, mis, cnt, col, len, lef, sbt, shd) X Y out) (.inr (some (.int (if zFr 1 a (nI 20) && zFr 1 b (nI 16) then 0 else 2)))) (zHp (c, r, w, lim, tol, cart, wov, lot, sew, mis, cnt, col, len, lef, sbt, shd) X Y out) := by
  refine zRun_of (by decide +kernel) rfl rfl (Nat.le_of_ble_eq_true rfl) ?_
  suffices hs : ∀ (o9 : zO) (h9 : zH), (Sum.inr (some (.int (if zFr 1 a (nI 20) && zFr 1 b (nI 16) then 0 else 2))) : zO) = o9 → (zHp (c, r, w, lim, tol, cart, wov, lot, sew, mis, cnt, col, len, lef, sbt, shd) X Y out) = h9 → zPW G mX4_whyNotBegin 0 0 o9 h9 0 0 0 [(0, .ref 1), (1, .int a), (2, .int b)] [] (zHp (c, r, w, lim, tol, cart, wov, lot, sew, mis, cnt, col, len, lef, sbt, shd) X Y out) from hs _ _ rfl rfl
  intro o9 h9 ho9 hh9
  refine z_iconst (v := 1) dX4_whyNotBegin_0 (by decide) ?_
  refine z_iload_n 1 dX4_whyNotBegin_1 rfl rfl ?_
  refine z_bipush (v := nI 20) dX4_whyNotBegin_2 (by decide) ?_
  refine z_callSN (N := mX9_isFrom) 3 [.int 1, .int a, .int (nI 20)] [] lX9_isFrom ⟨by decide, zw_493⟩ rfl rfl (Nat.le_of_ble_eq_true rfl) (by decide) ⟨zlt, zlt⟩ hG ⟨Nat.zero_le _, Nat.zero_le _⟩ (c_isFrom hG zlt 1 a (nI 20)) dX4_whyNotBegin_4 ?_
  refine z_if_eq (tgt := 24) dX4_whyNotBegin_7 (by decide) (fun c_7 => ?_) (fun c_7 => ?_)
  · skip
    have b_7 := zB_0.mp c_7
    refine z_iconst (v := 2) dX4_whyNotBegin_24 (by decide) ?_
    exact z_iret rfl dX4_whyNotBegin_25 (zo_i ho9 (by simp [*])) (zo_h hh9 (by rfl)) (Nat.zero_le _) (Nat.zero_le _)
  · skip
    have b_7 := zB_tt c_7
    refine z_iconst (v := 1) dX4_whyNotBegin_10 (by decide) ?_
    refine z_iload_n 2 dX4_whyNotBegin_11 rfl rfl ?_
    refine z_bipush (v := nI 16) dX4_whyNotBegin_12 (by decide) ?_
    refine z_callSN (N := mX9_isFrom) 3 [.int 1, .int b, .int (nI 16)] [] lX9_isFrom ⟨by decide, zw_493⟩ rfl rfl (Nat.le_of_ble_eq_true rfl) (by decide) ⟨zlt, zlt⟩ hG ⟨Nat.zero_le _, Nat.zero_le _⟩ (c_isFrom hG zlt 1 b (nI 16)) dX4_whyNotBegin_14 ?_
    refine z_if_eq (tgt := 24) dX4_whyNotBegin_17 (by decide) (fun c_17 => ?_) (fun c_17 => ?_)
    · skip
      have b_17 := zB_0.mp c_17
      refine z_iconst (v := 2) dX4_whyNotBegin_24 (by decide) ?_
      exact z_iret rfl dX4_whyNotBegin_25 (zo_i ho9 (by simp [*])) (zo_h hh9 (by rfl)) (Nat.zero_le _) (Nat.zero_le _)
    · skip
      have b_17 := zB_tt c_17
      refine z_iconst (v := 0) dX4_whyNotBegin_20 (by decide) ?_
      refine z_goto (tgt := 25) dX4_whyNotBegin_21 (by decide) ?_
      exact z_iret rfl dX4_whyNotBegin_25 (zo_i ho9 (by simp [*])) (zo_h hh9 (by rfl)) (Nat.zero_le _) (Nat.zero_le _)

set_option maxHeartbeats 4000000 in
set_option maxRecDepth 100000 in
theorem c_wnLimit {G : zT} {c r w lim cnt : Nat} {tol : Int32} {cart wov lot sew mis col len lef sbt : Nat → Int32} {shd : Nat → UInt32} {X : zXr} {Y : zYr} {out : Nat → Int64} (hG : zAl G = false) (hc : c ≤ 20) (hr : r ≤ 16) (hw : w ≤ r) (hn : cnt ≤ 16) (a : Int32) : zRun G mX4_whyNotLimit 0 0 [.ref 1, .int a] (zHp (c, r, w, lim, tol, cart, wov, lot, sew, mis, cnt, col, len, lef, sbt, shd) X Y out) (.inr (some (.int (if zFr 1 a (nI 16) then 0 else 2)))) (zHp (c, r, w, lim, tol, cart, wov, lot, sew, mis, cnt, col, len, lef, sbt, shd) X Y out) := by
  refine zRun_of (by decide +kernel) rfl rfl (Nat.le_of_ble_eq_true rfl) ?_
  suffices hs : ∀ (o9 : zO) (h9 : zH), (Sum.inr (some (.int (if zFr 1 a (nI 16) then 0 else 2))) : zO) = o9 → (zHp (c, r, w, lim, tol, cart, wov, lot, sew, mis, cnt, col, len, lef, sbt, shd) X Y out) = h9 → zPW G mX4_whyNotLimit 0 0 o9 h9 0 0 0 [(0, .ref 1), (1, .int a)] [] (zHp (c, r, w, lim, tol, cart, wov, lot, sew, mis, cnt, col, len, lef, sbt, shd) X Y out) from hs _ _ rfl rfl
  intro o9 h9 ho9 hh9
  refine z_iconst (v := 1) dX4_whyNotLimit_0 (by decide) ?_
  refine z_iload_n 1 dX4_whyNotLimit_1 rfl rfl ?_
  refine z_bipush (v := nI 16) dX4_whyNotLimit_2 (by decide) ?_
  refine z_callSN (N := mX9_isFrom) 3 [.int 1, .int a, .int (nI 16)] [] lX9_isFrom ⟨by decide, zw_493⟩ rfl rfl (Nat.le_of_ble_eq_true rfl) (by decide) ⟨zlt, zlt⟩ hG ⟨Nat.zero_le _, Nat.zero_le _⟩ (c_isFrom hG zlt 1 a (nI 16)) dX4_whyNotLimit_4 ?_
  refine z_if_eq (tgt := 14) dX4_whyNotLimit_7 (by decide) (fun c_7 => ?_) (fun c_7 => ?_)
  · skip
    have b_7 := zB_0.mp c_7
    refine z_iconst (v := 2) dX4_whyNotLimit_14 (by decide) ?_
    exact z_iret rfl dX4_whyNotLimit_15 (zo_i ho9 (by simp [*])) (zo_h hh9 (by rfl)) (Nat.zero_le _) (Nat.zero_le _)
  · skip
    have b_7 := zB_tt c_7
    refine z_iconst (v := 0) dX4_whyNotLimit_10 (by decide) ?_
    refine z_goto (tgt := 15) dX4_whyNotLimit_11 (by decide) ?_
    exact z_iret rfl dX4_whyNotLimit_15 (zo_i ho9 (by simp [*])) (zo_h hh9 (by rfl)) (Nat.zero_le _) (Nat.zero_le _)

set_option maxHeartbeats 4000000 in
set_option maxRecDepth 100000 in
theorem c_wnWeave {G : zT} {c r w lim cnt : Nat} {tol : Int32} {cart wov lot sew mis col len lef sbt : Nat → Int32} {shd : Nat → UInt32} {X : zXr} {Y : zYr} {out : Nat → Int64} (hG : zAl G = false) (hc : c ≤ 20) (hr : r ≤ 16) (hw : w ≤ r) (hn : cnt ≤ 16) (a : Int32) : zRun G mX4_whyNotWeave 0 0 [.ref 1, .int a] (zHp (c, r, w, lim, tol, cart, wov, lot, sew, mis, cnt, col, len, lef, sbt, shd) X Y out) (.inr (some (.int (if zFr 1 a (nI 16) then 0 else 2)))) (zHp (c, r, w, lim, tol, cart, wov, lot, sew, mis, cnt, col, len, lef, sbt, shd) X Y out) := by
  refine zRun_of (by decide +kernel) rfl rfl (Nat.le_of_ble_eq_true rfl) ?_
  suffices hs : ∀ (o9 : zO) (h9 : zH), (Sum.inr (some (.int (if zFr 1 a (nI 16) then 0 else 2))) : zO) = o9 → (zHp (c, r, w, lim, tol, cart, wov, lot, sew, mis, cnt, col, len, lef, sbt, shd) X Y out) = h9 → zPW G mX4_whyNotWeave 0 0 o9 h9 0 0 0 [(0, .ref 1), (1, .int a)] [] (zHp (c, r, w, lim, tol, cart, wov, lot, sew, mis, cnt, col, len, lef, sbt, shd) X Y out) from hs _ _ rfl rfl
  intro o9 h9 ho9 hh9
  refine z_iconst (v := 1) dX4_whyNotWeave_0 (by decide) ?_
  refine z_iload_n 1 dX4_whyNotWeave_1 rfl rfl ?_
  refine z_bipush (v := nI 16) dX4_whyNotWeave_2 (by decide) ?_
  refine z_callSN (N := mX9_isFrom) 3 [.int 1, .int a, .int (nI 16)] [] lX9_isFrom ⟨by decide, zw_493⟩ rfl rfl (Nat.le_of_ble_eq_true rfl) (by decide) ⟨zlt, zlt⟩ hG ⟨Nat.zero_le _, Nat.zero_le _⟩ (c_isFrom hG zlt 1 a (nI 16)) dX4_whyNotWeave_4 ?_
  refine z_if_eq (tgt := 14) dX4_whyNotWeave_7 (by decide) (fun c_7 => ?_) (fun c_7 => ?_)
  · skip
    have b_7 := zB_0.mp c_7
    refine z_iconst (v := 2) dX4_whyNotWeave_14 (by decide) ?_
    exact z_iret rfl dX4_whyNotWeave_15 (zo_i ho9 (by simp [*])) (zo_h hh9 (by rfl)) (Nat.zero_le _) (Nat.zero_le _)
  · skip
    have b_7 := zB_tt c_7
    refine z_iconst (v := 0) dX4_whyNotWeave_10 (by decide) ?_
    refine z_goto (tgt := 15) dX4_whyNotWeave_11 (by decide) ?_
    exact z_iret rfl dX4_whyNotWeave_15 (zo_i ho9 (by simp [*])) (zo_h hh9 (by rfl)) (Nat.zero_le _) (Nat.zero_le _)

set_option maxHeartbeats 4000000 in
set_option maxRecDepth 100000 in
theorem c_wnUnweave {G : zT} {c r w lim cnt : Nat} {tol : Int32} {cart wov lot sew mis col len lef sbt : Nat → Int32} {shd : Nat → UInt32} {X : zXr} {Y : zYr} {out : Nat → Int64} (hG : zAl G = false) (hc : c ≤ 20) (hr : r ≤ 16) (hw : w ≤ r) (hn : cnt ≤ 16) (a : Int32) : zRun G mX4_whyNotUnweave 0 0 [.ref 1, .int a] (zHp (c, r, w, lim, tol, cart, wov, lot, sew, mis, cnt, col, len, lef, sbt, shd) X Y out) (.inr (some (.int (if zFr 1 a (nI 16) then (if nI w < a then 3 else 0) else 2)))) (zHp (c, r, w, lim, tol, cart, wov, lot, sew, mis, cnt, col, len, lef, sbt, shd) X Y out) := by
  refine zRun_of (by decide +kernel) rfl rfl (Nat.le_of_ble_eq_true rfl) ?_
  suffices hs : ∀ (o9 : zO) (h9 : zH), (Sum.inr (some (.int (if zFr 1 a (nI 16) then (if nI w < a then 3 else 0) else 2))) : zO) = o9 → (zHp (c, r, w, lim, tol, cart, wov, lot, sew, mis, cnt, col, len, lef, sbt, shd) X Y out) = h9 → zPW G mX4_whyNotUnweave 0 0 o9 h9 0 0 0 [(0, .ref 1), (1, .int a)] [] (zHp (c, r, w, lim, tol, cart, wov, lot, sew, mis, cnt, col, len, lef, sbt, shd) X Y out) from hs _ _ rfl rfl
  intro o9 h9 ho9 hh9
  refine z_iconst (v := 1) dX4_whyNotUnweave_0 (by decide) ?_
  refine z_iload_n 1 dX4_whyNotUnweave_1 rfl rfl ?_
  refine z_bipush (v := nI 16) dX4_whyNotUnweave_2 (by decide) ?_
  refine z_callSN (N := mX9_isFrom) 3 [.int 1, .int a, .int (nI 16)] [] lX9_isFrom ⟨by decide, zw_493⟩ rfl rfl (Nat.le_of_ble_eq_true rfl) (by decide) ⟨zlt, zlt⟩ hG ⟨Nat.zero_le _, Nat.zero_le _⟩ (c_isFrom hG zlt 1 a (nI 16)) dX4_whyNotUnweave_4 ?_
  refine z_if_ne (tgt := 12) dX4_whyNotUnweave_7 (by decide) (fun c_7 => ?_) (fun c_7 => ?_)
  · skip
    have b_7 := zB_tt c_7
    refine z_iload_n 1 dX4_whyNotUnweave_12 rfl rfl ?_
    refine z_aload_n 0 dX4_whyNotUnweave_13 rfl rfl ?_
    refine z_get (v := .int (nI w)) 2 zgo_1 rfl inX4 (by decide) zw_134 rfl rfl dX4_whyNotUnweave_14 ?_
    refine z_icmp_gt (tgt := 24) dX4_whyNotUnweave_17 (by decide) (fun c_17 => ?_) (fun c_17 => ?_)
    · skip
      refine z_iconst (v := 3) dX4_whyNotUnweave_24 (by decide) ?_
      exact z_iret rfl dX4_whyNotUnweave_25 (zo_i ho9 (by simp [*])) (zo_h hh9 (by rfl)) (Nat.zero_le _) (Nat.zero_le _)
    · skip
      refine z_iconst (v := 0) dX4_whyNotUnweave_20 (by decide) ?_
      refine z_goto (tgt := 25) dX4_whyNotUnweave_21 (by decide) ?_
      exact z_iret rfl dX4_whyNotUnweave_25 (zo_i ho9 (by simp [*])) (zo_h hh9 (by rfl)) (Nat.zero_le _) (Nat.zero_le _)
  · skip
    have b_7 := zB_0.mp c_7
    refine z_iconst (v := 2) dX4_whyNotUnweave_10 (by decide) ?_
    exact z_iret rfl dX4_whyNotUnweave_11 (zo_i ho9 (by simp [*])) (zo_h hh9 (by rfl)) (Nat.zero_le _) (Nat.zero_le _)

set_option maxHeartbeats 4000000 in
set_option maxRecDepth 100000 in
theorem c_wnFill {G : zT} {c r w lim cnt : Nat} {tol : Int32} {cart wov lot sew mis col len lef sbt : Nat → Int32} {shd : Nat → UInt32} {X : zXr} {Y : zYr} {out : Nat → Int64} (hG : zAl G = false) (hc : c ≤ 20) (hr : r ≤ 16) (hw : w ≤ r) (hn : cnt ≤ 16) (x y u v k : Int32) : zRun G mX4_whyNotFill 0 0 [.ref 1, .int x, .int y, .int u, .int v, .int k] (zHp (c, r, w, lim, tol, cart, wov, lot, sew, mis, cnt, col, len, lef, sbt, shd) X Y out) (.inr (some (.int (if (zFr 0 x (nI c - 1) && zFr 0 y (nI r - 1)) && (zFr 0 u (nI c - 1) && zFr 0 v (nI r - 1)) then (if u < x then 2 else if v < y then 2 else if zFr 0 k 7 then 0 else 2) else 1)))) (zHp (c, r, w, lim, tol, cart, wov, lot, sew, mis, cnt, col, len, lef, sbt, shd) X Y out) := by
  refine zRun_of (by decide +kernel) rfl rfl (Nat.le_of_ble_eq_true rfl) ?_
  suffices hs : ∀ (o9 : zO) (h9 : zH), (Sum.inr (some (.int (if (zFr 0 x (nI c - 1) && zFr 0 y (nI r - 1)) && (zFr 0 u (nI c - 1) && zFr 0 v (nI r - 1)) then (if u < x then 2 else if v < y then 2 else if zFr 0 k 7 then 0 else 2) else 1))) : zO) = o9 → (zHp (c, r, w, lim, tol, cart, wov, lot, sew, mis, cnt, col, len, lef, sbt, shd) X Y out) = h9 → zPW G mX4_whyNotFill 0 0 o9 h9 0 0 0 [(0, .ref 1), (1, .int x), (2, .int y), (3, .int u), (4, .int v), (5, .int k)] [] (zHp (c, r, w, lim, tol, cart, wov, lot, sew, mis, cnt, col, len, lef, sbt, shd) X Y out) from hs _ _ rfl rfl
  intro o9 h9 ho9 hh9
  refine z_aload_n 0 dX4_whyNotFill_0 rfl rfl ?_
  refine z_iload_n 1 dX4_whyNotFill_1 rfl rfl ?_
  refine z_iload_n 2 dX4_whyNotFill_2 rfl rfl ?_
  refine z_callV (N := mX4_hasCell) 2 [.int x, .int y] [] lX4_hasCell ⟨zw_653, zw_654, zw_655⟩ rfl zgo_1 rfl rfl (Nat.le_of_ble_eq_true rfl) (by decide) ⟨zlt, zlt⟩ ⟨Nat.zero_le _, Nat.zero_le _⟩ (fun _ => rfl) (c_hasCell hG hc hr hw hn x y) dX4_whyNotFill_3 ?_
  refine z_if_eq (tgt := 19) dX4_whyNotFill_6 (by decide) (fun c_6 => ?_) (fun c_6 => ?_)
  · skip
    have b_6 := zB_0.mp c_6
    refine z_iconst (v := 1) dX4_whyNotFill_19 (by decide) ?_
    exact z_iret rfl dX4_whyNotFill_20 (zo_i ho9 (by simp only [*, if_true, if_false, Bool.true_and, Bool.and_true, Bool.false_and, Bool.and_false, Bool.false_eq_true])) (zo_h hh9 (by rfl)) (Nat.zero_le _) (Nat.zero_le _)
  · skip
    have b_6 := zB_tt c_6
    refine z_aload_n 0 dX4_whyNotFill_9 rfl rfl ?_
    refine z_iload_n 3 dX4_whyNotFill_10 rfl rfl ?_
    refine z_iload 4 dX4_whyNotFill_11 rfl ?_
    refine z_callV (N := mX4_hasCell) 2 [.int u, .int v] [] lX4_hasCell ⟨zw_653, zw_654, zw_655⟩ rfl zgo_1 rfl rfl (Nat.le_of_ble_eq_true rfl) (by decide) ⟨zlt, zlt⟩ ⟨Nat.zero_le _, Nat.zero_le _⟩ (fun _ => rfl) (c_hasCell hG hc hr hw hn u v) dX4_whyNotFill_13 ?_
    refine z_if_ne (tgt := 21) dX4_whyNotFill_16 (by decide) (fun c_16 => ?_) (fun c_16 => ?_)
    · skip
      have b_16 := zB_tt c_16
      refine z_iload_n 3 dX4_whyNotFill_21 rfl rfl ?_
      refine z_iload_n 1 dX4_whyNotFill_22 rfl rfl ?_
      refine z_icmp_lt (tgt := 44) dX4_whyNotFill_23 (by decide) (fun c_23 => ?_) (fun c_23 => ?_)
      · skip
        refine z_iconst (v := 2) dX4_whyNotFill_44 (by decide) ?_
        exact z_iret rfl dX4_whyNotFill_45 (zo_i ho9 (by simp only [*, if_true, if_false, Bool.true_and, Bool.and_true, Bool.false_and, Bool.and_false, Bool.false_eq_true])) (zo_h hh9 (by rfl)) (Nat.zero_le _) (Nat.zero_le _)
      · skip
        refine z_iload 4 dX4_whyNotFill_26 rfl ?_
        refine z_iload_n 2 dX4_whyNotFill_28 rfl rfl ?_
        refine z_icmp_lt (tgt := 44) dX4_whyNotFill_29 (by decide) (fun c_29 => ?_) (fun c_29 => ?_)
        · skip
          refine z_iconst (v := 2) dX4_whyNotFill_44 (by decide) ?_
          exact z_iret rfl dX4_whyNotFill_45 (zo_i ho9 (by simp only [*, if_true, if_false, Bool.true_and, Bool.and_true, Bool.false_and, Bool.and_false, Bool.false_eq_true])) (zo_h hh9 (by rfl)) (Nat.zero_le _) (Nat.zero_le _)
        · skip
          refine z_iload 5 dX4_whyNotFill_32 rfl ?_
          refine z_callSN (N := mX9_isColor) 1 [.int k] [] lX9_isColor ⟨by decide, zw_658⟩ rfl rfl (Nat.le_of_ble_eq_true rfl) (by decide) ⟨zlt, zlt⟩ hG ⟨Nat.zero_le _, Nat.zero_le _⟩ (c_isColor hG zlt k) dX4_whyNotFill_34 ?_
          refine z_if_eq (tgt := 44) dX4_whyNotFill_37 (by decide) (fun c_37 => ?_) (fun c_37 => ?_)
          · skip
            have b_37 := zB_0.mp c_37
            refine z_iconst (v := 2) dX4_whyNotFill_44 (by decide) ?_
            exact z_iret rfl dX4_whyNotFill_45 (zo_i ho9 (by simp only [*, if_true, if_false, Bool.true_and, Bool.and_true, Bool.false_and, Bool.and_false, Bool.false_eq_true])) (zo_h hh9 (by rfl)) (Nat.zero_le _) (Nat.zero_le _)
          · skip
            have b_37 := zB_tt c_37
            refine z_iconst (v := 0) dX4_whyNotFill_40 (by decide) ?_
            refine z_goto (tgt := 45) dX4_whyNotFill_41 (by decide) ?_
            exact z_iret rfl dX4_whyNotFill_45 (zo_i ho9 (by simp only [*, if_true, if_false, Bool.true_and, Bool.and_true, Bool.false_and, Bool.and_false, Bool.false_eq_true])) (zo_h hh9 (by rfl)) (Nat.zero_le _) (Nat.zero_le _)
    · skip
      have b_16 := zB_0.mp c_16
      refine z_iconst (v := 1) dX4_whyNotFill_19 (by decide) ?_
      exact z_iret rfl dX4_whyNotFill_20 (zo_i ho9 (by simp only [*, if_true, if_false, Bool.true_and, Bool.and_true, Bool.false_and, Bool.and_false, Bool.false_eq_true])) (zo_h hh9 (by rfl)) (Nat.zero_le _) (Nat.zero_le _)

set_option maxHeartbeats 4000000 in
set_option maxRecDepth 100000 in
theorem c_wnPlant {G : zT} {c r w lim cnt : Nat} {tol : Int32} {cart wov lot sew mis col len lef sbt : Nat → Int32} {shd : Nat → UInt32} {X : zXr} {Y : zYr} {out : Nat → Int64} (hG : zAl G = false) (hc : c ≤ 20) (hr : r ≤ 16) (hw : w ≤ r) (hn : cnt ≤ 16) (b k : Int32) : zRun G mX4_whyNotPlant 0 0 [.ref 1, .int b, .int k] (zHp (c, r, w, lim, tol, cart, wov, lot, sew, mis, cnt, col, len, lef, sbt, shd) X Y out) (.inr (some (.int (if zFr 0 b (nI c - 1) then (if zFr 0 k 7 then 0 else 2) else 1)))) (zHp (c, r, w, lim, tol, cart, wov, lot, sew, mis, cnt, col, len, lef, sbt, shd) X Y out) := by
  refine zRun_of (by decide +kernel) rfl rfl (Nat.le_of_ble_eq_true rfl) ?_
  suffices hs : ∀ (o9 : zO) (h9 : zH), (Sum.inr (some (.int (if zFr 0 b (nI c - 1) then (if zFr 0 k 7 then 0 else 2) else 1))) : zO) = o9 → (zHp (c, r, w, lim, tol, cart, wov, lot, sew, mis, cnt, col, len, lef, sbt, shd) X Y out) = h9 → zPW G mX4_whyNotPlant 0 0 o9 h9 0 0 0 [(0, .ref 1), (1, .int b), (2, .int k)] [] (zHp (c, r, w, lim, tol, cart, wov, lot, sew, mis, cnt, col, len, lef, sbt, shd) X Y out) from hs _ _ rfl rfl
  intro o9 h9 ho9 hh9
  refine z_iconst (v := 0) dX4_whyNotPlant_0 (by decide) ?_
  refine z_iload_n 1 dX4_whyNotPlant_1 rfl rfl ?_
  refine z_aload_n 0 dX4_whyNotPlant_2 rfl rfl ?_
  refine z_get (v := .int (nI c)) 0 zgo_1 rfl inX4 (by decide) zw_130 rfl rfl dX4_whyNotPlant_3 ?_
  refine z_iconst (v := 1) dX4_whyNotPlant_6 (by decide) ?_
  refine z_isub dX4_whyNotPlant_7 ?_
  refine z_callSN (N := mX9_isFrom) 3 [.int 0, .int b, .int ((nI c) - 1)] [] lX9_isFrom ⟨by decide, zw_493⟩ rfl rfl (Nat.le_of_ble_eq_true rfl) (by decide) ⟨zlt, zlt⟩ hG ⟨Nat.zero_le _, Nat.zero_le _⟩ (c_isFrom hG zlt 0 b ((nI c) - 1)) dX4_whyNotPlant_8 ?_
  refine z_if_ne (tgt := 16) dX4_whyNotPlant_11 (by decide) (fun c_11 => ?_) (fun c_11 => ?_)
  · skip
    have b_11 := zB_tt c_11
    refine z_iload_n 2 dX4_whyNotPlant_16 rfl rfl ?_
    refine z_callSN (N := mX9_isColor) 1 [.int k] [] lX9_isColor ⟨by decide, zw_658⟩ rfl rfl (Nat.le_of_ble_eq_true rfl) (by decide) ⟨zlt, zlt⟩ hG ⟨Nat.zero_le _, Nat.zero_le _⟩ (c_isColor hG zlt k) dX4_whyNotPlant_17 ?_
    refine z_if_eq (tgt := 27) dX4_whyNotPlant_20 (by decide) (fun c_20 => ?_) (fun c_20 => ?_)
    · skip
      have b_20 := zB_0.mp c_20
      refine z_iconst (v := 2) dX4_whyNotPlant_27 (by decide) ?_
      exact z_iret rfl dX4_whyNotPlant_28 (zo_i ho9 (by simp [*])) (zo_h hh9 (by rfl)) (Nat.zero_le _) (Nat.zero_le _)
    · skip
      have b_20 := zB_tt c_20
      refine z_iconst (v := 0) dX4_whyNotPlant_23 (by decide) ?_
      refine z_goto (tgt := 28) dX4_whyNotPlant_24 (by decide) ?_
      exact z_iret rfl dX4_whyNotPlant_28 (zo_i ho9 (by simp [*])) (zo_h hh9 (by rfl)) (Nat.zero_le _) (Nat.zero_le _)
  · skip
    have b_11 := zB_0.mp c_11
    refine z_iconst (v := 1) dX4_whyNotPlant_14 (by decide) ?_
    exact z_iret rfl dX4_whyNotPlant_15 (zo_i ho9 (by simp [*])) (zo_h hh9 (by rfl)) (Nat.zero_le _) (Nat.zero_le _)

set_option maxHeartbeats 4000000 in
set_option maxRecDepth 100000 in
theorem c_wnSew {G : zT} {c r w lim cnt : Nat} {tol : Int32} {cart wov lot sew mis col len lef sbt : Nat → Int32} {shd : Nat → UInt32} {X : zXr} {Y : zYr} {out : Nat → Int64} (hG : zAl G = false) (hc : c ≤ 20) (hr : r ≤ 16) (hw : w ≤ r) (hn : cnt ≤ 16) (hl : lim ≤ 16) (ix : Int32) : zRun G mX4_whyNotSew 0 0 [.ref 1, .int ix] (zHp (c, r, w, lim, tol, cart, wov, lot, sew, mis, cnt, col, len, lef, sbt, shd) X Y out) (.inr (some (.int (if zSp wov c w lim ix = -1 then 1 else if zAt sew (zSp wov c w lim ix / nI 16) (zSp wov c w lim ix - zSp wov c w lim ix / nI 16 * nI 16) == 1 then 3 else 0)))) (zHp (c, r, w, lim, tol, cart, wov, lot, sew, mis, cnt, col, len, lef, sbt, shd) X Y out) := by
  refine zRun_of (by decide +kernel) rfl rfl (Nat.le_of_ble_eq_true rfl) ?_
  suffices hs : ∀ (o9 : zO) (h9 : zH), (Sum.inr (some (.int (if zSp wov c w lim ix = -1 then 1 else if zAt sew (zSp wov c w lim ix / nI 16) (zSp wov c w lim ix - zSp wov c w lim ix / nI 16 * nI 16) == 1 then 3 else 0))) : zO) = o9 → (zHp (c, r, w, lim, tol, cart, wov, lot, sew, mis, cnt, col, len, lef, sbt, shd) X Y out) = h9 → zPW G mX4_whyNotSew 0 0 o9 h9 0 0 0 [(0, .ref 1), (1, .int ix)] [] (zHp (c, r, w, lim, tol, cart, wov, lot, sew, mis, cnt, col, len, lef, sbt, shd) X Y out) from hs _ _ rfl rfl
  intro o9 h9 ho9 hh9
  refine z_aload_n 0 dX4_whyNotSew_0 rfl rfl ?_
  refine z_iload_n 1 dX4_whyNotSew_1 rfl rfl ?_
  refine z_callV (N := mX4_slitPlace) 1 [.int ix] [] lX4_slitPlace ⟨zw_794, zw_795, zw_796⟩ rfl zgo_1 rfl rfl (Nat.le_of_ble_eq_true rfl) (by decide) ⟨zlt, zlt⟩ ⟨Nat.zero_le _, Nat.zero_le _⟩ (fun _ => rfl) (c_slitPlace hG hc hr hw hn hl ix) dX4_whyNotSew_2 ?_
  refine z_istore_n (lv' := [(2, .int (zSp wov c w lim ix)), (0, .ref 1), (1, .int ix)]) dX4_whyNotSew_5 rfl (by decide) rfl ?_
  refine z_iload_n 0 dX4_whyNotSew_6 rfl rfl ?_
  refine z_iconst (v := (-1)) dX4_whyNotSew_7 (by decide) ?_
  refine z_icmp_ne (tgt := 13) dX4_whyNotSew_8 (by decide) (fun c_8 => ?_) (fun c_8 => ?_)
  · skip
    refine z_aload_n 1 dX4_whyNotSew_13 rfl rfl ?_
    refine z_iload_n 0 dX4_whyNotSew_14 rfl rfl ?_
    refine z_bipush (v := nI 16) dX4_whyNotSew_15 (by decide) ?_
    refine z_idiv dX4_whyNotSew_17 (by decide) ?_
    refine z_iload_n 0 dX4_whyNotSew_18 rfl rfl ?_
    refine z_bipush (v := nI 16) dX4_whyNotSew_19 (by decide) ?_
    refine z_irem dX4_whyNotSew_21 (by decide) ?_
    refine z_callV (N := mX4_isSewn) 2 [.int ((zSp wov c w lim ix) / (nI 16)), .int ((zSp wov c w lim ix) - (zSp wov c w lim ix) / (nI 16) * (nI 16))] [] lX4_isSewn ⟨zw_305, zw_307, zw_7⟩ rfl zgo_1 rfl rfl (Nat.le_of_ble_eq_true rfl) (by decide) ⟨zlt, zlt⟩ ⟨Nat.zero_le _, Nat.zero_le _⟩ (fun _ => rfl) (c_isSewn hG hc hr hw hn ((zSp wov c w lim ix) / (nI 16)) ((zSp wov c w lim ix) - (zSp wov c w lim ix) / (nI 16) * (nI 16))) dX4_whyNotSew_22 ?_
    refine z_if_eq (tgt := 32) dX4_whyNotSew_25 (by decide) (fun c_25 => ?_) (fun c_25 => ?_)
    · skip
      have b_25 := zB_0.mp c_25
      refine z_iconst (v := 0) dX4_whyNotSew_32 (by decide) ?_
      exact z_iret rfl dX4_whyNotSew_33 (zo_i ho9 (by simp only [*, if_true, if_false, Bool.false_eq_true])) (zo_h hh9 (by rfl)) (Nat.zero_le _) (Nat.zero_le _)
    · skip
      have b_25 := zB_tt c_25
      refine z_iconst (v := 3) dX4_whyNotSew_28 (by decide) ?_
      refine z_goto (tgt := 33) dX4_whyNotSew_29 (by decide) ?_
      exact z_iret rfl dX4_whyNotSew_33 (zo_i ho9 (by simp only [*, if_true, if_false, Bool.false_eq_true])) (zo_h hh9 (by rfl)) (Nat.zero_le _) (Nat.zero_le _)
  · skip
    refine z_iconst (v := 1) dX4_whyNotSew_11 (by decide) ?_
    exact z_iret rfl dX4_whyNotSew_12 (zo_i ho9 (by simp only [*, if_true, if_false, Bool.false_eq_true])) (zo_h hh9 (by rfl)) (Nat.zero_le _) (Nat.zero_le _)

set_option maxHeartbeats 4000000 in
set_option maxRecDepth 100000 in
theorem c_isShade {G : zT} {h : zH} (hG : zAl G = false) (hlen : h.length < 1000) (v : Int32) : zRun G mX7_isShade 0 0 [.int v] h (.inr (some (.int (zB ((v == -2147483648) || zFr 0 v 1120403456))))) h := by
  refine zRun_of (by decide +kernel) rfl rfl (Nat.le_of_ble_eq_true rfl) ?_
  suffices hs : ∀ (o9 : zO) (h9 : zH), (Sum.inr (some (.int (zB ((v == -2147483648) || zFr 0 v 1120403456)))) : zO) = o9 → h = h9 → zPW G mX7_isShade 0 0 o9 h9 0 0 0 [(0, .int v)] [] h from hs _ _ rfl rfl
  intro o9 h9 ho9 hh9
  refine z_iload_n 0 dX7_isShade_0 rfl rfl ?_
  refine z_ldc zw_685 dX7_isShade_1 ?_
  refine z_icmp_eq (tgt := 16) dX7_isShade_3 (by decide) (fun c_3 => ?_) (fun c_3 => ?_)
  · skip
    refine z_iconst (v := 1) dX7_isShade_16 (by decide) ?_
    refine z_goto (tgt := 21) dX7_isShade_17 (by decide) ?_
    exact z_zret rfl (by rfl) dX7_isShade_21 (zo_i ho9 (by simp [zB, *])) (zo_h hh9 (by rfl)) (Nat.zero_le _) (Nat.zero_le _)
  · skip
    refine z_iconst (v := 0) dX7_isShade_6 (by decide) ?_
    refine z_iload_n 0 dX7_isShade_7 rfl rfl ?_
    refine z_ldc zw_686 dX7_isShade_8 ?_
    refine z_callSN (N := mX9_isFrom) 3 [.int 0, .int v, .int 1120403456] [] lX9_isFrom ⟨by decide, zw_493⟩ rfl rfl (Nat.le_of_ble_eq_true rfl) (by decide) ⟨hlen, hlen⟩ hG ⟨Nat.zero_le _, Nat.zero_le _⟩ (c_isFrom hG hlen 0 v 1120403456) dX7_isShade_10 ?_
    refine z_if_eq (tgt := 20) dX7_isShade_13 (by decide) (fun c_13 => ?_) (fun c_13 => ?_)
    · skip
      have b_13 := zB_0.mp c_13
      refine z_iconst (v := 0) dX7_isShade_20 (by decide) ?_
      exact z_zret rfl (by rfl) dX7_isShade_21 (zo_i ho9 (by simp [zB, *])) (zo_h hh9 (by rfl)) (Nat.zero_le _) (Nat.zero_le _)
    · skip
      have b_13 := zB_tt c_13
      refine z_iconst (v := 1) dX7_isShade_16 (by decide) ?_
      refine z_goto (tgt := 21) dX7_isShade_17 (by decide) ?_
      exact z_zret rfl (by rfl) dX7_isShade_21 (zo_i ho9 (by simp [zB, *])) (zo_h hh9 (by rfl)) (Nat.zero_le _) (Nat.zero_le _)

set_option maxHeartbeats 4000000 in
set_option maxRecDepth 100000 in
theorem c_wnAddLot {G : zT} {c r w lim cnt : Nat} {tol : Int32} {cart wov lot sew mis col len lef sbt : Nat → Int32} {shd : Nat → UInt32} {X : zXr} {Y : zYr} {out : Nat → Int64} (hG : zAl G = false) (hc : c ≤ 20) (hr : r ≤ 16) (hw : w ≤ r) (hn : cnt ≤ 16) (k l s : Int32) : zRun G mX4_whyNotAddLot 0 0 [.ref 1, .int k, .int l, .int s] (zHp (c, r, w, lim, tol, cart, wov, lot, sew, mis, cnt, col, len, lef, sbt, shd) X Y out) (.inr (some (.int (if zFr 0 k 7 && (zFr 1 l (nI 999) && ((s == -2147483648) || zFr 0 s 1120403456)) then (if nI 16 ≤ nI cnt then 3 else 0) else 2)))) (zHp (c, r, w, lim, tol, cart, wov, lot, sew, mis, cnt, col, len, lef, sbt, shd) X Y out) := by
  refine zRun_of (by decide +kernel) rfl rfl (Nat.le_of_ble_eq_true rfl) ?_
  suffices hs : ∀ (o9 : zO) (h9 : zH), (Sum.inr (some (.int (if zFr 0 k 7 && (zFr 1 l (nI 999) && ((s == -2147483648) || zFr 0 s 1120403456)) then (if nI 16 ≤ nI cnt then 3 else 0) else 2))) : zO) = o9 → (zHp (c, r, w, lim, tol, cart, wov, lot, sew, mis, cnt, col, len, lef, sbt, shd) X Y out) = h9 → zPW G mX4_whyNotAddLot 0 0 o9 h9 0 0 0 [(0, .ref 1), (1, .int k), (2, .int l), (3, .int s)] [] (zHp (c, r, w, lim, tol, cart, wov, lot, sew, mis, cnt, col, len, lef, sbt, shd) X Y out) from hs _ _ rfl rfl
  intro o9 h9 ho9 hh9
  refine z_iload_n 1 dX4_whyNotAddLot_0 rfl rfl ?_
  refine z_callSN (N := mX9_isColor) 1 [.int k] [] lX9_isColor ⟨by decide, zw_658⟩ rfl rfl (Nat.le_of_ble_eq_true rfl) (by decide) ⟨zlt, zlt⟩ hG ⟨Nat.zero_le _, Nat.zero_le _⟩ (c_isColor hG zlt k) dX4_whyNotAddLot_1 ?_
  refine z_if_eq (tgt := 25) dX4_whyNotAddLot_4 (by decide) (fun c_4 => ?_) (fun c_4 => ?_)
  · skip
    have b_4 := zB_0.mp c_4
    refine z_iconst (v := 2) dX4_whyNotAddLot_25 (by decide) ?_
    exact z_iret rfl dX4_whyNotAddLot_26 (zo_i ho9 (by simp only [*, if_true, if_false, Bool.true_and, Bool.and_true, Bool.false_and, Bool.and_false, Bool.false_eq_true])) (zo_h hh9 (by rfl)) (Nat.zero_le _) (Nat.zero_le _)
  · skip
    have b_4 := zB_tt c_4
    refine z_iconst (v := 1) dX4_whyNotAddLot_7 (by decide) ?_
    refine z_iload_n 2 dX4_whyNotAddLot_8 rfl rfl ?_
    refine z_sipush (v := nI 999) dX4_whyNotAddLot_9 (by decide) ?_
    refine z_callSN (N := mX9_isFrom) 3 [.int 1, .int l, .int (nI 999)] [] lX9_isFrom ⟨by decide, zw_493⟩ rfl rfl (Nat.le_of_ble_eq_true rfl) (by decide) ⟨zlt, zlt⟩ hG ⟨Nat.zero_le _, Nat.zero_le _⟩ (c_isFrom hG zlt 1 l (nI 999)) dX4_whyNotAddLot_12 ?_
    refine z_if_eq (tgt := 25) dX4_whyNotAddLot_15 (by decide) (fun c_15 => ?_) (fun c_15 => ?_)
    · skip
      have b_15 := zB_0.mp c_15
      refine z_iconst (v := 2) dX4_whyNotAddLot_25 (by decide) ?_
      exact z_iret rfl dX4_whyNotAddLot_26 (zo_i ho9 (by simp only [*, if_true, if_false, Bool.true_and, Bool.and_true, Bool.false_and, Bool.and_false, Bool.false_eq_true])) (zo_h hh9 (by rfl)) (Nat.zero_le _) (Nat.zero_le _)
    · skip
      have b_15 := zB_tt c_15
      refine z_iload_n 3 dX4_whyNotAddLot_18 rfl rfl ?_
      refine z_callSO (N := mX7_isShade) 1 [.int s] [] lX7_isShade ⟨zw_682, zw_683⟩ rfl rfl (Nat.le_of_ble_eq_true rfl) (by decide) ⟨zlt, zlt⟩ hG ⟨Nat.zero_le _, Nat.zero_le _⟩ (c_isShade hG zlt s) dX4_whyNotAddLot_19 ?_
      refine z_if_ne (tgt := 27) dX4_whyNotAddLot_22 (by decide) (fun c_22 => ?_) (fun c_22 => ?_)
      · skip
        have b_22 := zB_tt c_22
        refine z_aload_n 0 dX4_whyNotAddLot_27 rfl rfl ?_
        refine z_get (v := .ref 12) 10 zgo_1 rfl inX4 (by decide) zw_145 rfl rfl dX4_whyNotAddLot_28 ?_
        refine z_getN (v := .int (nI cnt)) 0 zgo_12 rfl inX5 (by decide) (by decide) rfl rfl dX4_whyNotAddLot_31 ?_
        refine z_bipush (v := nI 16) dX4_whyNotAddLot_34 (by decide) ?_
        refine z_icmp_ge (tgt := 43) dX4_whyNotAddLot_36 (by decide) (fun c_36 => ?_) (fun c_36 => ?_)
        · skip
          refine z_iconst (v := 3) dX4_whyNotAddLot_43 (by decide) ?_
          exact z_iret rfl dX4_whyNotAddLot_44 (zo_i ho9 (by simp only [*, if_true, if_false, Bool.true_and, Bool.and_true, Bool.false_and, Bool.and_false, Bool.false_eq_true])) (zo_h hh9 (by rfl)) (Nat.zero_le _) (Nat.zero_le _)
        · skip
          refine z_iconst (v := 0) dX4_whyNotAddLot_39 (by decide) ?_
          refine z_goto (tgt := 44) dX4_whyNotAddLot_40 (by decide) ?_
          exact z_iret rfl dX4_whyNotAddLot_44 (zo_i ho9 (by simp only [*, if_true, if_false, Bool.true_and, Bool.and_true, Bool.false_and, Bool.and_false, Bool.false_eq_true])) (zo_h hh9 (by rfl)) (Nat.zero_le _) (Nat.zero_le _)
      · skip
        have b_22 := zB_0.mp c_22
        refine z_iconst (v := 2) dX4_whyNotAddLot_25 (by decide) ?_
        exact z_iret rfl dX4_whyNotAddLot_26 (zo_i ho9 (by simp only [*, if_true, if_false, Bool.true_and, Bool.and_true, Bool.false_and, Bool.and_false, Bool.false_eq_true])) (zo_h hh9 (by rfl)) (Nat.zero_le _) (Nat.zero_le _)

def zUwR (lot : Nat → Int32) (c a : Nat) (l : Nat → Int32) : Nat → Int32 := zIt (fun b l => zGb l (zAt lot (nI b) (nI a))) c l
/-- n rows are taken away, the latest first -/
def zUw (lot : Nat → Int32) (c w : Nat) : Nat → (Nat → Int32) → (Nat → Int32)
  | 0, l => l
  | n + 1, l => zUwR lot c (w - (n + 1)) (zUw lot c w n l)

set_option maxHeartbeats 4000000 in
set_option maxRecDepth 100000 in
theorem c_unweaveRows {G : zT} {c r w lim cnt : Nat} {tol : Int32} {cart wov lot sew mis col len lef sbt : Nat → Int32} {shd : Nat → UInt32} {X : zXr} {Y : zYr} {out : Nat → Int64} (hG : zAl G = false) (hc : c ≤ 20) (hr : r ≤ 16) (hw : w ≤ r) (hn : cnt ≤ 16) (hl : lim ≤ 16) (n : Nat) (hn9 : n ≤ w) : zRun G mX4_unweaveRows 0 0 [.ref 1, .int (nI n)] (zHp (c, r, w, lim, tol, cart, wov, lot, sew, mis, cnt, col, len, lef, sbt, shd) X Y out) (.inr (some (.int (nI (n * c))))) (zHp (c, r, (w - n), lim, tol, cart, wov, lot, (zFg wov sew c (w - n) lim), mis, cnt, col, len, (zUw lot c w n lef), sbt, shd) X Y out) := by
  refine zRun_of (by decide +kernel) rfl rfl (Nat.le_of_ble_eq_true rfl) ?_
  suffices hs : ∀ (o9 : zO) (h9 : zH), (Sum.inr (some (.int (nI (n * c)))) : zO) = o9 → (zHp (c, r, (w - n), lim, tol, cart, wov, lot, (zFg wov sew c (w - n) lim), mis, cnt, col, len, (zUw lot c w n lef), sbt, shd) X Y out) = h9 → zPW G mX4_unweaveRows 0 0 o9 h9 0 0 0 [(0, .ref 1), (1, .int (nI n))] [] (zHp (c, r, w, lim, tol, cart, wov, lot, sew, mis, cnt, col, len, lef, sbt, shd) X Y out) from hs _ _ rfl rfl
  intro o9 h9 ho9 hh9
  refine z_iconst (v := 0) dX4_unweaveRows_0 (by decide) ?_
  refine z_istore_n (lv' := [(2, .int 0), (0, .ref 1), (1, .int (nI n))]) dX4_unweaveRows_1 rfl (by decide) rfl ?_
  refine z_iconst (v := 0) dX4_unweaveRows_2 (by decide) ?_
  refine z_istore_n (lv' := [(3, .int 0), (2, .int 0), (0, .ref 1), (1, .int (nI n))]) dX4_unweaveRows_3 rfl (by decide) rfl ?_
  have L4_1 : ∀ (d k : Nat), k ≤ n → n + 1 ≤ k + d → zPW G mX4_unweaveRows 0 0 o9 h9 0 0 4 [(3, .int (nI k)), (2, .int (nI (k * c))), (0, .ref 1), (1, .int (nI n))] [] (zHp (c, r, (w - k), lim, tol, cart, wov, lot, sew, mis, cnt, col, len, (zUw lot c w k lef), sbt, shd) X Y out) := by
    intro d
    induction d with
    | zero => intro k hk hd; exact absurd hd (by omega)
    | succ d ih =>
      intro k hk_k hd_k
      have ih4 := ih
      clear ih
      refine z_iload_n 0 dX4_unweaveRows_4 rfl rfl ?_
      refine z_iload_n 3 dX4_unweaveRows_5 rfl rfl ?_
      refine z_icmp_ge (tgt := 73) dX4_unweaveRows_6 (by decide) (fun c_6 => ?_) (fun c_6 => ?_)
      · skip
        have hx_k := zge (by omega) hk_k c_6
        refine z_aload_n 2 dX4_unweaveRows_73 rfl rfl ?_
        refine z_callV (N := mX4_forgetLostSlits) 0 [] [] lX4_forgetLostSlits ⟨zw_712, zw_714, zw_29⟩ rfl zgo_1 rfl rfl (Nat.le_of_ble_eq_true rfl) (by decide) ⟨zlt, zlt⟩ ⟨Nat.zero_le _, Nat.zero_le _⟩ zal (c_forget hG hc hr (by omega) hn hl) dX4_unweaveRows_74 ?_
        refine z_iload_n 1 dX4_unweaveRows_77 rfl rfl ?_
        exact z_iret rfl dX4_unweaveRows_78 (zo_i ho9 (by rw [hx_k])) (zo_h hh9 (by rw [hx_k])) (Nat.zero_le _) (Nat.zero_le _)
      · skip
        have hx_k := zlt' (by omega) hk_k c_6
        refine z_aload_n 2 dX4_unweaveRows_9 rfl rfl ?_
        refine z_get (v := .int (nI (w - k))) 2 zgo_1 rfl inX4 (by decide) zw_134 rfl rfl dX4_unweaveRows_10 ?_
        refine z_if_le (tgt := 73) dX4_unweaveRows_13 (by decide) (fun c_13 => ?_) (fun c_13 => ?_)
        · exact absurd c_13 (nI_nle (by omega) (by omega))
        · skip
          refine z_aload_n 2 dX4_unweaveRows_16 rfl rfl ?_
          refine z_dup dX4_unweaveRows_17 rfl ?_
          refine z_get (v := .int (nI (w - k))) 2 zgo_1 rfl inX4 (by decide) zw_134 rfl rfl dX4_unweaveRows_18 ?_
          refine z_iconst (v := 1) dX4_unweaveRows_21 (by decide) ?_
          refine z_isub dX4_unweaveRows_22 ?_
          refine z_top (v2 := .int (nI (w - (k + 1)))) (by rw [show (1 : Int32) = nI 1 from rfl, pk_sub (by omega), Nat.sub_sub]) ?_
          refine z_puti 2 tyX4 zgo_1 rfl inX4 tyX4_ok nmX4 (by decide) zw_134 rfl rfl (by decide +kernel) (Nat.le_of_ble_eq_true rfl) dX4_unweaveRows_23 ?_
          refine z_eqh (h2 := (zHp (c, r, (w - (k + 1)), lim, tol, cart, wov, lot, sew, mis, cnt, col, len, (zUw lot c w k lef), sbt, shd) X Y out)) zsf_1_2 ?_
          refine z_iconst (v := 0) dX4_unweaveRows_26 (by decide) ?_
          refine z_istore (lv' := [(4, .int 0), (3, .int (nI k)), (2, .int (nI (k * c))), (0, .ref 1), (1, .int (nI n))]) dX4_unweaveRows_27 (by decide) rfl ?_
          have L29_2 : ∀ (d j : Nat), j ≤ c → c + 1 ≤ j + d → zPW G mX4_unweaveRows 0 0 o9 h9 0 0 29 [(4, .int (nI j)), (2, .int (nI (k * c + j))), (3, .int (nI k)), (0, .ref 1), (1, .int (nI n))] [] (zHp (c, r, (w - (k + 1)), lim, tol, cart, wov, lot, sew, mis, cnt, col, len, (zIt (fun b l => zGb l (zAt lot (nI b) (nI (w - (k + 1))))) j (zUw lot c w k lef)), sbt, shd) X Y out) := by
            intro d
            induction d with
            | zero => intro j hk hd; exact absurd hd (by omega)
            | succ d ih =>
              intro j hk_j hd_j
              have ih29 := ih
              clear ih
              refine z_iload 0 dX4_unweaveRows_29 rfl ?_
              refine z_aload_n 3 dX4_unweaveRows_31 rfl rfl ?_
              refine z_get (v := .int (nI c)) 0 zgo_1 rfl inX4 (by decide) zw_130 rfl rfl dX4_unweaveRows_32 ?_
              refine z_icmp_ge (tgt := 67) dX4_unweaveRows_35 (by decide) (fun c_35 => ?_) (fun c_35 => ?_)
              · skip
                have hx_j := zge (by omega) hk_j c_35
                refine z_iinc (v := nI (k + 1)) (lv' := [(3, .int (nI (k + 1))), (4, .int (nI j)), (2, .int (nI (k * c + j))), (0, .ref 1), (1, .int (nI n))]) 2 dX4_unweaveRows_67 rfl (nI_1 k) (by decide) rfl ?_
                refine z_goto (tgt := 4) dX4_unweaveRows_70 (by decide) ?_
                refine z_sub [0, 2, 3, 4] (lv' := [(3, .int (nI (k + 1))), (2, .int (nI (k * c + j))), (0, .ref 1), (1, .int (nI n))]) rfl ?_
                refine z_eqs (lv2 := [(3, .int (nI (k + 1))), (2, .int (nI ((k + 1) * c))), (0, .ref 1), (1, .int (nI n))]) (h2 := (zHp (c, r, (w - (k + 1)), lim, tol, cart, wov, lot, sew, mis, cnt, col, len, (zUw lot c w (k + 1) lef), sbt, shd) X Y out)) (by rw [hx_j, Nat.add_mul, Nat.one_mul]) (by rw [hx_j]; rfl) ?_
                exact ih4 (k + 1) (by omega) (by omega)
              · skip
                have hx_j := zlt' (by omega) hk_j c_35
                refine z_aload_n 3 dX4_unweaveRows_38 rfl rfl ?_
                refine z_get (v := .ref 12) 10 zgo_1 rfl inX4 (by decide) zw_145 rfl rfl dX4_unweaveRows_39 ?_
                refine z_aload_n 3 dX4_unweaveRows_42 rfl rfl ?_
                refine z_get (v := .ref 6) 7 zgo_1 rfl inX4 (by decide) zw_142 rfl rfl dX4_unweaveRows_43 ?_
                refine z_iload 0 dX4_unweaveRows_46 rfl ?_
                refine z_aload_n 3 dX4_unweaveRows_48 rfl rfl ?_
                refine z_get (v := .int (nI (w - (k + 1)))) 2 zgo_1 rfl inX4 (by decide) zw_134 rfl rfl dX4_unweaveRows_49 ?_
                refine z_callV (N := mX2_at) 2 [.int (nI j), .int (nI (w - (k + 1)))] [.ref 12] lX2_at ⟨zw_272, zw_273, zw_274⟩ rfl zgo_6 rfl rfl (Nat.le_of_ble_eq_true rfl) (by decide) ⟨zlt, zlt⟩ ⟨Nat.zero_le _, Nat.zero_le _⟩ (fun _ => rfl) (c_gAt (g := 6) (v := 7) (f := lot) hG zlt zgo_6 zga_7 (nI j) (nI (w - (k + 1)))) dX4_unweaveRows_52 ?_
                refine z_callV (N := mX5_giveBack) 1 [.int (zAt lot (nI j) (nI (w - (k + 1))))] [] lX5_giveBack ⟨zw_779, zw_780, zw_781⟩ rfl zgo_12 rfl rfl (Nat.le_of_ble_eq_true rfl) (by decide) ⟨zlt, zlt⟩ ⟨Nat.zero_le _, Nat.zero_le _⟩ zal (c_giveBack hG hc hr (by omega) hn (zAt lot (nI j) (nI (w - (k + 1))))) dX4_unweaveRows_55 ?_
                refine z_iinc (v := nI ((k * c + j) + 1)) (lv' := [(2, .int (nI ((k * c + j) + 1))), (4, .int (nI j)), (3, .int (nI k)), (0, .ref 1), (1, .int (nI n))]) 1 dX4_unweaveRows_58 rfl (nI_1 (k * c + j)) (by decide) rfl ?_
                refine z_iinc (v := nI (j + 1)) (lv' := [(4, .int (nI (j + 1))), (2, .int (nI ((k * c + j) + 1))), (3, .int (nI k)), (0, .ref 1), (1, .int (nI n))]) 1 dX4_unweaveRows_61 rfl (nI_1 j) (by decide) rfl ?_
                refine z_goto (tgt := 29) dX4_unweaveRows_64 (by decide) ?_
                refine z_sub [0, 1, 2, 3, 4] (lv' := [(4, .int (nI (j + 1))), (2, .int (nI ((k * c + j) + 1))), (3, .int (nI k)), (0, .ref 1), (1, .int (nI n))]) rfl ?_
                refine z_eqs (lv2 := [(4, .int (nI (j + 1))), (2, .int (nI (k * c + (j + 1)))), (3, .int (nI k)), (0, .ref 1), (1, .int (nI n))]) (h2 := (zHp (c, r, (w - (k + 1)), lim, tol, cart, wov, lot, sew, mis, cnt, col, len, (zIt (fun b l => zGb l (zAt lot (nI b) (nI (w - (k + 1))))) (j + 1) (zUw lot c w k lef)), sbt, shd) X Y out)) (by rw [Nat.add_assoc]) (by rfl) ?_
                exact ih29 (j + 1) (by omega) (by omega)
          refine z_sub [0, 2, 1, 3, 4] (lv' := [(4, .int 0), (2, .int (nI (k * c))), (3, .int (nI k)), (0, .ref 1), (1, .int (nI n))]) rfl ?_
          refine z_eqs (lv2 := [(4, .int (nI 0)), (2, .int (nI (k * c + 0))), (3, .int (nI k)), (0, .ref 1), (1, .int (nI n))]) (h2 := (zHp (c, r, (w - (k + 1)), lim, tol, cart, wov, lot, sew, mis, cnt, col, len, (zIt (fun b l => zGb l (zAt lot (nI b) (nI (w - (k + 1))))) 0 (zUw lot c w k lef)), sbt, shd) X Y out)) (by rfl) (by rfl) ?_
          exact L29_2 (c + 1) 0 (Nat.zero_le _) (by omega)
  refine z_sub [0, 1, 2, 3] (lv' := [(3, .int 0), (2, .int 0), (0, .ref 1), (1, .int (nI n))]) rfl ?_
  refine z_eqs (lv2 := [(3, .int (nI 0)), (2, .int (nI (0 * c))), (0, .ref 1), (1, .int (nI n))]) (h2 := (zHp (c, r, (w - 0), lim, tol, cart, wov, lot, sew, mis, cnt, col, len, (zUw lot c w 0 lef), sbt, shd) X Y out)) (by rw [Nat.zero_mul]; rfl) (by rfl) ?_
  exact L4_1 (n + 1) 0 (Nat.zero_le _) (by omega)

/-- a rectangle is painted: the cartoon, and how many were of another color -/
def zPt (c x y u z : Nat) (v : Int32) (f : Nat → Int32) : (Nat → Int32) × Nat := zIt (fun j q => zIt (fun i (q : (Nat → Int32) × Nat) => (zPutG q.1 (nI c - 1 - nI (x + i)) (nI (y + j)) v, q.2 + (if zAt q.1 (nI c - 1 - nI (x + i)) (nI (y + j)) = v then 0 else 1))) (u + 1 - x) q) (z + 1 - y) (f, 0)

set_option maxHeartbeats 4000000 in
set_option maxRecDepth 100000 in
theorem c_paint {G : zT} {c r w lim cnt : Nat} {tol : Int32} {cart wov lot sew mis col len lef sbt : Nat → Int32} {shd : Nat → UInt32} {X : zXr} {Y : zYr} {out : Nat → Int64} (hG : zAl G = false) (hc : c ≤ 20) (hr : r ≤ 16) (hw : w ≤ r) (hn : cnt ≤ 16) (x y u z : Nat) (v : Int32) (hxu : x ≤ u) (hu : u < c) (hyz : y ≤ z) (hz : z < r) : zRun G mX4_paint 0 0 [.ref 1, .int (nI x), .int (nI y), .int (nI u), .int (nI z), .int v] (zHp (c, r, w, lim, tol, cart, wov, lot, sew, mis, cnt, col, len, lef, sbt, shd) X Y out) (.inr (some (.int (nI (zPt c x y u z v cart).2)))) (zHp (c, r, w, lim, tol, (zPt c x y u z v cart).1, wov, lot, sew, mis, cnt, col, len, lef, sbt, shd) X Y out) := by
  refine zRun_of (by decide +kernel) rfl rfl (Nat.le_of_ble_eq_true rfl) ?_
  suffices hs : ∀ (o9 : zO) (h9 : zH), (Sum.inr (some (.int (nI (zPt c x y u z v cart).2))) : zO) = o9 → (zHp (c, r, w, lim, tol, (zPt c x y u z v cart).1, wov, lot, sew, mis, cnt, col, len, lef, sbt, shd) X Y out) = h9 → zPW G mX4_paint 0 0 o9 h9 0 0 0 [(0, .ref 1), (1, .int (nI x)), (2, .int (nI y)), (3, .int (nI u)), (4, .int (nI z)), (5, .int v)] [] (zHp (c, r, w, lim, tol, cart, wov, lot, sew, mis, cnt, col, len, lef, sbt, shd) X Y out) from hs _ _ rfl rfl
  intro o9 h9 ho9 hh9
  refine z_iconst (v := 0) dX4_paint_0 (by decide) ?_
  refine z_istore (lv' := [(6, .int 0), (0, .ref 1), (1, .int (nI x)), (2, .int (nI y)), (3, .int (nI u)), (4, .int (nI z)), (5, .int v)]) dX4_paint_1 (by decide) rfl ?_
  refine z_iload_n 3 dX4_paint_3 rfl rfl ?_
  refine z_istore (lv' := [(7, .int (nI y)), (6, .int 0), (0, .ref 1), (1, .int (nI x)), (2, .int (nI y)), (3, .int (nI u)), (4, .int (nI z)), (5, .int v)]) dX4_paint_4 (by decide) rfl ?_
  have L6_1 : ∀ (d k : Nat), k ≤ (z + 1 - y) → (z + 1 - y) + 1 ≤ k + d → zPW G mX4_paint 0 0 o9 h9 0 0 6 [(7, .int (nI (y + k))), (6, .int (nI (zIt (fun j q => zIt (fun i (q : (Nat → Int32) × Nat) => (zPutG q.1 (nI c - 1 - nI (x + i)) (nI (y + j)) v, q.2 + (if zAt q.1 (nI c - 1 - nI (x + i)) (nI (y + j)) = v then 0 else 1))) (u + 1 - x) q) k (cart, 0)).2)), (0, .ref 1), (1, .int (nI x)), (2, .int (nI y)), (3, .int (nI u)), (4, .int (nI z)), (5, .int v)] [] (zHp (c, r, w, lim, tol, (zIt (fun j q => zIt (fun i (q : (Nat → Int32) × Nat) => (zPutG q.1 (nI c - 1 - nI (x + i)) (nI (y + j)) v, q.2 + (if zAt q.1 (nI c - 1 - nI (x + i)) (nI (y + j)) = v then 0 else 1))) (u + 1 - x) q) k (cart, 0)).1, wov, lot, sew, mis, cnt, col, len, lef, sbt, shd) X Y out) := by
    intro d
    induction d with
    | zero => intro k hk hd; exact absurd hd (by omega)
    | succ d ih =>
      intro k hk_k hd_k
      have ih6 := ih
      clear ih
      refine z_iload 0 dX4_paint_6 rfl ?_
      refine z_iload 6 dX4_paint_8 rfl ?_
      refine z_icmp_gt (tgt := 99) dX4_paint_10 (by decide) (fun c_10 => ?_) (fun c_10 => ?_)
      · skip
        have hx_k : k = z + 1 - y := by
          have := (nI_ltI (by omega) (by omega)).mp c_10
          omega
        refine z_iload 1 dX4_paint_99 rfl ?_
        exact z_iret rfl dX4_paint_101 (zo_i ho9 (by rw [zPt, hx_k])) (zo_h hh9 (by rw [zPt, hx_k])) (Nat.zero_le _) (Nat.zero_le _)
      · skip
        have hlz : y + k ≤ z := Nat.not_lt.mp fun q => c_10 ((nI_ltI (by omega) (by omega)).mpr q)
        refine z_iload 0 dX4_paint_13 rfl ?_
        refine z_aload_n 2 dX4_paint_15 rfl rfl ?_
        refine z_get (v := .int (nI r)) 1 zgo_1 rfl inX4 (by decide) zw_132 rfl rfl dX4_paint_16 ?_
        refine z_icmp_ge (tgt := 99) dX4_paint_19 (by decide) (fun c_19 => ?_) (fun c_19 => ?_)
        · exact absurd c_19 (nI_ge (by omega) (by omega))
        · skip
          refine z_iload_n 3 dX4_paint_22 rfl rfl ?_
          refine z_istore (lv' := [(8, .int (nI x)), (7, .int (nI (y + k))), (6, .int (nI (zIt (fun j q => zIt (fun i (q : (Nat → Int32) × Nat) => (zPutG q.1 (nI c - 1 - nI (x + i)) (nI (y + j)) v, q.2 + (if zAt q.1 (nI c - 1 - nI (x + i)) (nI (y + j)) = v then 0 else 1))) (u + 1 - x) q) k (cart, 0)).2)), (0, .ref 1), (1, .int (nI x)), (2, .int (nI y)), (3, .int (nI u)), (4, .int (nI z)), (5, .int v)]) dX4_paint_23 (by decide) rfl ?_
          have L25_2 : ∀ (d j : Nat), j ≤ (u + 1 - x) → (u + 1 - x) + 1 ≤ j + d → zPW G mX4_paint 0 0 o9 h9 0 0 25 [(8, .int (nI (x + j))), (6, .int (nI (zIt (fun i (q : (Nat → Int32) × Nat) => (zPutG q.1 (nI c - 1 - nI (x + i)) (nI (y + k)) v, q.2 + (if zAt q.1 (nI c - 1 - nI (x + i)) (nI (y + k)) = v then 0 else 1))) j (zIt (fun j q => zIt (fun i (q : (Nat → Int32) × Nat) => (zPutG q.1 (nI c - 1 - nI (x + i)) (nI (y + j)) v, q.2 + (if zAt q.1 (nI c - 1 - nI (x + i)) (nI (y + j)) = v then 0 else 1))) (u + 1 - x) q) k (cart, 0))).2)), (7, .int (nI (y + k))), (0, .ref 1), (1, .int (nI x)), (2, .int (nI y)), (3, .int (nI u)), (4, .int (nI z)), (5, .int v)] [] (zHp (c, r, w, lim, tol, (zIt (fun i (q : (Nat → Int32) × Nat) => (zPutG q.1 (nI c - 1 - nI (x + i)) (nI (y + k)) v, q.2 + (if zAt q.1 (nI c - 1 - nI (x + i)) (nI (y + k)) = v then 0 else 1))) j (zIt (fun j q => zIt (fun i (q : (Nat → Int32) × Nat) => (zPutG q.1 (nI c - 1 - nI (x + i)) (nI (y + j)) v, q.2 + (if zAt q.1 (nI c - 1 - nI (x + i)) (nI (y + j)) = v then 0 else 1))) (u + 1 - x) q) k (cart, 0))).1, wov, lot, sew, mis, cnt, col, len, lef, sbt, shd) X Y out) := by
            intro d
            induction d with
            | zero => intro j hk hd; exact absurd hd (by omega)
            | succ d ih =>
              intro j hk_j hd_j
              have ih25 := ih
              clear ih
              refine z_iload 0 dX4_paint_25 rfl ?_
              refine z_iload_n 6 dX4_paint_27 rfl rfl ?_
              refine z_icmp_gt (tgt := 93) dX4_paint_28 (by decide) (fun c_28 => ?_) (fun c_28 => ?_)
              · skip
                have hx_j : j = u + 1 - x := by
                  have := (nI_ltI (by omega) (by omega)).mp c_28
                  omega
                refine z_iinc (v := nI ((y + k) + 1)) (lv' := [(7, .int (nI ((y + k) + 1))), (8, .int (nI (x + j))), (6, .int (nI (zIt (fun i (q : (Nat → Int32) × Nat) => (zPutG q.1 (nI c - 1 - nI (x + i)) (nI (y + k)) v, q.2 + (if zAt q.1 (nI c - 1 - nI (x + i)) (nI (y + k)) = v then 0 else 1))) j (zIt (fun j q => zIt (fun i (q : (Nat → Int32) × Nat) => (zPutG q.1 (nI c - 1 - nI (x + i)) (nI (y + j)) v, q.2 + (if zAt q.1 (nI c - 1 - nI (x + i)) (nI (y + j)) = v then 0 else 1))) (u + 1 - x) q) k (cart, 0))).2)), (0, .ref 1), (1, .int (nI x)), (2, .int (nI y)), (3, .int (nI u)), (4, .int (nI z)), (5, .int v)]) 2 dX4_paint_93 rfl (nI_1 (y + k)) (by decide) rfl ?_
                refine z_goto (tgt := 6) dX4_paint_96 (by decide) ?_
                refine z_sub [0, 2, 3, 4, 5, 6, 7, 8] (lv' := [(7, .int (nI ((y + k) + 1))), (6, .int (nI (zIt (fun i (q : (Nat → Int32) × Nat) => (zPutG q.1 (nI c - 1 - nI (x + i)) (nI (y + k)) v, q.2 + (if zAt q.1 (nI c - 1 - nI (x + i)) (nI (y + k)) = v then 0 else 1))) j (zIt (fun j q => zIt (fun i (q : (Nat → Int32) × Nat) => (zPutG q.1 (nI c - 1 - nI (x + i)) (nI (y + j)) v, q.2 + (if zAt q.1 (nI c - 1 - nI (x + i)) (nI (y + j)) = v then 0 else 1))) (u + 1 - x) q) k (cart, 0))).2)), (0, .ref 1), (1, .int (nI x)), (2, .int (nI y)), (3, .int (nI u)), (4, .int (nI z)), (5, .int v)]) rfl ?_
                refine z_eqs (lv2 := [(7, .int (nI (y + (k + 1)))), (6, .int (nI (zIt (fun j q => zIt (fun i (q : (Nat → Int32) × Nat) => (zPutG q.1 (nI c - 1 - nI (x + i)) (nI (y + j)) v, q.2 + (if zAt q.1 (nI c - 1 - nI (x + i)) (nI (y + j)) = v then 0 else 1))) (u + 1 - x) q) (k + 1) (cart, 0)).2)), (0, .ref 1), (1, .int (nI x)), (2, .int (nI y)), (3, .int (nI u)), (4, .int (nI z)), (5, .int v)]) (h2 := (zHp (c, r, w, lim, tol, (zIt (fun j q => zIt (fun i (q : (Nat → Int32) × Nat) => (zPutG q.1 (nI c - 1 - nI (x + i)) (nI (y + j)) v, q.2 + (if zAt q.1 (nI c - 1 - nI (x + i)) (nI (y + j)) = v then 0 else 1))) (u + 1 - x) q) (k + 1) (cart, 0)).1, wov, lot, sew, mis, cnt, col, len, lef, sbt, shd) X Y out)) (by rw [hx_j]; rfl) (by rw [hx_j]; rfl) ?_
                exact ih6 (k + 1) (by omega) (by omega)
              · skip
                have hlu : x + j ≤ u := Nat.not_lt.mp fun q => c_28 ((nI_ltI (by omega) (by omega)).mpr q)
                refine z_iload 0 dX4_paint_31 rfl ?_
                refine z_aload_n 3 dX4_paint_33 rfl rfl ?_
                refine z_get (v := .int (nI c)) 0 zgo_1 rfl inX4 (by decide) zw_130 rfl rfl dX4_paint_34 ?_
                refine z_icmp_ge (tgt := 93) dX4_paint_37 (by decide) (fun c_37 => ?_) (fun c_37 => ?_)
                · exact absurd c_37 (nI_ge (by omega) (by omega))
                · skip
                  refine z_iload 1 dX4_paint_40 rfl ?_
                  refine z_aload_n 3 dX4_paint_42 rfl rfl ?_
                  refine z_get (v := .ref 2) 5 zgo_1 rfl inX4 (by decide) zw_139 rfl rfl dX4_paint_43 ?_
                  refine z_aload_n 3 dX4_paint_46 rfl rfl ?_
                  refine z_iload 0 dX4_paint_47 rfl ?_
                  refine z_callV (N := mX4_mirror) 1 [.int (nI (x + j))] [.ref 2, .int (nI (zIt (fun i (q : (Nat → Int32) × Nat) => (zPutG q.1 (nI c - 1 - nI (x + i)) (nI (y + k)) v, q.2 + (if zAt q.1 (nI c - 1 - nI (x + i)) (nI (y + k)) = v then 0 else 1))) j (zIt (fun j q => zIt (fun i (q : (Nat → Int32) × Nat) => (zPutG q.1 (nI c - 1 - nI (x + i)) (nI (y + j)) v, q.2 + (if zAt q.1 (nI c - 1 - nI (x + i)) (nI (y + j)) = v then 0 else 1))) (u + 1 - x) q) k (cart, 0))).2)] lX4_mirror ⟨zw_379, zw_381, zw_19⟩ rfl zgo_1 rfl rfl (Nat.le_of_ble_eq_true rfl) (by decide) ⟨zlt, zlt⟩ ⟨Nat.zero_le _, Nat.zero_le _⟩ (fun _ => rfl) (c_mirror hG hc hr hw hn (nI (x + j))) dX4_paint_49 ?_
                  refine z_iload 2 dX4_paint_52 rfl ?_
                  refine z_callV (N := mX2_at) 2 [.int (nI c - 1 - (nI (x + j))), .int (nI (y + k))] [.int (nI (zIt (fun i (q : (Nat → Int32) × Nat) => (zPutG q.1 (nI c - 1 - nI (x + i)) (nI (y + k)) v, q.2 + (if zAt q.1 (nI c - 1 - nI (x + i)) (nI (y + k)) = v then 0 else 1))) j (zIt (fun j q => zIt (fun i (q : (Nat → Int32) × Nat) => (zPutG q.1 (nI c - 1 - nI (x + i)) (nI (y + j)) v, q.2 + (if zAt q.1 (nI c - 1 - nI (x + i)) (nI (y + j)) = v then 0 else 1))) (u + 1 - x) q) k (cart, 0))).2)] lX2_at ⟨zw_272, zw_273, zw_274⟩ rfl zgo_2 rfl rfl (Nat.le_of_ble_eq_true rfl) (by decide) ⟨zlt, zlt⟩ ⟨Nat.zero_le _, Nat.zero_le _⟩ (fun _ => rfl) (c_gAt (g := 2) (v := 3) (f := (zIt (fun i (q : (Nat → Int32) × Nat) => (zPutG q.1 (nI c - 1 - nI (x + i)) (nI (y + k)) v, q.2 + (if zAt q.1 (nI c - 1 - nI (x + i)) (nI (y + k)) = v then 0 else 1))) j (zIt (fun j q => zIt (fun i (q : (Nat → Int32) × Nat) => (zPutG q.1 (nI c - 1 - nI (x + i)) (nI (y + j)) v, q.2 + (if zAt q.1 (nI c - 1 - nI (x + i)) (nI (y + j)) = v then 0 else 1))) (u + 1 - x) q) k (cart, 0))).1) hG zlt zgo_2 zga_3 (nI c - 1 - (nI (x + j))) (nI (y + k))) dX4_paint_54 ?_
                  refine z_iload 8 dX4_paint_57 rfl ?_
                  refine z_icmp_eq (tgt := 66) dX4_paint_59 (by decide) (fun c_59 => ?_) (fun c_59 => ?_)
                  · skip
                    refine z_iconst (v := 0) dX4_paint_66 (by decide) ?_
                    refine z_iadd dX4_paint_67 ?_
                    refine z_istore (lv' := [(6, .int ((nI (zIt (fun i (q : (Nat → Int32) × Nat) => (zPutG q.1 (nI c - 1 - nI (x + i)) (nI (y + k)) v, q.2 + (if zAt q.1 (nI c - 1 - nI (x + i)) (nI (y + k)) = v then 0 else 1))) j (zIt (fun j q => zIt (fun i (q : (Nat → Int32) × Nat) => (zPutG q.1 (nI c - 1 - nI (x + i)) (nI (y + j)) v, q.2 + (if zAt q.1 (nI c - 1 - nI (x + i)) (nI (y + j)) = v then 0 else 1))) (u + 1 - x) q) k (cart, 0))).2) + 0)), (8, .int (nI (x + j))), (7, .int (nI (y + k))), (0, .ref 1), (1, .int (nI x)), (2, .int (nI y)), (3, .int (nI u)), (4, .int (nI z)), (5, .int v)]) dX4_paint_68 (by decide) rfl ?_
                    refine z_aload_n 3 dX4_paint_70 rfl rfl ?_
                    refine z_get (v := .ref 2) 5 zgo_1 rfl inX4 (by decide) zw_139 rfl rfl dX4_paint_71 ?_
                    refine z_aload_n 3 dX4_paint_74 rfl rfl ?_
                    refine z_iload 1 dX4_paint_75 rfl ?_
                    refine z_callV (N := mX4_mirror) 1 [.int (nI (x + j))] [.ref 2] lX4_mirror ⟨zw_379, zw_381, zw_19⟩ rfl zgo_1 rfl rfl (Nat.le_of_ble_eq_true rfl) (by decide) ⟨zlt, zlt⟩ ⟨Nat.zero_le _, Nat.zero_le _⟩ (fun _ => rfl) (c_mirror hG hc hr hw hn (nI (x + j))) dX4_paint_77 ?_
                    refine z_iload 2 dX4_paint_80 rfl ?_
                    refine z_iload 8 dX4_paint_82 rfl ?_
                    refine z_callV (N := mX2_put) 3 [.int (nI c - 1 - (nI (x + j))), .int (nI (y + k)), .int v] [] lX2_put ⟨zw_665, zw_666, zw_667⟩ rfl zgo_2 rfl rfl (Nat.le_of_ble_eq_true rfl) (by decide) ⟨zlt, zlt⟩ ⟨Nat.zero_le _, Nat.zero_le _⟩ zal (c_gPut (g := 2) (v := 3) (f := (zIt (fun i (q : (Nat → Int32) × Nat) => (zPutG q.1 (nI c - 1 - nI (x + i)) (nI (y + k)) v, q.2 + (if zAt q.1 (nI c - 1 - nI (x + i)) (nI (y + k)) = v then 0 else 1))) j (zIt (fun j q => zIt (fun i (q : (Nat → Int32) × Nat) => (zPutG q.1 (nI c - 1 - nI (x + i)) (nI (y + j)) v, q.2 + (if zAt q.1 (nI c - 1 - nI (x + i)) (nI (y + j)) = v then 0 else 1))) (u + 1 - x) q) k (cart, 0))).1) (h1 := (zHp (c, r, w, lim, tol, (zPutG ((zIt (fun i (q : (Nat → Int32) × Nat) => (zPutG q.1 (nI c - 1 - nI (x + i)) (nI (y + k)) v, q.2 + (if zAt q.1 (nI c - 1 - nI (x + i)) (nI (y + k)) = v then 0 else 1))) j (zIt (fun j q => zIt (fun i (q : (Nat → Int32) × Nat) => (zPutG q.1 (nI c - 1 - nI (x + i)) (nI (y + j)) v, q.2 + (if zAt q.1 (nI c - 1 - nI (x + i)) (nI (y + j)) = v then 0 else 1))) (u + 1 - x) q) k (cart, 0))).1) (nI c - 1 - (nI (x + j))) (nI (y + k)) v), wov, lot, sew, mis, cnt, col, len, lef, sbt, shd) X Y out)) zlt zgo_2 zga_3 (nI c - 1 - (nI (x + j))) (nI (y + k)) v zsa_3) dX4_paint_84 ?_
                    refine z_iinc (v := nI ((x + j) + 1)) (lv' := [(8, .int (nI ((x + j) + 1))), (6, .int ((nI (zIt (fun i (q : (Nat → Int32) × Nat) => (zPutG q.1 (nI c - 1 - nI (x + i)) (nI (y + k)) v, q.2 + (if zAt q.1 (nI c - 1 - nI (x + i)) (nI (y + k)) = v then 0 else 1))) j (zIt (fun j q => zIt (fun i (q : (Nat → Int32) × Nat) => (zPutG q.1 (nI c - 1 - nI (x + i)) (nI (y + j)) v, q.2 + (if zAt q.1 (nI c - 1 - nI (x + i)) (nI (y + j)) = v then 0 else 1))) (u + 1 - x) q) k (cart, 0))).2) + 0)), (7, .int (nI (y + k))), (0, .ref 1), (1, .int (nI x)), (2, .int (nI y)), (3, .int (nI u)), (4, .int (nI z)), (5, .int v)]) 1 dX4_paint_87 rfl (nI_1 (x + j)) (by decide) rfl ?_
                    refine z_goto (tgt := 25) dX4_paint_90 (by decide) ?_
                    refine z_sub [0, 1, 2, 3, 4, 5, 6, 7, 8] (lv' := [(8, .int (nI ((x + j) + 1))), (6, .int ((nI (zIt (fun i (q : (Nat → Int32) × Nat) => (zPutG q.1 (nI c - 1 - nI (x + i)) (nI (y + k)) v, q.2 + (if zAt q.1 (nI c - 1 - nI (x + i)) (nI (y + k)) = v then 0 else 1))) j (zIt (fun j q => zIt (fun i (q : (Nat → Int32) × Nat) => (zPutG q.1 (nI c - 1 - nI (x + i)) (nI (y + j)) v, q.2 + (if zAt q.1 (nI c - 1 - nI (x + i)) (nI (y + j)) = v then 0 else 1))) (u + 1 - x) q) k (cart, 0))).2) + 0)), (7, .int (nI (y + k))), (0, .ref 1), (1, .int (nI x)), (2, .int (nI y)), (3, .int (nI u)), (4, .int (nI z)), (5, .int v)]) rfl ?_
                    refine z_eqs (lv2 := [(8, .int (nI (x + (j + 1)))), (6, .int (nI (zIt (fun i (q : (Nat → Int32) × Nat) => (zPutG q.1 (nI c - 1 - nI (x + i)) (nI (y + k)) v, q.2 + (if zAt q.1 (nI c - 1 - nI (x + i)) (nI (y + k)) = v then 0 else 1))) (j + 1) (zIt (fun j q => zIt (fun i (q : (Nat → Int32) × Nat) => (zPutG q.1 (nI c - 1 - nI (x + i)) (nI (y + j)) v, q.2 + (if zAt q.1 (nI c - 1 - nI (x + i)) (nI (y + j)) = v then 0 else 1))) (u + 1 - x) q) k (cart, 0))).2)), (7, .int (nI (y + k))), (0, .ref 1), (1, .int (nI x)), (2, .int (nI y)), (3, .int (nI u)), (4, .int (nI z)), (5, .int v)]) (h2 := (zHp (c, r, w, lim, tol, (zIt (fun i (q : (Nat → Int32) × Nat) => (zPutG q.1 (nI c - 1 - nI (x + i)) (nI (y + k)) v, q.2 + (if zAt q.1 (nI c - 1 - nI (x + i)) (nI (y + k)) = v then 0 else 1))) (j + 1) (zIt (fun j q => zIt (fun i (q : (Nat → Int32) × Nat) => (zPutG q.1 (nI c - 1 - nI (x + i)) (nI (y + j)) v, q.2 + (if zAt q.1 (nI c - 1 - nI (x + i)) (nI (y + j)) = v then 0 else 1))) (u + 1 - x) q) k (cart, 0))).1, wov, lot, sew, mis, cnt, col, len, lef, sbt, shd) X Y out)) (by first | (simp only [zIt, if_pos c_59, Nat.add_zero, Int32.add_zero, Nat.add_assoc]; done) | (simp only [zIt, if_neg c_59, nI_1, Nat.add_assoc])) (by rfl) ?_
                    exact ih25 (j + 1) (by omega) (by omega)
                  · skip
                    refine z_iconst (v := 1) dX4_paint_62 (by decide) ?_
                    refine z_goto (tgt := 67) dX4_paint_63 (by decide) ?_
                    refine z_iadd dX4_paint_67 ?_
                    refine z_istore (lv' := [(6, .int ((nI (zIt (fun i (q : (Nat → Int32) × Nat) => (zPutG q.1 (nI c - 1 - nI (x + i)) (nI (y + k)) v, q.2 + (if zAt q.1 (nI c - 1 - nI (x + i)) (nI (y + k)) = v then 0 else 1))) j (zIt (fun j q => zIt (fun i (q : (Nat → Int32) × Nat) => (zPutG q.1 (nI c - 1 - nI (x + i)) (nI (y + j)) v, q.2 + (if zAt q.1 (nI c - 1 - nI (x + i)) (nI (y + j)) = v then 0 else 1))) (u + 1 - x) q) k (cart, 0))).2) + 1)), (8, .int (nI (x + j))), (7, .int (nI (y + k))), (0, .ref 1), (1, .int (nI x)), (2, .int (nI y)), (3, .int (nI u)), (4, .int (nI z)), (5, .int v)]) dX4_paint_68 (by decide) rfl ?_
                    refine z_aload_n 3 dX4_paint_70 rfl rfl ?_
                    refine z_get (v := .ref 2) 5 zgo_1 rfl inX4 (by decide) zw_139 rfl rfl dX4_paint_71 ?_
                    refine z_aload_n 3 dX4_paint_74 rfl rfl ?_
                    refine z_iload 1 dX4_paint_75 rfl ?_
                    refine z_callV (N := mX4_mirror) 1 [.int (nI (x + j))] [.ref 2] lX4_mirror ⟨zw_379, zw_381, zw_19⟩ rfl zgo_1 rfl rfl (Nat.le_of_ble_eq_true rfl) (by decide) ⟨zlt, zlt⟩ ⟨Nat.zero_le _, Nat.zero_le _⟩ (fun _ => rfl) (c_mirror hG hc hr hw hn (nI (x + j))) dX4_paint_77 ?_
                    refine z_iload 2 dX4_paint_80 rfl ?_
                    refine z_iload 8 dX4_paint_82 rfl ?_
                    refine z_callV (N := mX2_put) 3 [.int (nI c - 1 - (nI (x + j))), .int (nI (y + k)), .int v] [] lX2_put ⟨zw_665, zw_666, zw_667⟩ rfl zgo_2 rfl rfl (Nat.le_of_ble_eq_true rfl) (by decide) ⟨zlt, zlt⟩ ⟨Nat.zero_le _, Nat.zero_le _⟩ zal (c_gPut (g := 2) (v := 3) (f := (zIt (fun i (q : (Nat → Int32) × Nat) => (zPutG q.1 (nI c - 1 - nI (x + i)) (nI (y + k)) v, q.2 + (if zAt q.1 (nI c - 1 - nI (x + i)) (nI (y + k)) = v then 0 else 1))) j (zIt (fun j q => zIt (fun i (q : (Nat → Int32) × Nat) => (zPutG q.1 (nI c - 1 - nI (x + i)) (nI (y + j)) v, q.2 + (if zAt q.1 (nI c - 1 - nI (x + i)) (nI (y + j)) = v then 0 else 1))) (u + 1 - x) q) k (cart, 0))).1) (h1 := (zHp (c, r, w, lim, tol, (zPutG ((zIt (fun i (q : (Nat → Int32) × Nat) => (zPutG q.1 (nI c - 1 - nI (x + i)) (nI (y + k)) v, q.2 + (if zAt q.1 (nI c - 1 - nI (x + i)) (nI (y + k)) = v then 0 else 1))) j (zIt (fun j q => zIt (fun i (q : (Nat → Int32) × Nat) => (zPutG q.1 (nI c - 1 - nI (x + i)) (nI (y + j)) v, q.2 + (if zAt q.1 (nI c - 1 - nI (x + i)) (nI (y + j)) = v then 0 else 1))) (u + 1 - x) q) k (cart, 0))).1) (nI c - 1 - (nI (x + j))) (nI (y + k)) v), wov, lot, sew, mis, cnt, col, len, lef, sbt, shd) X Y out)) zlt zgo_2 zga_3 (nI c - 1 - (nI (x + j))) (nI (y + k)) v zsa_3) dX4_paint_84 ?_
                    refine z_iinc (v := nI ((x + j) + 1)) (lv' := [(8, .int (nI ((x + j) + 1))), (6, .int ((nI (zIt (fun i (q : (Nat → Int32) × Nat) => (zPutG q.1 (nI c - 1 - nI (x + i)) (nI (y + k)) v, q.2 + (if zAt q.1 (nI c - 1 - nI (x + i)) (nI (y + k)) = v then 0 else 1))) j (zIt (fun j q => zIt (fun i (q : (Nat → Int32) × Nat) => (zPutG q.1 (nI c - 1 - nI (x + i)) (nI (y + j)) v, q.2 + (if zAt q.1 (nI c - 1 - nI (x + i)) (nI (y + j)) = v then 0 else 1))) (u + 1 - x) q) k (cart, 0))).2) + 1)), (7, .int (nI (y + k))), (0, .ref 1), (1, .int (nI x)), (2, .int (nI y)), (3, .int (nI u)), (4, .int (nI z)), (5, .int v)]) 1 dX4_paint_87 rfl (nI_1 (x + j)) (by decide) rfl ?_
                    refine z_goto (tgt := 25) dX4_paint_90 (by decide) ?_
                    refine z_sub [0, 1, 2, 3, 4, 5, 6, 7, 8] (lv' := [(8, .int (nI ((x + j) + 1))), (6, .int ((nI (zIt (fun i (q : (Nat → Int32) × Nat) => (zPutG q.1 (nI c - 1 - nI (x + i)) (nI (y + k)) v, q.2 + (if zAt q.1 (nI c - 1 - nI (x + i)) (nI (y + k)) = v then 0 else 1))) j (zIt (fun j q => zIt (fun i (q : (Nat → Int32) × Nat) => (zPutG q.1 (nI c - 1 - nI (x + i)) (nI (y + j)) v, q.2 + (if zAt q.1 (nI c - 1 - nI (x + i)) (nI (y + j)) = v then 0 else 1))) (u + 1 - x) q) k (cart, 0))).2) + 1)), (7, .int (nI (y + k))), (0, .ref 1), (1, .int (nI x)), (2, .int (nI y)), (3, .int (nI u)), (4, .int (nI z)), (5, .int v)]) rfl ?_
                    refine z_eqs (lv2 := [(8, .int (nI (x + (j + 1)))), (6, .int (nI (zIt (fun i (q : (Nat → Int32) × Nat) => (zPutG q.1 (nI c - 1 - nI (x + i)) (nI (y + k)) v, q.2 + (if zAt q.1 (nI c - 1 - nI (x + i)) (nI (y + k)) = v then 0 else 1))) (j + 1) (zIt (fun j q => zIt (fun i (q : (Nat → Int32) × Nat) => (zPutG q.1 (nI c - 1 - nI (x + i)) (nI (y + j)) v, q.2 + (if zAt q.1 (nI c - 1 - nI (x + i)) (nI (y + j)) = v then 0 else 1))) (u + 1 - x) q) k (cart, 0))).2)), (7, .int (nI (y + k))), (0, .ref 1), (1, .int (nI x)), (2, .int (nI y)), (3, .int (nI u)), (4, .int (nI z)), (5, .int v)]) (h2 := (zHp (c, r, w, lim, tol, (zIt (fun i (q : (Nat → Int32) × Nat) => (zPutG q.1 (nI c - 1 - nI (x + i)) (nI (y + k)) v, q.2 + (if zAt q.1 (nI c - 1 - nI (x + i)) (nI (y + k)) = v then 0 else 1))) (j + 1) (zIt (fun j q => zIt (fun i (q : (Nat → Int32) × Nat) => (zPutG q.1 (nI c - 1 - nI (x + i)) (nI (y + j)) v, q.2 + (if zAt q.1 (nI c - 1 - nI (x + i)) (nI (y + j)) = v then 0 else 1))) (u + 1 - x) q) k (cart, 0))).1, wov, lot, sew, mis, cnt, col, len, lef, sbt, shd) X Y out)) (by first | (simp only [zIt, if_pos c_59, Nat.add_zero, Int32.add_zero, Nat.add_assoc]; done) | (simp only [zIt, if_neg c_59, nI_1, Nat.add_assoc])) (by rfl) ?_
                    exact ih25 (j + 1) (by omega) (by omega)
          refine z_sub [0, 2, 1, 3, 4, 5, 6, 7, 8] (lv' := [(8, .int (nI x)), (6, .int (nI (zIt (fun j q => zIt (fun i (q : (Nat → Int32) × Nat) => (zPutG q.1 (nI c - 1 - nI (x + i)) (nI (y + j)) v, q.2 + (if zAt q.1 (nI c - 1 - nI (x + i)) (nI (y + j)) = v then 0 else 1))) (u + 1 - x) q) k (cart, 0)).2)), (7, .int (nI (y + k))), (0, .ref 1), (1, .int (nI x)), (2, .int (nI y)), (3, .int (nI u)), (4, .int (nI z)), (5, .int v)]) rfl ?_
          refine z_eqs (lv2 := [(8, .int (nI (x + 0))), (6, .int (nI (zIt (fun i (q : (Nat → Int32) × Nat) => (zPutG q.1 (nI c - 1 - nI (x + i)) (nI (y + k)) v, q.2 + (if zAt q.1 (nI c - 1 - nI (x + i)) (nI (y + k)) = v then 0 else 1))) 0 (zIt (fun j q => zIt (fun i (q : (Nat → Int32) × Nat) => (zPutG q.1 (nI c - 1 - nI (x + i)) (nI (y + j)) v, q.2 + (if zAt q.1 (nI c - 1 - nI (x + i)) (nI (y + j)) = v then 0 else 1))) (u + 1 - x) q) k (cart, 0))).2)), (7, .int (nI (y + k))), (0, .ref 1), (1, .int (nI x)), (2, .int (nI y)), (3, .int (nI u)), (4, .int (nI z)), (5, .int v)]) (h2 := (zHp (c, r, w, lim, tol, (zIt (fun i (q : (Nat → Int32) × Nat) => (zPutG q.1 (nI c - 1 - nI (x + i)) (nI (y + k)) v, q.2 + (if zAt q.1 (nI c - 1 - nI (x + i)) (nI (y + k)) = v then 0 else 1))) 0 (zIt (fun j q => zIt (fun i (q : (Nat → Int32) × Nat) => (zPutG q.1 (nI c - 1 - nI (x + i)) (nI (y + j)) v, q.2 + (if zAt q.1 (nI c - 1 - nI (x + i)) (nI (y + j)) = v then 0 else 1))) (u + 1 - x) q) k (cart, 0))).1, wov, lot, sew, mis, cnt, col, len, lef, sbt, shd) X Y out)) (by rfl) (by rfl) ?_
          exact L25_2 ((u + 1 - x) + 1) 0 (Nat.zero_le _) (by omega)
  refine z_sub [0, 1, 2, 3, 4, 5, 6, 7] (lv' := [(7, .int (nI y)), (6, .int 0), (0, .ref 1), (1, .int (nI x)), (2, .int (nI y)), (3, .int (nI u)), (4, .int (nI z)), (5, .int v)]) rfl ?_
  refine z_eqs (lv2 := [(7, .int (nI (y + 0))), (6, .int (nI (zIt (fun j q => zIt (fun i (q : (Nat → Int32) × Nat) => (zPutG q.1 (nI c - 1 - nI (x + i)) (nI (y + j)) v, q.2 + (if zAt q.1 (nI c - 1 - nI (x + i)) (nI (y + j)) = v then 0 else 1))) (u + 1 - x) q) 0 (cart, 0)).2)), (0, .ref 1), (1, .int (nI x)), (2, .int (nI y)), (3, .int (nI u)), (4, .int (nI z)), (5, .int v)]) (h2 := (zHp (c, r, w, lim, tol, (zIt (fun j q => zIt (fun i (q : (Nat → Int32) × Nat) => (zPutG q.1 (nI c - 1 - nI (x + i)) (nI (y + j)) v, q.2 + (if zAt q.1 (nI c - 1 - nI (x + i)) (nI (y + j)) = v then 0 else 1))) (u + 1 - x) q) 0 (cart, 0)).1, wov, lot, sew, mis, cnt, col, len, lef, sbt, shd) X Y out)) (by rfl) (by rfl) ?_
  exact L6_1 ((z + 1 - y) + 1) 0 (Nat.zero_le _) (by omega)

theorem fa_or9 (a b : Nat) : nI a ||| nI b = nI (a ||| b) := by
  refine Int32.toBitVec_inj.mp ?_
  show (nI a).toBitVec ||| (nI b).toBitVec = (nI (a ||| b)).toBitVec
  refine BitVec.eq_of_toNat_eq ?_
  simp [nI, Nat.or_mod_two_pow]

theorem fp_half {x : UInt32} (hx : zPos x) : vf_n32 (FP.fmul x 1056964608) ∧ zPos (FP.fmul x 1056964608) := fx_half hx
theorem fp_dbl {x : UInt32} (hx : zPos x) : vf_n32 (FP.fmul x FP.fconst2) ∧ zPos (FP.fmul x FP.fconst2) := fx_dbl hx
theorem fp_i2f (n : Nat) (hn : n < 2 ^ 31) : zPos (FP.i2f (nI n)) := fx_i2f n hn
def zFbN (b : Nat) : UInt32 := zIt (fun _ x => FP.fmul x 1056964608) (150 - max (b / 2 ^ 23) 1) (FP.i2f (nI (if b / 2 ^ 23 = 0 then b % 2 ^ 23 else b % 2 ^ 23 ||| 8388608)))
theorem fb_low (b : Nat) (hb : b < 2 ^ 31) : nI b &&& 8388607 = nI (b % 2 ^ 23) := pk_andN (by omega) 23 (by decide)
theorem fb_exp (b : Nat) (hb : b < 2 ^ 31) : ((nI b).toUInt32 >>> ((nI 23).toUInt32 &&& Int32.toUInt32 31)).toInt32 = nI (b / 2 ^ 23) := pk_ushrN (by omega) (nI 23) 23 (by decide)
theorem fb_or (b : Nat) : nI (b % 2 ^ 23) ||| 8388608 = nI (b % 2 ^ 23 ||| 8388608) := fa_or9 _ _

set_option maxHeartbeats 4000000 in
set_option maxRecDepth 100000 in
theorem c_fromBitsN {G : zT} {h : zH} (hG : zAl G = false) (hlen : h.length < 1000) (b : Nat) (h0 : 0 < b) (hb : b < 2 ^ 31) : zRun G mX7_fromBits 0 0 [.int (nI b)] h (.inr (some (.float (zFbN b)))) h := by
  refine zRun_of (by decide +kernel) rfl rfl (Nat.le_of_ble_eq_true rfl) ?_
  suffices hs : ∀ (o9 : zO) (h9 : zH), (Sum.inr (some (.float (zFbN b))) : zO) = o9 → h = h9 → zPW G mX7_fromBits 0 0 o9 h9 0 0 0 [(0, .int (nI b))] [] h from hs _ _ rfl rfl
  intro o9 h9 ho9 hh9
  refine z_iload_n 0 dX7_fromBits_0 rfl rfl ?_
  refine z_if_gt (tgt := 6) dX7_fromBits_1 (by decide) (fun c_1 => ?_) (fun c_1 => ?_)
  · skip
    refine z_iload_n 0 dX7_fromBits_6 rfl rfl ?_
    refine z_bipush (v := nI 23) dX7_fromBits_7 (by decide) ?_
    refine z_iushr (v := ((nI b).toUInt32 >>> ((nI 23).toUInt32 &&& Int32.toUInt32 31)).toInt32) dX7_fromBits_9 rfl ?_
    refine z_top (v2 := .int (nI (b / 2 ^ 23))) (by rw [fb_exp b hb]) ?_
    refine z_istore_n (lv' := [(1, .int (nI (b / 2 ^ 23))), (0, .int (nI b))]) dX7_fromBits_10 rfl (by decide) rfl ?_
    refine z_iload_n 1 dX7_fromBits_11 rfl rfl ?_
    refine z_ldc zw_341 dX7_fromBits_12 ?_
    refine z_iand dX7_fromBits_14 ?_
    refine z_top (v2 := .int (nI (b % 2 ^ 23))) (by rw [fb_low b hb]) ?_
    refine z_istore_n (lv' := [(2, .int (nI (b % 2 ^ 23))), (1, .int (nI (b / 2 ^ 23))), (0, .int (nI b))]) dX7_fromBits_15 rfl (by decide) rfl ?_
    refine z_iload_n 1 dX7_fromBits_16 rfl rfl ?_
    refine z_if_ne (tgt := 24) dX7_fromBits_17 (by decide) (fun c_17 => ?_) (fun c_17 => ?_)
    · skip
      refine z_iload_n 0 dX7_fromBits_24 rfl rfl ?_
      refine z_ldc zw_342 dX7_fromBits_25 ?_
      refine z_ior dX7_fromBits_27 ?_
      refine z_top (v2 := .int (nI (b % 2 ^ 23 ||| 8388608))) (by rw [fb_or]) ?_
      refine z_i2f dX7_fromBits_28 ?_
      refine z_top (v2 := .float (FP.i2f (nI (if b / 2 ^ 23 = 0 then b % 2 ^ 23 else b % 2 ^ 23 ||| 8388608)))) (by first | (rw [if_neg (fun q => c_17 (by rw [q]; rfl))]; done) | rw [if_pos (Nat.eq_zero_of_not_pos fun q => nI_ne0 q (by omega) c_17)]) ?_
      refine z_fstore_n (lv' := [(3, .float (FP.i2f (nI (if b / 2 ^ 23 = 0 then b % 2 ^ 23 else b % 2 ^ 23 ||| 8388608)))), (2, .int (nI (b % 2 ^ 23))), (1, .int (nI (b / 2 ^ 23))), (0, .int (nI b))]) dX7_fromBits_29 rfl (by decide) rfl ?_
      refine z_iload_n 2 dX7_fromBits_30 rfl rfl ?_
      refine z_iconst (v := 1) dX7_fromBits_31 (by decide) ?_
      refine z_mmax zw_343 (by decide) (Nat.le_of_ble_eq_true rfl) ⟨Nat.zero_le _, Nat.zero_le _⟩ dX7_fromBits_32 ?_
      refine z_top (v2 := .int (nI (max (b / 2 ^ 23) 1))) (by rw [show (1 : Int32) = nI 1 from rfl, nI_max (by omega) (by omega)]) ?_
      refine z_istore (lv' := [(4, .int (nI (max (b / 2 ^ 23) 1))), (3, .float (FP.i2f (nI (if b / 2 ^ 23 = 0 then b % 2 ^ 23 else b % 2 ^ 23 ||| 8388608)))), (2, .int (nI (b % 2 ^ 23))), (1, .int (nI (b / 2 ^ 23))), (0, .int (nI b))]) dX7_fromBits_35 (by decide) rfl ?_
      have L37_1 : ∀ (d k : Nat), k ≤ (150 - max (b / 2 ^ 23) 1) → (150 - max (b / 2 ^ 23) 1) + 1 ≤ k + d → zPW G mX7_fromBits 0 0 o9 h9 0 0 37 [(4, .int (nI (max (b / 2 ^ 23) 1 + k))), (3, .float (zIt (fun _ x => FP.fmul x 1056964608) k (FP.i2f (nI (if b / 2 ^ 23 = 0 then b % 2 ^ 23 else b % 2 ^ 23 ||| 8388608))))), (0, .int (nI b))] [] h := by
        intro d
        induction d with
        | zero => intro k hk hd; exact absurd hd (by omega)
        | succ d ih =>
          intro k hk_k hd_k
          have ih37 := ih
          clear ih
          refine z_iload 0 dX7_fromBits_37 rfl ?_
          refine z_sipush (v := nI 150) dX7_fromBits_39 (by decide) ?_
          refine z_icmp_ge (tgt := 56) dX7_fromBits_42 (by decide) (fun c_42 => ?_) (fun c_42 => ?_)
          · skip
            have hx_k : k = 150 - max (b / 2 ^ 23) 1 := by
              have := (nI_leI (by omega) (by omega)).mp c_42
              omega
            refine z_fload_n 1 dX7_fromBits_56 rfl rfl ?_
            exact z_fret rfl dX7_fromBits_57 (zo_f ho9 (by rw [zFbN, hx_k])) (zo_h hh9 (by rfl)) (Nat.zero_le _) (Nat.zero_le _)
          · skip
            have hx_k : k < 150 - max (b / 2 ^ 23) 1 := by
              have : ¬ 150 ≤ max (b / 2 ^ 23) 1 + k := fun q => c_42 ((nI_leI (by omega) (by omega)).mpr q)
              omega
            refine z_fload_n 1 dX7_fromBits_45 rfl rfl ?_
            refine z_ldcf zw_344 dX7_fromBits_46 ?_
            refine z_fmul dX7_fromBits_48 (by exact (fp_half (zIt_inv (P := zPos) (fun _ _ h => (fp_half h).2) _ _ (fp_i2f _ (by split <;> first | omega | exact zN_or (Nat.mod_lt _ (by decide)))))).1) ?_
            refine z_fstore_n (lv' := [(3, .float (FP.fmul (zIt (fun _ x => FP.fmul x 1056964608) k (FP.i2f (nI (if b / 2 ^ 23 = 0 then b % 2 ^ 23 else b % 2 ^ 23 ||| 8388608)))) 1056964608)), (4, .int (nI (max (b / 2 ^ 23) 1 + k))), (0, .int (nI b))]) dX7_fromBits_49 rfl (by decide) rfl ?_
            refine z_iinc (v := nI ((max (b / 2 ^ 23) 1 + k) + 1)) (lv' := [(4, .int (nI ((max (b / 2 ^ 23) 1 + k) + 1))), (3, .float (FP.fmul (zIt (fun _ x => FP.fmul x 1056964608) k (FP.i2f (nI (if b / 2 ^ 23 = 0 then b % 2 ^ 23 else b % 2 ^ 23 ||| 8388608)))) 1056964608)), (0, .int (nI b))]) 1 dX7_fromBits_50 rfl (nI_1 (max (b / 2 ^ 23) 1 + k)) (by decide) rfl ?_
            refine z_goto (tgt := 37) dX7_fromBits_53 (by decide) ?_
            refine z_sub [0, 1, 2] (lv' := [(4, .int (nI ((max (b / 2 ^ 23) 1 + k) + 1))), (3, .float (FP.fmul (zIt (fun _ x => FP.fmul x 1056964608) k (FP.i2f (nI (if b / 2 ^ 23 = 0 then b % 2 ^ 23 else b % 2 ^ 23 ||| 8388608)))) 1056964608)), (0, .int (nI b))]) rfl ?_
            refine z_eqs (lv2 := [(4, .int (nI (max (b / 2 ^ 23) 1 + (k + 1)))), (3, .float (zIt (fun _ x => FP.fmul x 1056964608) (k + 1) (FP.i2f (nI (if b / 2 ^ 23 = 0 then b % 2 ^ 23 else b % 2 ^ 23 ||| 8388608))))), (0, .int (nI b))]) (h2 := h) (by rfl) (by rfl) ?_
            exact ih37 (k + 1) (by omega) (by omega)
      refine z_sub [0, 1, 4] (lv' := [(4, .int (nI (max (b / 2 ^ 23) 1))), (3, .float (FP.i2f (nI (if b / 2 ^ 23 = 0 then b % 2 ^ 23 else b % 2 ^ 23 ||| 8388608)))), (0, .int (nI b))]) rfl ?_
      refine z_eqs (lv2 := [(4, .int (nI (max (b / 2 ^ 23) 1 + 0))), (3, .float (zIt (fun _ x => FP.fmul x 1056964608) 0 (FP.i2f (nI (if b / 2 ^ 23 = 0 then b % 2 ^ 23 else b % 2 ^ 23 ||| 8388608))))), (0, .int (nI b))]) (h2 := h) (by rfl) (by rfl) ?_
      exact L37_1 ((150 - max (b / 2 ^ 23) 1) + 1) 0 (Nat.zero_le _) (by omega)
    · skip
      refine z_iload_n 0 dX7_fromBits_20 rfl rfl ?_
      refine z_goto (tgt := 28) dX7_fromBits_21 (by decide) ?_
      refine z_i2f dX7_fromBits_28 ?_
      refine z_top (v2 := .float (FP.i2f (nI (if b / 2 ^ 23 = 0 then b % 2 ^ 23 else b % 2 ^ 23 ||| 8388608)))) (by first | (rw [if_neg (fun q => c_17 (by rw [q]; rfl))]; done) | rw [if_pos (Nat.eq_zero_of_not_pos fun q => nI_ne0 q (by omega) c_17)]) ?_
      refine z_fstore_n (lv' := [(3, .float (FP.i2f (nI (if b / 2 ^ 23 = 0 then b % 2 ^ 23 else b % 2 ^ 23 ||| 8388608)))), (2, .int (nI (b % 2 ^ 23))), (1, .int (nI (b / 2 ^ 23))), (0, .int (nI b))]) dX7_fromBits_29 rfl (by decide) rfl ?_
      refine z_iload_n 2 dX7_fromBits_30 rfl rfl ?_
      refine z_iconst (v := 1) dX7_fromBits_31 (by decide) ?_
      refine z_mmax zw_343 (by decide) (Nat.le_of_ble_eq_true rfl) ⟨Nat.zero_le _, Nat.zero_le _⟩ dX7_fromBits_32 ?_
      refine z_top (v2 := .int (nI (max (b / 2 ^ 23) 1))) (by rw [show (1 : Int32) = nI 1 from rfl, nI_max (by omega) (by omega)]) ?_
      refine z_istore (lv' := [(4, .int (nI (max (b / 2 ^ 23) 1))), (3, .float (FP.i2f (nI (if b / 2 ^ 23 = 0 then b % 2 ^ 23 else b % 2 ^ 23 ||| 8388608)))), (2, .int (nI (b % 2 ^ 23))), (1, .int (nI (b / 2 ^ 23))), (0, .int (nI b))]) dX7_fromBits_35 (by decide) rfl ?_
      have L37_2 : ∀ (d k : Nat), k ≤ (150 - max (b / 2 ^ 23) 1) → (150 - max (b / 2 ^ 23) 1) + 1 ≤ k + d → zPW G mX7_fromBits 0 0 o9 h9 0 0 37 [(4, .int (nI (max (b / 2 ^ 23) 1 + k))), (3, .float (zIt (fun _ x => FP.fmul x 1056964608) k (FP.i2f (nI (if b / 2 ^ 23 = 0 then b % 2 ^ 23 else b % 2 ^ 23 ||| 8388608))))), (0, .int (nI b))] [] h := by
        intro d
        induction d with
        | zero => intro k hk hd; exact absurd hd (by omega)
        | succ d ih =>
          intro k hk_k hd_k
          have ih37 := ih
          clear ih
          refine z_iload 0 dX7_fromBits_37 rfl ?_
          refine z_sipush (v := nI 150) dX7_fromBits_39 (by decide) ?_
          refine z_icmp_ge (tgt := 56) dX7_fromBits_42 (by decide) (fun c_42 => ?_) (fun c_42 => ?_)
          · skip
            have hx_k : k = 150 - max (b / 2 ^ 23) 1 := by
              have := (nI_leI (by omega) (by omega)).mp c_42
              omega
            refine z_fload_n 1 dX7_fromBits_56 rfl rfl ?_
            exact z_fret rfl dX7_fromBits_57 (zo_f ho9 (by rw [zFbN, hx_k])) (zo_h hh9 (by rfl)) (Nat.zero_le _) (Nat.zero_le _)
          · skip
            have hx_k : k < 150 - max (b / 2 ^ 23) 1 := by
              have : ¬ 150 ≤ max (b / 2 ^ 23) 1 + k := fun q => c_42 ((nI_leI (by omega) (by omega)).mpr q)
              omega
            refine z_fload_n 1 dX7_fromBits_45 rfl rfl ?_
            refine z_ldcf zw_344 dX7_fromBits_46 ?_
            refine z_fmul dX7_fromBits_48 (by exact (fp_half (zIt_inv (P := zPos) (fun _ _ h => (fp_half h).2) _ _ (fp_i2f _ (by split <;> first | omega | exact zN_or (Nat.mod_lt _ (by decide)))))).1) ?_
            refine z_fstore_n (lv' := [(3, .float (FP.fmul (zIt (fun _ x => FP.fmul x 1056964608) k (FP.i2f (nI (if b / 2 ^ 23 = 0 then b % 2 ^ 23 else b % 2 ^ 23 ||| 8388608)))) 1056964608)), (4, .int (nI (max (b / 2 ^ 23) 1 + k))), (0, .int (nI b))]) dX7_fromBits_49 rfl (by decide) rfl ?_
            refine z_iinc (v := nI ((max (b / 2 ^ 23) 1 + k) + 1)) (lv' := [(4, .int (nI ((max (b / 2 ^ 23) 1 + k) + 1))), (3, .float (FP.fmul (zIt (fun _ x => FP.fmul x 1056964608) k (FP.i2f (nI (if b / 2 ^ 23 = 0 then b % 2 ^ 23 else b % 2 ^ 23 ||| 8388608)))) 1056964608)), (0, .int (nI b))]) 1 dX7_fromBits_50 rfl (nI_1 (max (b / 2 ^ 23) 1 + k)) (by decide) rfl ?_
            refine z_goto (tgt := 37) dX7_fromBits_53 (by decide) ?_
            refine z_sub [0, 1, 2] (lv' := [(4, .int (nI ((max (b / 2 ^ 23) 1 + k) + 1))), (3, .float (FP.fmul (zIt (fun _ x => FP.fmul x 1056964608) k (FP.i2f (nI (if b / 2 ^ 23 = 0 then b % 2 ^ 23 else b % 2 ^ 23 ||| 8388608)))) 1056964608)), (0, .int (nI b))]) rfl ?_
            refine z_eqs (lv2 := [(4, .int (nI (max (b / 2 ^ 23) 1 + (k + 1)))), (3, .float (zIt (fun _ x => FP.fmul x 1056964608) (k + 1) (FP.i2f (nI (if b / 2 ^ 23 = 0 then b % 2 ^ 23 else b % 2 ^ 23 ||| 8388608))))), (0, .int (nI b))]) (h2 := h) (by rfl) (by rfl) ?_
            exact ih37 (k + 1) (by omega) (by omega)
      refine z_sub [0, 1, 4] (lv' := [(4, .int (nI (max (b / 2 ^ 23) 1))), (3, .float (FP.i2f (nI (if b / 2 ^ 23 = 0 then b % 2 ^ 23 else b % 2 ^ 23 ||| 8388608)))), (0, .int (nI b))]) rfl ?_
      refine z_eqs (lv2 := [(4, .int (nI (max (b / 2 ^ 23) 1 + 0))), (3, .float (zIt (fun _ x => FP.fmul x 1056964608) 0 (FP.i2f (nI (if b / 2 ^ 23 = 0 then b % 2 ^ 23 else b % 2 ^ 23 ||| 8388608))))), (0, .int (nI b))]) (h2 := h) (by rfl) (by rfl) ?_
      exact L37_2 ((150 - max (b / 2 ^ 23) 1) + 1) 0 (Nat.zero_le _) (by omega)
  · exfalso; exact c_1 (by rw [show (0 : Int32) = nI 0 from rfl]; exact (nI_ltI (by omega) (by omega)).mpr h0)

def zFb (x : Int32) : UInt32 := if 0 < x then zFbN x.toNatClampNeg else FP.fconst0

set_option maxHeartbeats 4000000 in
set_option maxRecDepth 100000 in
theorem c_fromBits0 {G : zT} {h : zH} (hG : zAl G = false) (hlen : h.length < 1000) (x : Int32) (hx : ¬ 0 < x) : zRun G mX7_fromBits 0 0 [.int x] h (.inr (some (.float (FP.fconst0)))) h := by
  refine zRun_of (by decide +kernel) rfl rfl (Nat.le_of_ble_eq_true rfl) ?_
  suffices hs : ∀ (o9 : zO) (h9 : zH), (Sum.inr (some (.float (FP.fconst0))) : zO) = o9 → h = h9 → zPW G mX7_fromBits 0 0 o9 h9 0 0 0 [(0, .int x)] [] h from hs _ _ rfl rfl
  intro o9 h9 ho9 hh9
  refine z_iload_n 0 dX7_fromBits_0 rfl rfl ?_
  refine z_if_gt (tgt := 6) dX7_fromBits_1 (by decide) (fun c_1 => ?_) (fun c_1 => ?_)
  · exfalso; exact hx c_1
  · skip
    refine z_fconst0 dX7_fromBits_4 ?_
    exact z_fret rfl dX7_fromBits_5 (zo_f ho9 (by rfl)) (zo_h hh9 (by rfl)) (Nat.zero_le _) (Nat.zero_le _)

theorem c_fromBits {G : zT} {h : zH} (hG : zAl G = false) (hlen : h.length < 1000) (x : Int32) : zRun G mX7_fromBits 0 0 [.int x] h (.inr (some (.float (zFb x)))) h := by
  unfold zFb
  by_cases hx : 0 < x
  · rw [if_pos hx]
    obtain ⟨j, hj, rfl⟩ := nI_of (x := x) (fun q => Int32.lt_irrefl (Int32.lt_trans hx q))
    rw [nI_clamp hj]
    exact c_fromBitsN hG hlen j (Nat.pos_of_ne_zero fun q => by subst q; exact absurd hx (by decide)) hj
  · rw [if_neg hx]
    exact c_fromBits0 hG hlen x hx

set_option maxHeartbeats 4000000 in
set_option maxRecDepth 100000 in
theorem c_include {G : zT} {c r w lim cnt : Nat} {tol : Int32} {cart wov lot sew mis col len lef sbt : Nat → Int32} {shd : Nat → UInt32} {X : zXr} {Y : zYr} {out : Nat → Int64} (hG : zAl G = false) (hc : c ≤ 20) (hr : r ≤ 16) (hw : w ≤ r) (hn : cnt ≤ 16) (hn16 : cnt < 16) (v l s : Int32) : zRun G mX5_include 0 0 [.ref 12, .int v, .int l, .int s] (zHp (c, r, w, lim, tol, cart, wov, lot, sew, mis, cnt, col, len, lef, sbt, shd) X Y out) (.inr (some (.int (nI cnt)))) (zHp (c, r, w, lim, tol, cart, wov, lot, sew, mis, (cnt + 1), (zPutN 16 col (nI cnt) v), (zPutN 16 len (nI cnt) l), (zPutN 16 lef (nI cnt) l), (zPutN 16 sbt (nI cnt) s), (zPutS shd (nI cnt) (zFb s))) X Y out) := by
  refine zRun_of (by decide +kernel) rfl rfl (Nat.le_of_ble_eq_true rfl) ?_
  suffices hs : ∀ (o9 : zO) (h9 : zH), (Sum.inr (some (.int (nI cnt))) : zO) = o9 → (zHp (c, r, w, lim, tol, cart, wov, lot, sew, mis, (cnt + 1), (zPutN 16 col (nI cnt) v), (zPutN 16 len (nI cnt) l), (zPutN 16 lef (nI cnt) l), (zPutN 16 sbt (nI cnt) s), (zPutS shd (nI cnt) (zFb s))) X Y out) = h9 → zPW G mX5_include 0 0 o9 h9 0 0 0 [(0, .ref 12), (1, .int v), (2, .int l), (3, .int s)] [] (zHp (c, r, w, lim, tol, cart, wov, lot, sew, mis, cnt, col, len, lef, sbt, shd) X Y out) from hs _ _ rfl rfl
  intro o9 h9 ho9 hh9
  refine z_aload_n 0 dX5_include_0 rfl rfl ?_
  refine z_get (v := .int (nI cnt)) 0 zgo_12 rfl inX5 (by decide) zw_100 rfl rfl dX5_include_1 ?_
  refine z_bipush (v := nI 16) dX5_include_4 (by decide) ?_
  refine z_icmp_lt (tgt := 11) dX5_include_6 (by decide) (fun c_6 => ?_) (fun c_6 => ?_)
  · skip
    refine z_aload_n 0 dX5_include_11 rfl rfl ?_
    refine z_get (v := .ref 13) 1 zgo_12 rfl inX5 (by decide) zw_103 rfl rfl dX5_include_12 ?_
    refine z_aload_n 0 dX5_include_15 rfl rfl ?_
    refine z_get (v := .int (nI cnt)) 0 zgo_12 rfl inX5 (by decide) zw_100 rfl rfl dX5_include_16 ?_
    refine z_iload_n 1 dX5_include_19 rfl rfl ?_
    refine z_callV (N := mX6_put) 2 [.int (nI cnt), .int v] [] lX6_put ⟨zw_692, zw_693, zw_694⟩ rfl zgo_13 rfl rfl (Nat.le_of_ble_eq_true rfl) (by decide) ⟨zlt, zlt⟩ ⟨Nat.zero_le _, Nat.zero_le _⟩ zal (c_nPut (g := 13) (v := 14) (n := 16) (f := col) (h1 := (zHp (c, r, w, lim, tol, cart, wov, lot, sew, mis, cnt, (zPutN 16 col (nI cnt) v), len, lef, sbt, shd) X Y out)) (by omega) zlt zgo_13 zga_14 (nI cnt) v zsa_14) dX5_include_20 ?_
    refine z_aload_n 0 dX5_include_23 rfl rfl ?_
    refine z_get (v := .ref 15) 2 zgo_12 rfl inX5 (by decide) zw_105 rfl rfl dX5_include_24 ?_
    refine z_aload_n 0 dX5_include_27 rfl rfl ?_
    refine z_get (v := .int (nI cnt)) 0 zgo_12 rfl inX5 (by decide) zw_100 rfl rfl dX5_include_28 ?_
    refine z_iload_n 2 dX5_include_31 rfl rfl ?_
    refine z_callV (N := mX6_put) 2 [.int (nI cnt), .int l] [] lX6_put ⟨zw_692, zw_693, zw_694⟩ rfl zgo_15 rfl rfl (Nat.le_of_ble_eq_true rfl) (by decide) ⟨zlt, zlt⟩ ⟨Nat.zero_le _, Nat.zero_le _⟩ zal (c_nPut (g := 15) (v := 16) (n := 16) (f := len) (h1 := (zHp (c, r, w, lim, tol, cart, wov, lot, sew, mis, cnt, (zPutN 16 col (nI cnt) v), (zPutN 16 len (nI cnt) l), lef, sbt, shd) X Y out)) (by omega) zlt zgo_15 zga_16 (nI cnt) l zsa_16) dX5_include_32 ?_
    refine z_aload_n 0 dX5_include_35 rfl rfl ?_
    refine z_get (v := .ref 17) 3 zgo_12 rfl inX5 (by decide) zw_107 rfl rfl dX5_include_36 ?_
    refine z_aload_n 0 dX5_include_39 rfl rfl ?_
    refine z_get (v := .int (nI cnt)) 0 zgo_12 rfl inX5 (by decide) zw_100 rfl rfl dX5_include_40 ?_
    refine z_iload_n 2 dX5_include_43 rfl rfl ?_
    refine z_callV (N := mX6_put) 2 [.int (nI cnt), .int l] [] lX6_put ⟨zw_692, zw_693, zw_694⟩ rfl zgo_17 rfl rfl (Nat.le_of_ble_eq_true rfl) (by decide) ⟨zlt, zlt⟩ ⟨Nat.zero_le _, Nat.zero_le _⟩ zal (c_nPut (g := 17) (v := 18) (n := 16) (f := lef) (h1 := (zHp (c, r, w, lim, tol, cart, wov, lot, sew, mis, cnt, (zPutN 16 col (nI cnt) v), (zPutN 16 len (nI cnt) l), (zPutN 16 lef (nI cnt) l), sbt, shd) X Y out)) (by omega) zlt zgo_17 zga_18 (nI cnt) l zsa_18) dX5_include_44 ?_
    refine z_aload_n 0 dX5_include_47 rfl rfl ?_
    refine z_get (v := .ref 19) 4 zgo_12 rfl inX5 (by decide) zw_109 rfl rfl dX5_include_48 ?_
    refine z_aload_n 0 dX5_include_51 rfl rfl ?_
    refine z_get (v := .int (nI cnt)) 0 zgo_12 rfl inX5 (by decide) zw_100 rfl rfl dX5_include_52 ?_
    refine z_iload_n 3 dX5_include_55 rfl rfl ?_
    refine z_callV (N := mX6_put) 2 [.int (nI cnt), .int s] [] lX6_put ⟨zw_692, zw_693, zw_694⟩ rfl zgo_19 rfl rfl (Nat.le_of_ble_eq_true rfl) (by decide) ⟨zlt, zlt⟩ ⟨Nat.zero_le _, Nat.zero_le _⟩ zal (c_nPut (g := 19) (v := 20) (n := 16) (f := sbt) (h1 := (zHp (c, r, w, lim, tol, cart, wov, lot, sew, mis, cnt, (zPutN 16 col (nI cnt) v), (zPutN 16 len (nI cnt) l), (zPutN 16 lef (nI cnt) l), (zPutN 16 sbt (nI cnt) s), shd) X Y out)) (by omega) zlt zgo_19 zga_20 (nI cnt) s zsa_20) dX5_include_56 ?_
    refine z_aload_n 0 dX5_include_59 rfl rfl ?_
    refine z_aload_n 0 dX5_include_60 rfl rfl ?_
    refine z_get (v := .int (nI cnt)) 0 zgo_12 rfl inX5 (by decide) zw_100 rfl rfl dX5_include_61 ?_
    refine z_iload_n 3 dX5_include_64 rfl rfl ?_
    refine z_callSO (N := mX7_fromBits) 1 [.int s] [.int (nI cnt), .ref 12] lX7_fromBits ⟨zw_696, zw_339⟩ rfl rfl (Nat.le_of_ble_eq_true rfl) (by decide) ⟨zlt, zlt⟩ hG ⟨Nat.zero_le _, Nat.zero_le _⟩ (c_fromBits hG zlt s) dX5_include_65 ?_
    refine z_callV (N := mX5_putShade) 2 [.int (nI cnt), .float (zFb s)] [] lX5_putShade ⟨zw_625, zw_627, zw_28⟩ rfl zgo_12 rfl rfl (Nat.le_of_ble_eq_true rfl) (by decide) ⟨zlt, zlt⟩ ⟨Nat.zero_le _, Nat.zero_le _⟩ zal (c_lPutShade (g := 12) (v := 21) (f := shd) (h1 := (zHp (c, r, w, lim, tol, cart, wov, lot, sew, mis, cnt, (zPutN 16 col (nI cnt) v), (zPutN 16 len (nI cnt) l), (zPutN 16 lef (nI cnt) l), (zPutN 16 sbt (nI cnt) s), (zPutS shd (nI cnt) (zFb s))) X Y out)) zlt zgo_12 zga_21 (nI cnt) (zFb s) zsa_21) dX5_include_68 ?_
    refine z_aload_n 0 dX5_include_71 rfl rfl ?_
    refine z_dup dX5_include_72 rfl ?_
    refine z_get (v := .int (nI cnt)) 0 zgo_12 rfl inX5 (by decide) zw_100 rfl rfl dX5_include_73 ?_
    refine z_iconst (v := 1) dX5_include_76 (by decide) ?_
    refine z_iadd dX5_include_77 ?_
    refine z_top (v2 := .int (nI (cnt + 1))) (by rw [nI_1]) ?_
    refine z_puti 0 tyX5 zgo_12 rfl inX5 tyX5_ok nmX5 (by decide) zw_100 rfl rfl (by decide +kernel) (Nat.le_of_ble_eq_true rfl) dX5_include_78 ?_
    refine z_eqh (h2 := (zHp (c, r, w, lim, tol, cart, wov, lot, sew, mis, (cnt + 1), (zPutN 16 col (nI cnt) v), (zPutN 16 len (nI cnt) l), (zPutN 16 lef (nI cnt) l), (zPutN 16 sbt (nI cnt) s), (zPutS shd (nI cnt) (zFb s))) X Y out)) zsf_12_0 ?_
    refine z_aload_n 0 dX5_include_81 rfl rfl ?_
    refine z_get (v := .int (nI (cnt + 1))) 0 zgo_12 rfl inX5 (by decide) zw_100 rfl rfl dX5_include_82 ?_
    refine z_iconst (v := 1) dX5_include_85 (by decide) ?_
    refine z_isub dX5_include_86 ?_
    refine z_top (v2 := .int (nI cnt)) (by rw [nI_pred]) ?_
    exact z_iret rfl dX5_include_87 (zo_i ho9 (by rfl)) (zo_h hh9 (by rfl)) (Nat.zero_le _) (Nat.zero_le _)
  · exfalso; exact c_6 (nI_lt hn16 (by omega))

