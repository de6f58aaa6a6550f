set_option maxHeartbeats 4000000 in
set_option maxRecDepth 100000 in
theorem c_f_slit_0_2 {G : zT} {c r w lim cnt : Nat} {tol : Int32} {cart wov lot sew mis col len lef sbt : Nat → Int32} {shd : Nat → UInt32} {X : zXr} {Y : zYr} {out : Nat → Int64} (hG : zAl G = false) (hc : c ≤ 20) (hr : r ≤ 16) (hw : w ≤ r) (hn : cnt ≤ 16) (hl : lim ≤ 16) (hs : ∀ j, zFinS (shd j)) (hc1 : 1 ≤ c) (h4 : X.2.2.2.2.2.1 < 4) (hc4 : X.2.2.2.2.1 ≤ 4) (ix t : Int32) (hk0 : ix < 0) : zRun G mX9_slit 1 6 [.ref 0, .int ix, .int t] (zHp (c, r, w, lim, tol, cart, wov, lot, sew, mis, cnt, col, len, lef, sbt, shd) X Y out) (.inl "java/lang/IllegalArgumentException") (zHp (c, r, w, lim, tol, cart, wov, lot, sew, mis, cnt, col, len, lef, sbt, shd) X Y out) := by
  refine zRun_of (by decide +kernel) rfl rfl (Nat.le_of_ble_eq_true rfl) ?_
  suffices hs : ∀ (o9 : zO) (h9 : zH), (Sum.inl "java/lang/IllegalArgumentException" : zO) = o9 → (zHp (c, r, w, lim, tol, cart, wov, lot, sew, mis, cnt, col, len, lef, sbt, shd) X Y out) = h9 → zPW G mX9_slit 1 6 o9 h9 0 0 0 [(0, .ref 0), (1, .int ix), (2, .int t)] [] (zHp (c, r, w, lim, tol, cart, wov, lot, sew, mis, cnt, col, len, lef, sbt, shd) X Y out) from hs _ _ rfl rfl
  intro o9 h9 ho9 hh9
  refine z_iload_n 1 dX9_slit_0 rfl rfl ?_
  refine z_if_lt (tgt := 17) dX9_slit_1 (by decide) (fun c_1 => ?_) (fun c_1 => ?_)
  · skip
    refine z_iconst (v := 2) dX9_slit_17 (by decide) ?_
    exact z_callSX (N := mX9_refuse) 1 [.int 2] [] lX9_refuse ⟨zw_495, zw_496⟩ rfl rfl rfl (Nat.le_of_ble_eq_true rfl) (by decide) hG ⟨Nat.le_refl _, Nat.le_refl _⟩ c_refuse_2 dX9_slit_18 ho9.symm (zo_h hh9 (by rfl))
  · exfalso; exact c_1 hk0

set_option maxHeartbeats 4000000 in
set_option maxRecDepth 100000 in
theorem c_f_slit_1_2 {G : zT} {c r w lim cnt : Nat} {tol : Int32} {cart wov lot sew mis col len lef sbt : Nat → Int32} {shd : Nat → UInt32} {X : zXr} {Y : zYr} {out : Nat → Int64} (hG : zAl G = false) (hc : c ≤ 20) (hr : r ≤ 16) (hw : w ≤ r) (hn : cnt ≤ 16) (hl : lim ≤ 16) (hs : ∀ j, zFinS (shd j)) (hc1 : 1 ≤ c) (h4 : X.2.2.2.2.2.1 < 4) (hc4 : X.2.2.2.2.1 ≤ 4) (ix t : Int32) (hk0 : ¬ ix < 0) (hk1 : (zFr 0 t 3) = false) : zRun G mX9_slit 1 6 [.ref 0, .int ix, .int t] (zHp (c, r, w, lim, tol, cart, wov, lot, sew, mis, cnt, col, len, lef, sbt, shd) X Y out) (.inl "java/lang/IllegalArgumentException") (zHp (c, r, w, lim, tol, cart, wov, lot, sew, mis, cnt, col, len, lef, sbt, shd) X Y out) := by
  refine zRun_of (by decide +kernel) rfl rfl (Nat.le_of_ble_eq_true rfl) ?_
  suffices hs : ∀ (o9 : zO) (h9 : zH), (Sum.inl "java/lang/IllegalArgumentException" : zO) = o9 → (zHp (c, r, w, lim, tol, cart, wov, lot, sew, mis, cnt, col, len, lef, sbt, shd) X Y out) = h9 → zPW G mX9_slit 1 6 o9 h9 0 0 0 [(0, .ref 0), (1, .int ix), (2, .int t)] [] (zHp (c, r, w, lim, tol, cart, wov, lot, sew, mis, cnt, col, len, lef, sbt, shd) X Y out) from hs _ _ rfl rfl
  intro o9 h9 ho9 hh9
  refine z_iload_n 1 dX9_slit_0 rfl rfl ?_
  refine z_if_lt (tgt := 17) dX9_slit_1 (by decide) (fun c_1 => ?_) (fun c_1 => ?_)
  · exfalso; exact hk0 c_1
  · skip
    refine z_iconst (v := 0) dX9_slit_4 (by decide) ?_
    refine z_iload_n 2 dX9_slit_5 rfl rfl ?_
    refine z_iconst (v := 3) dX9_slit_6 (by decide) ?_
    refine z_callS (N := mX9_isFrom) 3 [.int 0, .int t, .int 3] [] lX9_isFrom ⟨zw_660, zw_493⟩ rfl rfl rfl (Nat.le_of_ble_eq_true rfl) (by decide) ⟨zlt, zlt⟩ hG ⟨Nat.zero_le _, Nat.zero_le _⟩ (c_isFrom hG zlt 0 t 3) dX9_slit_7 ?_
    refine z_if_eq (tgt := 17) dX9_slit_10 (by decide) (fun c_10 => ?_) (fun c_10 => ?_)
    · skip
      have b_10 := zB_0.mp c_10
      refine z_iconst (v := 2) dX9_slit_17 (by decide) ?_
      exact z_callSX (N := mX9_refuse) 1 [.int 2] [] lX9_refuse ⟨zw_495, zw_496⟩ rfl rfl rfl (Nat.le_of_ble_eq_true rfl) (by decide) hG ⟨Nat.le_refl _, Nat.le_refl _⟩ c_refuse_2 dX9_slit_18 ho9.symm (zo_h hh9 (by rfl))
    · exfalso; exact c_10 (zB_0.mpr hk1)

set_option maxHeartbeats 4000000 in
set_option maxRecDepth 100000 in
theorem c_f_slit_no {G : zT} {c r w lim cnt : Nat} {tol : Int32} {cart wov lot sew mis col len lef sbt : Nat → Int32} {shd : Nat → UInt32} {X : zXr} {Y : zYr} {out : Nat → Int64} (hG : zAl G = false) (hc : c ≤ 20) (hr : r ≤ 16) (hw : w ≤ r) (hn : cnt ≤ 16) (hl : lim ≤ 16) (hs : ∀ j, zFinS (shd j)) (hc1 : 1 ≤ c) (h4 : X.2.2.2.2.2.1 < 4) (hc4 : X.2.2.2.2.1 ≤ 4) (ix t : Int32) (hk0 : ¬ ix < 0) (hk1 : (zFr 0 t 3) = true) (hp9 : zSp wov c w lim ix = -1) : zRun G mX9_slit 0 0 [.ref 0, .int ix, .int t] (zHp (c, r, w, lim, tol, cart, wov, lot, sew, mis, cnt, col, len, lef, sbt, shd) X Y out) (.inr (some (.int (-1)))) (zHp (c, r, w, lim, tol, cart, wov, lot, sew, mis, cnt, col, len, lef, sbt, shd) X Y out) := by
  refine zRun_of (by decide +kernel) rfl rfl (Nat.le_of_ble_eq_true rfl) ?_
  suffices hs : ∀ (o9 : zO) (h9 : zH), (Sum.inr (some (.int (-1))) : zO) = o9 → (zHp (c, r, w, lim, tol, cart, wov, lot, sew, mis, cnt, col, len, lef, sbt, shd) X Y out) = h9 → zPW G mX9_slit 0 0 o9 h9 0 0 0 [(0, .ref 0), (1, .int ix), (2, .int t)] [] (zHp (c, r, w, lim, tol, cart, wov, lot, sew, mis, cnt, col, len, lef, sbt, shd) X Y out) from hs _ _ rfl rfl
  intro o9 h9 ho9 hh9
  refine z_iload_n 1 dX9_slit_0 rfl rfl ?_
  refine z_if_lt (tgt := 17) dX9_slit_1 (by decide) (fun c_1 => ?_) (fun c_1 => ?_)
  · exfalso; exact hk0 c_1
  · skip
    refine z_iconst (v := 0) dX9_slit_4 (by decide) ?_
    refine z_iload_n 2 dX9_slit_5 rfl rfl ?_
    refine z_iconst (v := 3) dX9_slit_6 (by decide) ?_
    refine z_callS (N := mX9_isFrom) 3 [.int 0, .int t, .int 3] [] lX9_isFrom ⟨zw_660, zw_493⟩ rfl rfl rfl (Nat.le_of_ble_eq_true rfl) (by decide) ⟨zlt, zlt⟩ hG ⟨Nat.zero_le _, Nat.zero_le _⟩ (c_isFrom hG zlt 0 t 3) dX9_slit_7 ?_
    refine z_if_eq (tgt := 17) dX9_slit_10 (by decide) (fun c_10 => ?_) (fun c_10 => ?_)
    · exfalso; exact absurd (zB_0.mp c_10) (by rw [hk1]; decide)
    · skip
      have b_10 := zB_tt c_10
      refine z_iconst (v := 0) dX9_slit_13 (by decide) ?_
      refine z_goto (tgt := 18) dX9_slit_14 (by decide) ?_
      refine z_callS (N := mX9_refuse) 1 [.int 0] [] lX9_refuse ⟨zw_495, zw_496⟩ rfl rfl rfl (Nat.le_of_ble_eq_true rfl) (by decide) ⟨zlt, zlt⟩ hG ⟨Nat.zero_le _, Nat.zero_le _⟩ c_refuse_0 dX9_slit_18 ?_
      refine z_aload_n 0 dX9_slit_21 rfl rfl ?_
      refine z_get (v := .ref 1) 0 zgo_0 rfl inX9 (by decide) zw_230 rfl rfl dX9_slit_22 ?_
      refine z_iload_n 1 dX9_slit_25 rfl rfl ?_
      refine z_callV (N := mX4_slitPlace) 1 [.int ix] [] lX4_slitPlace ⟨zw_921, zw_795, zw_796⟩ rfl zgo_1 rfl rfl (Nat.le_of_ble_eq_true rfl) (by decide) ⟨zlt, zlt⟩ ⟨Nat.zero_le _, Nat.zero_le _⟩ (fun _ => rfl) (c_slitPlace hG hc hr hw hn hl ix) dX9_slit_26 ?_
      refine z_top (v2 := .int (-1)) (by rw [hp9]) ?_
      refine z_istore_n (lv' := [(3, .int (-1)), (0, .ref 0), (1, .int ix), (2, .int t)]) dX9_slit_29 rfl (by decide) rfl ?_
      refine z_iload_n 0 dX9_slit_30 rfl rfl ?_
      refine z_iconst (v := (-1)) dX9_slit_31 (by decide) ?_
      refine z_icmp_ne (tgt := 39) dX9_slit_32 (by decide) (fun c_32 => ?_) (fun c_32 => ?_)
      · exfalso; exact c_32 rfl
      · skip
        refine z_iconst (v := (-1)) dX9_slit_35 (by decide) ?_
        refine z_goto (tgt := 55) dX9_slit_36 (by decide) ?_
        exact z_iret rfl dX9_slit_55 (zo_i ho9 (by rfl)) (zo_h hh9 (by rfl)) (Nat.zero_le _) (Nat.zero_le _)

set_option maxHeartbeats 4000000 in
set_option maxRecDepth 100000 in
theorem c_f_slit {G : zT} {c r w lim cnt : Nat} {tol : Int32} {cart wov lot sew mis col len lef sbt : Nat → Int32} {shd : Nat → UInt32} {X : zXr} {Y : zYr} {out : Nat → Int64} (hG : zAl G = false) (hc : c ≤ 20) (hr : r ≤ 16) (hw : w ≤ r) (hn : cnt ≤ 16) (hl : lim ≤ 16) (hs : ∀ j, zFinS (shd j)) (hc1 : 1 ≤ c) (h4 : X.2.2.2.2.2.1 < 4) (hc4 : X.2.2.2.2.1 ≤ 4) (ix t : Int32) (hk0 : ¬ ix < 0) (hk1 : (zFr 0 t 3) = true) (p : Nat) (hp9 : zSp wov c w lim ix = nI p) (hp320 : p < 320) : zRun G mX9_slit 0 0 [.ref 0, .int ix, .int t] (zHp (c, r, w, lim, tol, cart, wov, lot, sew, mis, cnt, col, len, lef, sbt, shd) X Y out) (.inr (some (.int (zSlv wov sew c w (nI (p / 16)) (p % 16) t)))) (zHp (c, r, w, lim, tol, cart, wov, lot, sew, mis, cnt, col, len, lef, sbt, shd) X Y out) := by
  refine zRun_of (by decide +kernel) rfl rfl (Nat.le_of_ble_eq_true rfl) ?_
  suffices hs : ∀ (o9 : zO) (h9 : zH), (Sum.inr (some (.int (zSlv wov sew c w (nI (p / 16)) (p % 16) t))) : zO) = o9 → (zHp (c, r, w, lim, tol, cart, wov, lot, sew, mis, cnt, col, len, lef, sbt, shd) X Y out) = h9 → zPW G mX9_slit 0 0 o9 h9 0 0 0 [(0, .ref 0), (1, .int ix), (2, .int t)] [] (zHp (c, r, w, lim, tol, cart, wov, lot, sew, mis, cnt, col, len, lef, sbt, shd) X Y out) from hs _ _ rfl rfl
  intro o9 h9 ho9 hh9
  refine z_iload_n 1 dX9_slit_0 rfl rfl ?_
  refine z_if_lt (tgt := 17) dX9_slit_1 (by decide) (fun c_1 => ?_) (fun c_1 => ?_)
  · exfalso; exact hk0 c_1
  · skip
    refine z_iconst (v := 0) dX9_slit_4 (by decide) ?_
    refine z_iload_n 2 dX9_slit_5 rfl rfl ?_
    refine z_iconst (v := 3) dX9_slit_6 (by decide) ?_
    refine z_callS (N := mX9_isFrom) 3 [.int 0, .int t, .int 3] [] lX9_isFrom ⟨zw_660, zw_493⟩ rfl rfl rfl (Nat.le_of_ble_eq_true rfl) (by decide) ⟨zlt, zlt⟩ hG ⟨Nat.zero_le _, Nat.zero_le _⟩ (c_isFrom hG zlt 0 t 3) dX9_slit_7 ?_
    refine z_if_eq (tgt := 17) dX9_slit_10 (by decide) (fun c_10 => ?_) (fun c_10 => ?_)
    · exfalso; exact absurd (zB_0.mp c_10) (by rw [hk1]; decide)
    · skip
      have b_10 := zB_tt c_10
      refine z_iconst (v := 0) dX9_slit_13 (by decide) ?_
      refine z_goto (tgt := 18) dX9_slit_14 (by decide) ?_
      refine z_callS (N := mX9_refuse) 1 [.int 0] [] lX9_refuse ⟨zw_495, zw_496⟩ rfl rfl rfl (Nat.le_of_ble_eq_true rfl) (by decide) ⟨zlt, zlt⟩ hG ⟨Nat.zero_le _, Nat.zero_le _⟩ c_refuse_0 dX9_slit_18 ?_
      refine z_aload_n 0 dX9_slit_21 rfl rfl ?_
      refine z_get (v := .ref 1) 0 zgo_0 rfl inX9 (by decide) zw_230 rfl rfl dX9_slit_22 ?_
      refine z_iload_n 1 dX9_slit_25 rfl rfl ?_
      refine z_callV (N := mX4_slitPlace) 1 [.int ix] [] lX4_slitPlace ⟨zw_921, zw_795, zw_796⟩ rfl zgo_1 rfl rfl (Nat.le_of_ble_eq_true rfl) (by decide) ⟨zlt, zlt⟩ ⟨Nat.zero_le _, Nat.zero_le _⟩ (fun _ => rfl) (c_slitPlace hG hc hr hw hn hl ix) dX9_slit_26 ?_
      refine z_top (v2 := .int (nI p)) (by rw [hp9]) ?_
      refine z_istore_n (lv' := [(3, .int (nI p)), (0, .ref 0), (1, .int ix), (2, .int t)]) dX9_slit_29 rfl (by decide) rfl ?_
      refine z_iload_n 0 dX9_slit_30 rfl rfl ?_
      refine z_iconst (v := (-1)) dX9_slit_31 (by decide) ?_
      refine z_icmp_ne (tgt := 39) dX9_slit_32 (by decide) (fun c_32 => ?_) (fun c_32 => ?_)
      · skip
        refine z_aload_n 1 dX9_slit_39 rfl rfl ?_
        refine z_get (v := .ref 1) 0 zgo_0 rfl inX9 (by decide) zw_230 rfl rfl dX9_slit_40 ?_
        refine z_iload_n 0 dX9_slit_43 rfl rfl ?_
        refine z_bipush (v := nI 16) dX9_slit_44 (by decide) ?_
        refine z_idiv dX9_slit_46 (by decide) ?_
        refine z_top (v2 := .int (nI (p / 16))) (by rw [pk_div (a := p) (d := 16) (by omega) (by decide) (by decide)]) ?_
        refine z_iload_n 0 dX9_slit_47 rfl rfl ?_
        refine z_bipush (v := nI 16) dX9_slit_48 (by decide) ?_
        refine z_irem dX9_slit_50 (by decide) ?_
        refine z_top (v2 := .int (nI (p % 16))) (by rw [pk_rem (a := p) (d := 16) (by omega) (by decide) (by decide)]) ?_
        refine z_iload_n 3 dX9_slit_51 rfl rfl ?_
        refine z_callV (N := mX4_slitValue) 3 [.int (nI (p / 16)), .int (nI (p % 16)), .int t] [] lX4_slitValue ⟨zw_467, zw_468, zw_469⟩ rfl zgo_1 rfl rfl (Nat.le_of_ble_eq_true rfl) (by decide) ⟨zlt, zlt⟩ ⟨Nat.zero_le _, Nat.zero_le _⟩ (fun _ => rfl) (c_slitValue hG hc hr hw hn (nI (p / 16)) t (p % 16) (by omega)) dX9_slit_52 ?_
        exact z_iret rfl dX9_slit_55 (zo_i ho9 (by rfl)) (zo_h hh9 (by rfl)) (Nat.zero_le _) (Nat.zero_le _)
      · exact absurd c_32 (nI_m1' (by omega))

