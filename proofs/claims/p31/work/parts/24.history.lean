theorem zMin4 {a : Nat} (h : a ≤ 4) : (if (4 : Int32) < nI a + 1 then (4 : Int32) else nI a + 1) = nI (min (a + 1) 4) := by
  rcases (show a = 0 ∨ a = 1 ∨ a = 2 ∨ a = 3 ∨ a = 4 by omega) with rfl | rfl | rfl | rfl | rfl <;> decide
/-- what a saving leaves -/
def zSvd (S : zS) (X : zXr) : zXr := (if X.2.2.2.2.2.1 = 0 then zCp S X.1 else X.1, if X.2.2.2.2.2.1 = 1 then zCp S X.2.1 else X.2.1, if X.2.2.2.2.2.1 = 2 then zCp S X.2.2.1 else X.2.2.1, if X.2.2.2.2.2.1 = 3 then zCp S X.2.2.2.1 else X.2.2.2.1, min (X.2.2.2.2.1 + 1) 4, (X.2.2.2.2.2.1 + 1) % 4, X.2.2.2.2.2.2)
/-- the saved loom that is restored next -/
def zLast (X : zXr) : zS := if X.2.2.2.2.2.1 = 1 then X.1 else if X.2.2.2.2.2.1 = 2 then X.2.1 else if X.2.2.2.2.2.1 = 3 then X.2.2.1 else X.2.2.2.1

set_option maxHeartbeats 4000000 in
set_option maxRecDepth 100000 in
theorem c_roomAt_0 {G : zT} {S : zS} {sa sb sc sd : zS} {hcn hnx tln wrd pos : Nat} {byt num : Nat → Int32} {flt : Int32} {Y : zYr} {out : Nat → Int64} (hG : zAl G = false) : zRun G mX3_roomAt 0 0 [.ref 22, .int (nI 0)] (zHp S (sa, sb, sc, sd, hcn, hnx, byt, tln, num, wrd, pos, flt) Y out) (.inr (some (.ref 24))) (zHp S (sa, sb, sc, sd, hcn, hnx, byt, tln, num, wrd, pos, flt) Y out) := by
  refine zRun_of (by decide +kernel) rfl rfl (Nat.le_of_ble_eq_true rfl) ?_
  suffices hs : ∀ (o9 : zO) (h9 : zH), (Sum.inr (some (.ref 24)) : zO) = o9 → (zHp S (sa, sb, sc, sd, hcn, hnx, byt, tln, num, wrd, pos, flt) Y out) = h9 → zPW G mX3_roomAt 0 0 o9 h9 0 0 0 [(0, .ref 22), (1, .int (nI 0))] [] (zHp S (sa, sb, sc, sd, hcn, hnx, byt, tln, num, wrd, pos, flt) Y out) from hs _ _ rfl rfl
  intro o9 h9 ho9 hh9
  refine z_iload_n 1 dX3_roomAt_0 rfl rfl ?_
  refine z_if_lt (tgt := 22) dX3_roomAt_1 (by decide) (fun c_1 => ?_) (fun c_1 => ?_)
  · exact absurd c_1 (by decide)
  · skip
    refine z_iload_n 1 dX3_roomAt_4 rfl rfl ?_
    refine z_aload_n 0 dX3_roomAt_5 rfl rfl ?_
    refine z_get (v := .ref 23) 0 zgo_22 rfl inX3 (by decide) zw_179 rfl rfl dX3_roomAt_6 ?_
    refine z_alen (v := nI 4) zga_23 (by decide) rfl dX3_roomAt_9 ?_
    refine z_icmp_ge (tgt := 22) dX3_roomAt_10 (by decide) (fun c_10 => ?_) (fun c_10 => ?_)
    · exact absurd c_10 (by decide)
    · skip
      refine z_aload_n 0 dX3_roomAt_13 rfl rfl ?_
      refine z_get (v := .ref 23) 0 zgo_22 rfl inX3 (by decide) zw_179 rfl rfl dX3_roomAt_14 ?_
      refine z_iload_n 1 dX3_roomAt_17 rfl rfl ?_
      refine z_aald (f := zSv) (n := 4) (y := 24) zga_23 (by exact vp_in_nI (by decide) (by decide)) rfl dX3_roomAt_18 ?_
      refine z_goto (tgt := 23) dX3_roomAt_19 (by decide) ?_
      exact z_aret rfl dX3_roomAt_23 ho9.symm (zo_h hh9 (by rfl)) (Nat.zero_le _) (Nat.zero_le _)

set_option maxHeartbeats 4000000 in
set_option maxRecDepth 100000 in
theorem c_roomAt_1 {G : zT} {S : zS} {sa sb sc sd : zS} {hcn hnx tln wrd pos : Nat} {byt num : Nat → Int32} {flt : Int32} {Y : zYr} {out : Nat → Int64} (hG : zAl G = false) : zRun G mX3_roomAt 0 0 [.ref 22, .int (nI 1)] (zHp S (sa, sb, sc, sd, hcn, hnx, byt, tln, num, wrd, pos, flt) Y out) (.inr (some (.ref 45))) (zHp S (sa, sb, sc, sd, hcn, hnx, byt, tln, num, wrd, pos, flt) Y out) := by
  refine zRun_of (by decide +kernel) rfl rfl (Nat.le_of_ble_eq_true rfl) ?_
  suffices hs : ∀ (o9 : zO) (h9 : zH), (Sum.inr (some (.ref 45)) : zO) = o9 → (zHp S (sa, sb, sc, sd, hcn, hnx, byt, tln, num, wrd, pos, flt) Y out) = h9 → zPW G mX3_roomAt 0 0 o9 h9 0 0 0 [(0, .ref 22), (1, .int (nI 1))] [] (zHp S (sa, sb, sc, sd, hcn, hnx, byt, tln, num, wrd, pos, flt) Y out) from hs _ _ rfl rfl
  intro o9 h9 ho9 hh9
  refine z_iload_n 1 dX3_roomAt_0 rfl rfl ?_
  refine z_if_lt (tgt := 22) dX3_roomAt_1 (by decide) (fun c_1 => ?_) (fun c_1 => ?_)
  · exact absurd c_1 (by decide)
  · skip
    refine z_iload_n 1 dX3_roomAt_4 rfl rfl ?_
    refine z_aload_n 0 dX3_roomAt_5 rfl rfl ?_
    refine z_get (v := .ref 23) 0 zgo_22 rfl inX3 (by decide) zw_179 rfl rfl dX3_roomAt_6 ?_
    refine z_alen (v := nI 4) zga_23 (by decide) rfl dX3_roomAt_9 ?_
    refine z_icmp_ge (tgt := 22) dX3_roomAt_10 (by decide) (fun c_10 => ?_) (fun c_10 => ?_)
    · exact absurd c_10 (by decide)
    · skip
      refine z_aload_n 0 dX3_roomAt_13 rfl rfl ?_
      refine z_get (v := .ref 23) 0 zgo_22 rfl inX3 (by decide) zw_179 rfl rfl dX3_roomAt_14 ?_
      refine z_iload_n 1 dX3_roomAt_17 rfl rfl ?_
      refine z_aald (f := zSv) (n := 4) (y := 45) zga_23 (by exact vp_in_nI (by decide) (by decide)) rfl dX3_roomAt_18 ?_
      refine z_goto (tgt := 23) dX3_roomAt_19 (by decide) ?_
      exact z_aret rfl dX3_roomAt_23 ho9.symm (zo_h hh9 (by rfl)) (Nat.zero_le _) (Nat.zero_le _)

set_option maxHeartbeats 4000000 in
set_option maxRecDepth 100000 in
theorem c_roomAt_2 {G : zT} {S : zS} {sa sb sc sd : zS} {hcn hnx tln wrd pos : Nat} {byt num : Nat → Int32} {flt : Int32} {Y : zYr} {out : Nat → Int64} (hG : zAl G = false) : zRun G mX3_roomAt 0 0 [.ref 22, .int (nI 2)] (zHp S (sa, sb, sc, sd, hcn, hnx, byt, tln, num, wrd, pos, flt) Y out) (.inr (some (.ref 66))) (zHp S (sa, sb, sc, sd, hcn, hnx, byt, tln, num, wrd, pos, flt) Y out) := by
  refine zRun_of (by decide +kernel) rfl rfl (Nat.le_of_ble_eq_true rfl) ?_
  suffices hs : ∀ (o9 : zO) (h9 : zH), (Sum.inr (some (.ref 66)) : zO) = o9 → (zHp S (sa, sb, sc, sd, hcn, hnx, byt, tln, num, wrd, pos, flt) Y out) = h9 → zPW G mX3_roomAt 0 0 o9 h9 0 0 0 [(0, .ref 22), (1, .int (nI 2))] [] (zHp S (sa, sb, sc, sd, hcn, hnx, byt, tln, num, wrd, pos, flt) Y out) from hs _ _ rfl rfl
  intro o9 h9 ho9 hh9
  refine z_iload_n 1 dX3_roomAt_0 rfl rfl ?_
  refine z_if_lt (tgt := 22) dX3_roomAt_1 (by decide) (fun c_1 => ?_) (fun c_1 => ?_)
  · exact absurd c_1 (by decide)
  · skip
    refine z_iload_n 1 dX3_roomAt_4 rfl rfl ?_
    refine z_aload_n 0 dX3_roomAt_5 rfl rfl ?_
    refine z_get (v := .ref 23) 0 zgo_22 rfl inX3 (by decide) zw_179 rfl rfl dX3_roomAt_6 ?_
    refine z_alen (v := nI 4) zga_23 (by decide) rfl dX3_roomAt_9 ?_
    refine z_icmp_ge (tgt := 22) dX3_roomAt_10 (by decide) (fun c_10 => ?_) (fun c_10 => ?_)
    · exact absurd c_10 (by decide)
    · skip
      refine z_aload_n 0 dX3_roomAt_13 rfl rfl ?_
      refine z_get (v := .ref 23) 0 zgo_22 rfl inX3 (by decide) zw_179 rfl rfl dX3_roomAt_14 ?_
      refine z_iload_n 1 dX3_roomAt_17 rfl rfl ?_
      refine z_aald (f := zSv) (n := 4) (y := 66) zga_23 (by exact vp_in_nI (by decide) (by decide)) rfl dX3_roomAt_18 ?_
      refine z_goto (tgt := 23) dX3_roomAt_19 (by decide) ?_
      exact z_aret rfl dX3_roomAt_23 ho9.symm (zo_h hh9 (by rfl)) (Nat.zero_le _) (Nat.zero_le _)

set_option maxHeartbeats 4000000 in
set_option maxRecDepth 100000 in
theorem c_roomAt_3 {G : zT} {S : zS} {sa sb sc sd : zS} {hcn hnx tln wrd pos : Nat} {byt num : Nat → Int32} {flt : Int32} {Y : zYr} {out : Nat → Int64} (hG : zAl G = false) : zRun G mX3_roomAt 0 0 [.ref 22, .int (nI 3)] (zHp S (sa, sb, sc, sd, hcn, hnx, byt, tln, num, wrd, pos, flt) Y out) (.inr (some (.ref 87))) (zHp S (sa, sb, sc, sd, hcn, hnx, byt, tln, num, wrd, pos, flt) Y out) := by
  refine zRun_of (by decide +kernel) rfl rfl (Nat.le_of_ble_eq_true rfl) ?_
  suffices hs : ∀ (o9 : zO) (h9 : zH), (Sum.inr (some (.ref 87)) : zO) = o9 → (zHp S (sa, sb, sc, sd, hcn, hnx, byt, tln, num, wrd, pos, flt) Y out) = h9 → zPW G mX3_roomAt 0 0 o9 h9 0 0 0 [(0, .ref 22), (1, .int (nI 3))] [] (zHp S (sa, sb, sc, sd, hcn, hnx, byt, tln, num, wrd, pos, flt) Y out) from hs _ _ rfl rfl
  intro o9 h9 ho9 hh9
  refine z_iload_n 1 dX3_roomAt_0 rfl rfl ?_
  refine z_if_lt (tgt := 22) dX3_roomAt_1 (by decide) (fun c_1 => ?_) (fun c_1 => ?_)
  · exact absurd c_1 (by decide)
  · skip
    refine z_iload_n 1 dX3_roomAt_4 rfl rfl ?_
    refine z_aload_n 0 dX3_roomAt_5 rfl rfl ?_
    refine z_get (v := .ref 23) 0 zgo_22 rfl inX3 (by decide) zw_179 rfl rfl dX3_roomAt_6 ?_
    refine z_alen (v := nI 4) zga_23 (by decide) rfl dX3_roomAt_9 ?_
    refine z_icmp_ge (tgt := 22) dX3_roomAt_10 (by decide) (fun c_10 => ?_) (fun c_10 => ?_)
    · exact absurd c_10 (by decide)
    · skip
      refine z_aload_n 0 dX3_roomAt_13 rfl rfl ?_
      refine z_get (v := .ref 23) 0 zgo_22 rfl inX3 (by decide) zw_179 rfl rfl dX3_roomAt_14 ?_
      refine z_iload_n 1 dX3_roomAt_17 rfl rfl ?_
      refine z_aald (f := zSv) (n := 4) (y := 87) zga_23 (by exact vp_in_nI (by decide) (by decide)) rfl dX3_roomAt_18 ?_
      refine z_goto (tgt := 23) dX3_roomAt_19 (by decide) ?_
      exact z_aret rfl dX3_roomAt_23 ho9.symm (zo_h hh9 (by rfl)) (Nat.zero_le _) (Nat.zero_le _)

set_option maxHeartbeats 4000000 in
set_option maxRecDepth 100000 in
theorem c_save_0 {G : zT} {c : Nat} {r : Nat} {w : Nat} {lim : Nat} {tol : Int32} {cart : Nat → Int32} {wov : Nat → Int32} {lot : Nat → Int32} {sew : Nat → Int32} {mis : Nat → Int32} {cnt : Nat} {col : Nat → Int32} {len : Nat → Int32} {lef : Nat → Int32} {sbt : Nat → Int32} {shd : Nat → UInt32} {c1 : Nat} {r1 : Nat} {w1 : Nat} {lim1 : Nat} {tol1 : Int32} {cart1 : Nat → Int32} {wov1 : Nat → Int32} {lot1 : Nat → Int32} {sew1 : Nat → Int32} {mis1 : Nat → Int32} {cnt1 : Nat} {col1 : Nat → Int32} {len1 : Nat → Int32} {lef1 : Nat → Int32} {sbt1 : Nat → Int32} {shd1 : Nat → UInt32} {sa sb sc sd : zS} {hcn tln wrd pos : Nat} {byt num : Nat → Int32} {flt : Int32} {Y : zYr} {out : Nat → Int64} (hG : zAl G = false) (hc4 : hcn ≤ 4) : zRun G mX3_save 0 0 [.ref 22, .ref 1] (zHp (c, r, w, lim, tol, cart, wov, lot, sew, mis, cnt, col, len, lef, sbt, shd) ((c1, r1, w1, lim1, tol1, cart1, wov1, lot1, sew1, mis1, cnt1, col1, len1, lef1, sbt1, shd1), sb, sc, sd, hcn, 0, byt, tln, num, wrd, pos, flt) Y out) (.inr none) (zHp (c, r, w, lim, tol, cart, wov, lot, sew, mis, cnt, col, len, lef, sbt, shd) ((c, r, w, lim, tol, (zFl cart cart1 320), (zFl wov wov1 320), (zFl lot lot1 320), (zFl sew sew1 320), (zFl mis mis1 20), cnt, (zFl col col1 16), (zFl len len1 16), (zFl lef lef1 16), (zFl sbt sbt1 16), (zFl shd shd1 16)), sb, sc, sd, (min (hcn + 1) 4), 1, byt, tln, num, wrd, pos, flt) Y out) := by
  refine zRun_of (by decide +kernel) rfl rfl (Nat.le_of_ble_eq_true rfl) ?_
  suffices hs : ∀ (o9 : zO) (h9 : zH), (Sum.inr none : zO) = o9 → (zHp (c, r, w, lim, tol, cart, wov, lot, sew, mis, cnt, col, len, lef, sbt, shd) ((c, r, w, lim, tol, (zFl cart cart1 320), (zFl wov wov1 320), (zFl lot lot1 320), (zFl sew sew1 320), (zFl mis mis1 20), cnt, (zFl col col1 16), (zFl len len1 16), (zFl lef lef1 16), (zFl sbt sbt1 16), (zFl shd shd1 16)), sb, sc, sd, (min (hcn + 1) 4), 1, byt, tln, num, wrd, pos, flt) Y out) = h9 → zPW G mX3_save 0 0 o9 h9 0 0 0 [(0, .ref 22), (1, .ref 1)] [] (zHp (c, r, w, lim, tol, cart, wov, lot, sew, mis, cnt, col, len, lef, sbt, shd) ((c1, r1, w1, lim1, tol1, cart1, wov1, lot1, sew1, mis1, cnt1, col1, len1, lef1, sbt1, shd1), sb, sc, sd, hcn, 0, byt, tln, num, wrd, pos, flt) Y out) from hs _ _ rfl rfl
  intro o9 h9 ho9 hh9
  refine z_aload_n 0 dX3_save_0 rfl rfl ?_
  refine z_aload_n 0 dX3_save_1 rfl rfl ?_
  refine z_get (v := .int (nI 0)) 2 zgo_22 rfl inX3 (by decide) zw_182 rfl rfl dX3_save_2 ?_
  refine z_callV (N := mX3_roomAt) 1 [.int (nI 0)] [] lX3_roomAt ⟨zw_602, zw_604, zw_27⟩ rfl zgo_22 rfl rfl (Nat.le_of_ble_eq_true rfl) (by decide) ⟨zlt, zlt⟩ ⟨Nat.zero_le _, Nat.zero_le _⟩ (fun _ => rfl) (c_roomAt_0 hG) dX3_save_5 ?_
  refine z_astore_n (lv' := [(2, .ref 24), (0, .ref 22), (1, .ref 1)]) dX3_save_8 rfl (by decide) rfl ?_
  refine z_aload_n 0 dX3_save_9 rfl rfl ?_
  refine z_ifnull dX3_save_10 ?_
  refine z_aload_n 0 dX3_save_13 rfl rfl ?_
  refine z_aload_n 2 dX3_save_14 rfl rfl ?_
  refine z_callV (N := mX4_copyFrom) 1 [.ref 1] [] lX4_copyFrom ⟨zw_606, zw_607, zw_608⟩ rfl zgo_24 rfl rfl (Nat.le_of_ble_eq_true rfl) (by decide) ⟨zlt, zlt⟩ ⟨Nat.zero_le _, Nat.zero_le _⟩ zal (c_copy_24_1 (sa := sa) (sb := sb) (sc := sc) (sd := sd) hG) dX3_save_15 ?_
  refine z_aload_n 1 dX3_save_18 rfl rfl ?_
  refine z_aload_n 1 dX3_save_19 rfl rfl ?_
  refine z_get (v := .int (nI 0)) 2 zgo_22 rfl inX3 (by decide) zw_182 rfl rfl dX3_save_20 ?_
  refine z_iconst (v := 1) dX3_save_23 (by decide) ?_
  refine z_iadd dX3_save_24 ?_
  refine z_iconst (v := 4) dX3_save_25 (by decide) ?_
  refine z_irem dX3_save_26 (by decide) ?_
  refine z_top (v2 := .int (nI 1)) (by exact congrArg Value.int (by decide)) ?_
  refine z_puti 2 tyX3 zgo_22 rfl inX3 tyX3_ok nmX3 (by decide) zw_182 rfl rfl (by decide +kernel) (Nat.le_of_ble_eq_true rfl) dX3_save_27 ?_
  refine z_eqh (h2 := (zHp (c, r, w, lim, tol, cart, wov, lot, sew, mis, cnt, col, len, lef, sbt, shd) ((c, r, w, lim, tol, (zFl cart cart1 320), (zFl wov wov1 320), (zFl lot lot1 320), (zFl sew sew1 320), (zFl mis mis1 20), cnt, (zFl col col1 16), (zFl len len1 16), (zFl lef lef1 16), (zFl sbt sbt1 16), (zFl shd shd1 16)), sb, sc, sd, hcn, 1, byt, tln, num, wrd, pos, flt) Y out)) zsf_22_2 ?_
  refine z_aload_n 1 dX3_save_30 rfl rfl ?_
  refine z_aload_n 1 dX3_save_31 rfl rfl ?_
  refine z_get (v := .int (nI hcn)) 1 zgo_22 rfl inX3 (by decide) zw_180 rfl rfl dX3_save_32 ?_
  refine z_iconst (v := 1) dX3_save_35 (by decide) ?_
  refine z_iadd dX3_save_36 ?_
  refine z_iconst (v := 4) dX3_save_37 (by decide) ?_
  refine z_mmin zw_629 (by decide) (Nat.le_of_ble_eq_true rfl) ⟨Nat.zero_le _, Nat.zero_le _⟩ dX3_save_38 ?_
  refine z_top (v2 := .int (nI (min (hcn + 1) 4))) (by exact congrArg Value.int (zMin4 hc4)) ?_
  refine z_puti 1 tyX3 zgo_22 rfl inX3 tyX3_ok nmX3 (by decide) zw_180 rfl rfl (by decide +kernel) (Nat.le_of_ble_eq_true rfl) dX3_save_41 ?_
  refine z_eqh (h2 := (zHp (c, r, w, lim, tol, cart, wov, lot, sew, mis, cnt, col, len, lef, sbt, shd) ((c, r, w, lim, tol, (zFl cart cart1 320), (zFl wov wov1 320), (zFl lot lot1 320), (zFl sew sew1 320), (zFl mis mis1 20), cnt, (zFl col col1 16), (zFl len len1 16), (zFl lef lef1 16), (zFl sbt sbt1 16), (zFl shd shd1 16)), sb, sc, sd, (min (hcn + 1) 4), 1, byt, tln, num, wrd, pos, flt) Y out)) zsf_22_1 ?_
  exact z_vret rfl dX3_save_44 ho9.symm (zo_h hh9 (by rfl)) (Nat.zero_le _) (Nat.zero_le _)

set_option maxHeartbeats 4000000 in
set_option maxRecDepth 100000 in
theorem c_restore_0 {G : zT} {c : Nat} {r : Nat} {w : Nat} {lim : Nat} {tol : Int32} {cart : Nat → Int32} {wov : Nat → Int32} {lot : Nat → Int32} {sew : Nat → Int32} {mis : Nat → Int32} {cnt : Nat} {col : Nat → Int32} {len : Nat → Int32} {lef : Nat → Int32} {sbt : Nat → Int32} {shd : Nat → UInt32} {c1 : Nat} {r1 : Nat} {w1 : Nat} {lim1 : Nat} {tol1 : Int32} {cart1 : Nat → Int32} {wov1 : Nat → Int32} {lot1 : Nat → Int32} {sew1 : Nat → Int32} {mis1 : Nat → Int32} {cnt1 : Nat} {col1 : Nat → Int32} {len1 : Nat → Int32} {lef1 : Nat → Int32} {sbt1 : Nat → Int32} {shd1 : Nat → UInt32} {sa sb sc sd : zS} {hcn tln wrd pos : Nat} {byt num : Nat → Int32} {flt : Int32} {Y : zYr} {out : Nat → Int64} (hG : zAl G = false) (hc1 : 0 < hcn) (hc4 : hcn ≤ 4) : zRun G mX3_restore 0 0 [.ref 22, .ref 1] (zHp (c, r, w, lim, tol, cart, wov, lot, sew, mis, cnt, col, len, lef, sbt, shd) (sa, sb, sc, (c1, r1, w1, lim1, tol1, cart1, wov1, lot1, sew1, mis1, cnt1, col1, len1, lef1, sbt1, shd1), hcn, 0, byt, tln, num, wrd, pos, flt) Y out) (.inr (some (.int (nI (hcn - 1))))) (zHp (c1, r1, w1, lim1, tol1, (zFl cart1 cart 320), (zFl wov1 wov 320), (zFl lot1 lot 320), (zFl sew1 sew 320), (zFl mis1 mis 20), cnt1, (zFl col1 col 16), (zFl len1 len 16), (zFl lef1 lef 16), (zFl sbt1 sbt 16), (zFl shd1 shd 16)) (sa, sb, sc, (c1, r1, w1, lim1, tol1, cart1, wov1, lot1, sew1, mis1, cnt1, col1, len1, lef1, sbt1, shd1), (hcn - 1), 3, byt, tln, num, wrd, pos, flt) Y out) := by
  refine zRun_of (by decide +kernel) rfl rfl (Nat.le_of_ble_eq_true rfl) ?_
  suffices hs : ∀ (o9 : zO) (h9 : zH), (Sum.inr (some (.int (nI (hcn - 1)))) : zO) = o9 → (zHp (c1, r1, w1, lim1, tol1, (zFl cart1 cart 320), (zFl wov1 wov 320), (zFl lot1 lot 320), (zFl sew1 sew 320), (zFl mis1 mis 20), cnt1, (zFl col1 col 16), (zFl len1 len 16), (zFl lef1 lef 16), (zFl sbt1 sbt 16), (zFl shd1 shd 16)) (sa, sb, sc, (c1, r1, w1, lim1, tol1, cart1, wov1, lot1, sew1, mis1, cnt1, col1, len1, lef1, sbt1, shd1), (hcn - 1), 3, byt, tln, num, wrd, pos, flt) Y out) = h9 → zPW G mX3_restore 0 0 o9 h9 0 0 0 [(0, .ref 22), (1, .ref 1)] [] (zHp (c, r, w, lim, tol, cart, wov, lot, sew, mis, cnt, col, len, lef, sbt, shd) (sa, sb, sc, (c1, r1, w1, lim1, tol1, cart1, wov1, lot1, sew1, mis1, cnt1, col1, len1, lef1, sbt1, shd1), hcn, 0, byt, tln, num, wrd, pos, flt) Y out) from hs _ _ rfl rfl
  intro o9 h9 ho9 hh9
  refine z_aload_n 0 dX3_restore_0 rfl rfl ?_
  refine z_get (v := .int (nI 0)) 2 zgo_22 rfl inX3 (by decide) zw_182 rfl rfl dX3_restore_1 ?_
  refine z_iconst (v := 4) dX3_restore_4 (by decide) ?_
  refine z_iadd dX3_restore_5 ?_
  refine z_iconst (v := 1) dX3_restore_6 (by decide) ?_
  refine z_isub dX3_restore_7 ?_
  refine z_iconst (v := 4) dX3_restore_8 (by decide) ?_
  refine z_irem dX3_restore_9 (by decide) ?_
  refine z_top (v2 := .int (nI 3)) (by exact congrArg Value.int (by decide)) ?_
  refine z_istore_n (lv' := [(2, .int (nI 3)), (0, .ref 22), (1, .ref 1)]) dX3_restore_10 rfl (by decide) rfl ?_
  refine z_aload_n 1 dX3_restore_11 rfl rfl ?_
  refine z_iload_n 0 dX3_restore_12 rfl rfl ?_
  refine z_callV (N := mX3_roomAt) 1 [.int (nI 3)] [] lX3_roomAt ⟨zw_602, zw_604, zw_27⟩ rfl zgo_22 rfl rfl (Nat.le_of_ble_eq_true rfl) (by decide) ⟨zlt, zlt⟩ ⟨Nat.zero_le _, Nat.zero_le _⟩ (fun _ => rfl) (c_roomAt_3 hG) dX3_restore_13 ?_
  refine z_astore_n (lv' := [(3, .ref 87), (2, .int (nI 3)), (0, .ref 22), (1, .ref 1)]) dX3_restore_16 rfl (by decide) rfl ?_
  refine z_aload_n 0 dX3_restore_17 rfl rfl ?_
  refine z_ifnull dX3_restore_18 ?_
  refine z_aload_n 2 dX3_restore_21 rfl rfl ?_
  refine z_get (v := .int (nI hcn)) 1 zgo_22 rfl inX3 (by decide) zw_180 rfl rfl dX3_restore_22 ?_
  refine z_if_le (tgt := 48) dX3_restore_25 (by decide) (fun c_25 => ?_) (fun c_25 => ?_)
  · exact absurd c_25 (nI_nle hc1 (by omega))
  · skip
    refine z_aload_n 3 dX3_restore_28 rfl rfl ?_
    refine z_aload_n 0 dX3_restore_29 rfl rfl ?_
    refine z_callV (N := mX4_copyFrom) 1 [.ref 87] [] lX4_copyFrom ⟨zw_606, zw_607, zw_608⟩ rfl zgo_1 rfl rfl (Nat.le_of_ble_eq_true rfl) (by decide) ⟨zlt, zlt⟩ ⟨Nat.zero_le _, Nat.zero_le _⟩ zal (c_copy_1_87 (sa := sa) (sb := sb) (sc := sc) (sd := sd) hG) dX3_restore_30 ?_
    refine z_aload_n 2 dX3_restore_33 rfl rfl ?_
    refine z_iload_n 1 dX3_restore_34 rfl rfl ?_
    refine z_puti 2 tyX3 zgo_22 rfl inX3 tyX3_ok nmX3 (by decide) zw_182 rfl rfl (by decide +kernel) (Nat.le_of_ble_eq_true rfl) dX3_restore_35 ?_
    refine z_eqh (h2 := (zHp (c1, r1, w1, lim1, tol1, (zFl cart1 cart 320), (zFl wov1 wov 320), (zFl lot1 lot 320), (zFl sew1 sew 320), (zFl mis1 mis 20), cnt1, (zFl col1 col 16), (zFl len1 len 16), (zFl lef1 lef 16), (zFl sbt1 sbt 16), (zFl shd1 shd 16)) (sa, sb, sc, (c1, r1, w1, lim1, tol1, cart1, wov1, lot1, sew1, mis1, cnt1, col1, len1, lef1, sbt1, shd1), hcn, 3, byt, tln, num, wrd, pos, flt) Y out)) zsf_22_2 ?_
    refine z_aload_n 2 dX3_restore_38 rfl rfl ?_
    refine z_dup dX3_restore_39 rfl ?_
    refine z_get (v := .int (nI hcn)) 1 zgo_22 rfl inX3 (by decide) zw_180 rfl rfl dX3_restore_40 ?_
    refine z_iconst (v := 1) dX3_restore_43 (by decide) ?_
    refine z_isub dX3_restore_44 ?_
    refine z_top (v2 := .int (nI (hcn - 1))) (by rw [show (1 : Int32) = nI 1 from rfl, pk_sub hc1]) ?_
    refine z_puti 1 tyX3 zgo_22 rfl inX3 tyX3_ok nmX3 (by decide) zw_180 rfl rfl (by decide +kernel) (Nat.le_of_ble_eq_true rfl) dX3_restore_45 ?_
    refine z_eqh (h2 := (zHp (c1, r1, w1, lim1, tol1, (zFl cart1 cart 320), (zFl wov1 wov 320), (zFl lot1 lot 320), (zFl sew1 sew 320), (zFl mis1 mis 20), cnt1, (zFl col1 col 16), (zFl len1 len 16), (zFl lef1 lef 16), (zFl sbt1 sbt 16), (zFl shd1 shd 16)) (sa, sb, sc, (c1, r1, w1, lim1, tol1, cart1, wov1, lot1, sew1, mis1, cnt1, col1, len1, lef1, sbt1, shd1), (hcn - 1), 3, byt, tln, num, wrd, pos, flt) Y out)) zsf_22_1 ?_
    refine z_aload_n 2 dX3_restore_48 rfl rfl ?_
    refine z_get (v := .int (nI (hcn - 1))) 1 zgo_22 rfl inX3 (by decide) zw_180 rfl rfl dX3_restore_49 ?_
    exact z_iret rfl dX3_restore_52 (zo_i ho9 (by rfl)) (zo_h hh9 (by rfl)) (Nat.zero_le _) (Nat.zero_le _)

set_option maxHeartbeats 4000000 in
set_option maxRecDepth 100000 in
theorem c_save_1 {G : zT} {c : Nat} {r : Nat} {w : Nat} {lim : Nat} {tol : Int32} {cart : Nat → Int32} {wov : Nat → Int32} {lot : Nat → Int32} {sew : Nat → Int32} {mis : Nat → Int32} {cnt : Nat} {col : Nat → Int32} {len : Nat → Int32} {lef : Nat → Int32} {sbt : Nat → Int32} {shd : Nat → UInt32} {c1 : Nat} {r1 : Nat} {w1 : Nat} {lim1 : Nat} {tol1 : Int32} {cart1 : Nat → Int32} {wov1 : Nat → Int32} {lot1 : Nat → Int32} {sew1 : Nat → Int32} {mis1 : Nat → Int32} {cnt1 : Nat} {col1 : Nat → Int32} {len1 : Nat → Int32} {lef1 : Nat → Int32} {sbt1 : Nat → Int32} {shd1 : Nat → UInt32} {sa sb sc sd : zS} {hcn tln wrd pos : Nat} {byt num : Nat → Int32} {flt : Int32} {Y : zYr} {out : Nat → Int64} (hG : zAl G = false) (hc4 : hcn ≤ 4) : zRun G mX3_save 0 0 [.ref 22, .ref 1] (zHp (c, r, w, lim, tol, cart, wov, lot, sew, mis, cnt, col, len, lef, sbt, shd) (sa, (c1, r1, w1, lim1, tol1, cart1, wov1, lot1, sew1, mis1, cnt1, col1, len1, lef1, sbt1, shd1), sc, sd, hcn, 1, byt, tln, num, wrd, pos, flt) Y out) (.inr none) (zHp (c, r, w, lim, tol, cart, wov, lot, sew, mis, cnt, col, len, lef, sbt, shd) (sa, (c, r, w, lim, tol, (zFl cart cart1 320), (zFl wov wov1 320), (zFl lot lot1 320), (zFl sew sew1 320), (zFl mis mis1 20), cnt, (zFl col col1 16), (zFl len len1 16), (zFl lef lef1 16), (zFl sbt sbt1 16), (zFl shd shd1 16)), sc, sd, (min (hcn + 1) 4), 2, byt, tln, num, wrd, pos, flt) Y out) := by
  refine zRun_of (by decide +kernel) rfl rfl (Nat.le_of_ble_eq_true rfl) ?_
  suffices hs : ∀ (o9 : zO) (h9 : zH), (Sum.inr none : zO) = o9 → (zHp (c, r, w, lim, tol, cart, wov, lot, sew, mis, cnt, col, len, lef, sbt, shd) (sa, (c, r, w, lim, tol, (zFl cart cart1 320), (zFl wov wov1 320), (zFl lot lot1 320), (zFl sew sew1 320), (zFl mis mis1 20), cnt, (zFl col col1 16), (zFl len len1 16), (zFl lef lef1 16), (zFl sbt sbt1 16), (zFl shd shd1 16)), sc, sd, (min (hcn + 1) 4), 2, byt, tln, num, wrd, pos, flt) Y out) = h9 → zPW G mX3_save 0 0 o9 h9 0 0 0 [(0, .ref 22), (1, .ref 1)] [] (zHp (c, r, w, lim, tol, cart, wov, lot, sew, mis, cnt, col, len, lef, sbt, shd) (sa, (c1, r1, w1, lim1, tol1, cart1, wov1, lot1, sew1, mis1, cnt1, col1, len1, lef1, sbt1, shd1), sc, sd, hcn, 1, byt, tln, num, wrd, pos, flt) Y out) from hs _ _ rfl rfl
  intro o9 h9 ho9 hh9
  refine z_aload_n 0 dX3_save_0 rfl rfl ?_
  refine z_aload_n 0 dX3_save_1 rfl rfl ?_
  refine z_get (v := .int (nI 1)) 2 zgo_22 rfl inX3 (by decide) zw_182 rfl rfl dX3_save_2 ?_
  refine z_callV (N := mX3_roomAt) 1 [.int (nI 1)] [] lX3_roomAt ⟨zw_602, zw_604, zw_27⟩ rfl zgo_22 rfl rfl (Nat.le_of_ble_eq_true rfl) (by decide) ⟨zlt, zlt⟩ ⟨Nat.zero_le _, Nat.zero_le _⟩ (fun _ => rfl) (c_roomAt_1 hG) dX3_save_5 ?_
  refine z_astore_n (lv' := [(2, .ref 45), (0, .ref 22), (1, .ref 1)]) dX3_save_8 rfl (by decide) rfl ?_
  refine z_aload_n 0 dX3_save_9 rfl rfl ?_
  refine z_ifnull dX3_save_10 ?_
  refine z_aload_n 0 dX3_save_13 rfl rfl ?_
  refine z_aload_n 2 dX3_save_14 rfl rfl ?_
  refine z_callV (N := mX4_copyFrom) 1 [.ref 1] [] lX4_copyFrom ⟨zw_606, zw_607, zw_608⟩ rfl zgo_45 rfl rfl (Nat.le_of_ble_eq_true rfl) (by decide) ⟨zlt, zlt⟩ ⟨Nat.zero_le _, Nat.zero_le _⟩ zal (c_copy_45_1 (sa := sa) (sb := sb) (sc := sc) (sd := sd) hG) dX3_save_15 ?_
  refine z_aload_n 1 dX3_save_18 rfl rfl ?_
  refine z_aload_n 1 dX3_save_19 rfl rfl ?_
  refine z_get (v := .int (nI 1)) 2 zgo_22 rfl inX3 (by decide) zw_182 rfl rfl dX3_save_20 ?_
  refine z_iconst (v := 1) dX3_save_23 (by decide) ?_
  refine z_iadd dX3_save_24 ?_
  refine z_iconst (v := 4) dX3_save_25 (by decide) ?_
  refine z_irem dX3_save_26 (by decide) ?_
  refine z_top (v2 := .int (nI 2)) (by exact congrArg Value.int (by decide)) ?_
  refine z_puti 2 tyX3 zgo_22 rfl inX3 tyX3_ok nmX3 (by decide) zw_182 rfl rfl (by decide +kernel) (Nat.le_of_ble_eq_true rfl) dX3_save_27 ?_
  refine z_eqh (h2 := (zHp (c, r, w, lim, tol, cart, wov, lot, sew, mis, cnt, col, len, lef, sbt, shd) (sa, (c, r, w, lim, tol, (zFl cart cart1 320), (zFl wov wov1 320), (zFl lot lot1 320), (zFl sew sew1 320), (zFl mis mis1 20), cnt, (zFl col col1 16), (zFl len len1 16), (zFl lef lef1 16), (zFl sbt sbt1 16), (zFl shd shd1 16)), sc, sd, hcn, 2, byt, tln, num, wrd, pos, flt) Y out)) zsf_22_2 ?_
  refine z_aload_n 1 dX3_save_30 rfl rfl ?_
  refine z_aload_n 1 dX3_save_31 rfl rfl ?_
  refine z_get (v := .int (nI hcn)) 1 zgo_22 rfl inX3 (by decide) zw_180 rfl rfl dX3_save_32 ?_
  refine z_iconst (v := 1) dX3_save_35 (by decide) ?_
  refine z_iadd dX3_save_36 ?_
  refine z_iconst (v := 4) dX3_save_37 (by decide) ?_
  refine z_mmin zw_629 (by decide) (Nat.le_of_ble_eq_true rfl) ⟨Nat.zero_le _, Nat.zero_le _⟩ dX3_save_38 ?_
  refine z_top (v2 := .int (nI (min (hcn + 1) 4))) (by exact congrArg Value.int (zMin4 hc4)) ?_
  refine z_puti 1 tyX3 zgo_22 rfl inX3 tyX3_ok nmX3 (by decide) zw_180 rfl rfl (by decide +kernel) (Nat.le_of_ble_eq_true rfl) dX3_save_41 ?_
  refine z_eqh (h2 := (zHp (c, r, w, lim, tol, cart, wov, lot, sew, mis, cnt, col, len, lef, sbt, shd) (sa, (c, r, w, lim, tol, (zFl cart cart1 320), (zFl wov wov1 320), (zFl lot lot1 320), (zFl sew sew1 320), (zFl mis mis1 20), cnt, (zFl col col1 16), (zFl len len1 16), (zFl lef lef1 16), (zFl sbt sbt1 16), (zFl shd shd1 16)), sc, sd, (min (hcn + 1) 4), 2, byt, tln, num, wrd, pos, flt) Y out)) zsf_22_1 ?_
  exact z_vret rfl dX3_save_44 ho9.symm (zo_h hh9 (by rfl)) (Nat.zero_le _) (Nat.zero_le _)

set_option maxHeartbeats 4000000 in
set_option maxRecDepth 100000 in
theorem c_restore_1 {G : zT} {c : Nat} {r : Nat} {w : Nat} {lim : Nat} {tol : Int32} {cart : Nat → Int32} {wov : Nat → Int32} {lot : Nat → Int32} {sew : Nat → Int32} {mis : Nat → Int32} {cnt : Nat} {col : Nat → Int32} {len : Nat → Int32} {lef : Nat → Int32} {sbt : Nat → Int32} {shd : Nat → UInt32} {c1 : Nat} {r1 : Nat} {w1 : Nat} {lim1 : Nat} {tol1 : Int32} {cart1 : Nat → Int32} {wov1 : Nat → Int32} {lot1 : Nat → Int32} {sew1 : Nat → Int32} {mis1 : Nat → Int32} {cnt1 : Nat} {col1 : Nat → Int32} {len1 : Nat → Int32} {lef1 : Nat → Int32} {sbt1 : Nat → Int32} {shd1 : Nat → UInt32} {sa sb sc sd : zS} {hcn tln wrd pos : Nat} {byt num : Nat → Int32} {flt : Int32} {Y : zYr} {out : Nat → Int64} (hG : zAl G = false) (hc1 : 0 < hcn) (hc4 : hcn ≤ 4) : zRun G mX3_restore 0 0 [.ref 22, .ref 1] (zHp (c, r, w, lim, tol, cart, wov, lot, sew, mis, cnt, col, len, lef, sbt, shd) ((c1, r1, w1, lim1, tol1, cart1, wov1, lot1, sew1, mis1, cnt1, col1, len1, lef1, sbt1, shd1), sb, sc, sd, hcn, 1, byt, tln, num, wrd, pos, flt) Y out) (.inr (some (.int (nI (hcn - 1))))) (zHp (c1, r1, w1, lim1, tol1, (zFl cart1 cart 320), (zFl wov1 wov 320), (zFl lot1 lot 320), (zFl sew1 sew 320), (zFl mis1 mis 20), cnt1, (zFl col1 col 16), (zFl len1 len 16), (zFl lef1 lef 16), (zFl sbt1 sbt 16), (zFl shd1 shd 16)) ((c1, r1, w1, lim1, tol1, cart1, wov1, lot1, sew1, mis1, cnt1, col1, len1, lef1, sbt1, shd1), sb, sc, sd, (hcn - 1), 0, byt, tln, num, wrd, pos, flt) Y out) := by
  refine zRun_of (by decide +kernel) rfl rfl (Nat.le_of_ble_eq_true rfl) ?_
  suffices hs : ∀ (o9 : zO) (h9 : zH), (Sum.inr (some (.int (nI (hcn - 1)))) : zO) = o9 → (zHp (c1, r1, w1, lim1, tol1, (zFl cart1 cart 320), (zFl wov1 wov 320), (zFl lot1 lot 320), (zFl sew1 sew 320), (zFl mis1 mis 20), cnt1, (zFl col1 col 16), (zFl len1 len 16), (zFl lef1 lef 16), (zFl sbt1 sbt 16), (zFl shd1 shd 16)) ((c1, r1, w1, lim1, tol1, cart1, wov1, lot1, sew1, mis1, cnt1, col1, len1, lef1, sbt1, shd1), sb, sc, sd, (hcn - 1), 0, byt, tln, num, wrd, pos, flt) Y out) = h9 → zPW G mX3_restore 0 0 o9 h9 0 0 0 [(0, .ref 22), (1, .ref 1)] [] (zHp (c, r, w, lim, tol, cart, wov, lot, sew, mis, cnt, col, len, lef, sbt, shd) ((c1, r1, w1, lim1, tol1, cart1, wov1, lot1, sew1, mis1, cnt1, col1, len1, lef1, sbt1, shd1), sb, sc, sd, hcn, 1, byt, tln, num, wrd, pos, flt) Y out) from hs _ _ rfl rfl
  intro o9 h9 ho9 hh9
  refine z_aload_n 0 dX3_restore_0 rfl rfl ?_
  refine z_get (v := .int (nI 1)) 2 zgo_22 rfl inX3 (by decide) zw_182 rfl rfl dX3_restore_1 ?_
  refine z_iconst (v := 4) dX3_restore_4 (by decide) ?_
  refine z_iadd dX3_restore_5 ?_
  refine z_iconst (v := 1) dX3_restore_6 (by decide) ?_
  refine z_isub dX3_restore_7 ?_
  refine z_iconst (v := 4) dX3_restore_8 (by decide) ?_
  refine z_irem dX3_restore_9 (by decide) ?_
  refine z_top (v2 := .int (nI 0)) (by exact congrArg Value.int (by decide)) ?_
  refine z_istore_n (lv' := [(2, .int (nI 0)), (0, .ref 22), (1, .ref 1)]) dX3_restore_10 rfl (by decide) rfl ?_
  refine z_aload_n 1 dX3_restore_11 rfl rfl ?_
  refine z_iload_n 0 dX3_restore_12 rfl rfl ?_
  refine z_callV (N := mX3_roomAt) 1 [.int (nI 0)] [] lX3_roomAt ⟨zw_602, zw_604, zw_27⟩ rfl zgo_22 rfl rfl (Nat.le_of_ble_eq_true rfl) (by decide) ⟨zlt, zlt⟩ ⟨Nat.zero_le _, Nat.zero_le _⟩ (fun _ => rfl) (c_roomAt_0 hG) dX3_restore_13 ?_
  refine z_astore_n (lv' := [(3, .ref 24), (2, .int (nI 0)), (0, .ref 22), (1, .ref 1)]) dX3_restore_16 rfl (by decide) rfl ?_
  refine z_aload_n 0 dX3_restore_17 rfl rfl ?_
  refine z_ifnull dX3_restore_18 ?_
  refine z_aload_n 2 dX3_restore_21 rfl rfl ?_
  refine z_get (v := .int (nI hcn)) 1 zgo_22 rfl inX3 (by decide) zw_180 rfl rfl dX3_restore_22 ?_
  refine z_if_le (tgt := 48) dX3_restore_25 (by decide) (fun c_25 => ?_) (fun c_25 => ?_)
  · exact absurd c_25 (nI_nle hc1 (by omega))
  · skip
    refine z_aload_n 3 dX3_restore_28 rfl rfl ?_
    refine z_aload_n 0 dX3_restore_29 rfl rfl ?_
    refine z_callV (N := mX4_copyFrom) 1 [.ref 24] [] lX4_copyFrom ⟨zw_606, zw_607, zw_608⟩ rfl zgo_1 rfl rfl (Nat.le_of_ble_eq_true rfl) (by decide) ⟨zlt, zlt⟩ ⟨Nat.zero_le _, Nat.zero_le _⟩ zal (c_copy_1_24 (sa := sa) (sb := sb) (sc := sc) (sd := sd) hG) dX3_restore_30 ?_
    refine z_aload_n 2 dX3_restore_33 rfl rfl ?_
    refine z_iload_n 1 dX3_restore_34 rfl rfl ?_
    refine z_puti 2 tyX3 zgo_22 rfl inX3 tyX3_ok nmX3 (by decide) zw_182 rfl rfl (by decide +kernel) (Nat.le_of_ble_eq_true rfl) dX3_restore_35 ?_
    refine z_eqh (h2 := (zHp (c1, r1, w1, lim1, tol1, (zFl cart1 cart 320), (zFl wov1 wov 320), (zFl lot1 lot 320), (zFl sew1 sew 320), (zFl mis1 mis 20), cnt1, (zFl col1 col 16), (zFl len1 len 16), (zFl lef1 lef 16), (zFl sbt1 sbt 16), (zFl shd1 shd 16)) ((c1, r1, w1, lim1, tol1, cart1, wov1, lot1, sew1, mis1, cnt1, col1, len1, lef1, sbt1, shd1), sb, sc, sd, hcn, 0, byt, tln, num, wrd, pos, flt) Y out)) zsf_22_2 ?_
    refine z_aload_n 2 dX3_restore_38 rfl rfl ?_
    refine z_dup dX3_restore_39 rfl ?_
    refine z_get (v := .int (nI hcn)) 1 zgo_22 rfl inX3 (by decide) zw_180 rfl rfl dX3_restore_40 ?_
    refine z_iconst (v := 1) dX3_restore_43 (by decide) ?_
    refine z_isub dX3_restore_44 ?_
    refine z_top (v2 := .int (nI (hcn - 1))) (by rw [show (1 : Int32) = nI 1 from rfl, pk_sub hc1]) ?_
    refine z_puti 1 tyX3 zgo_22 rfl inX3 tyX3_ok nmX3 (by decide) zw_180 rfl rfl (by decide +kernel) (Nat.le_of_ble_eq_true rfl) dX3_restore_45 ?_
    refine z_eqh (h2 := (zHp (c1, r1, w1, lim1, tol1, (zFl cart1 cart 320), (zFl wov1 wov 320), (zFl lot1 lot 320), (zFl sew1 sew 320), (zFl mis1 mis 20), cnt1, (zFl col1 col 16), (zFl len1 len 16), (zFl lef1 lef 16), (zFl sbt1 sbt 16), (zFl shd1 shd 16)) ((c1, r1, w1, lim1, tol1, cart1, wov1, lot1, sew1, mis1, cnt1, col1, len1, lef1, sbt1, shd1), sb, sc, sd, (hcn - 1), 0, byt, tln, num, wrd, pos, flt) Y out)) zsf_22_1 ?_
    refine z_aload_n 2 dX3_restore_48 rfl rfl ?_
    refine z_get (v := .int (nI (hcn - 1))) 1 zgo_22 rfl inX3 (by decide) zw_180 rfl rfl dX3_restore_49 ?_
    exact z_iret rfl dX3_restore_52 (zo_i ho9 (by rfl)) (zo_h hh9 (by rfl)) (Nat.zero_le _) (Nat.zero_le _)

set_option maxHeartbeats 4000000 in
set_option maxRecDepth 100000 in
theorem c_save_2 {G : zT} {c : Nat} {r : Nat} {w : Nat} {lim : Nat} {tol : Int32} {cart : Nat → Int32} {wov : Nat → Int32} {lot : Nat → Int32} {sew : Nat → Int32} {mis : Nat → Int32} {cnt : Nat} {col : Nat → Int32} {len : Nat → Int32} {lef : Nat → Int32} {sbt : Nat → Int32} {shd : Nat → UInt32} {c1 : Nat} {r1 : Nat} {w1 : Nat} {lim1 : Nat} {tol1 : Int32} {cart1 : Nat → Int32} {wov1 : Nat → Int32} {lot1 : Nat → Int32} {sew1 : Nat → Int32} {mis1 : Nat → Int32} {cnt1 : Nat} {col1 : Nat → Int32} {len1 : Nat → Int32} {lef1 : Nat → Int32} {sbt1 : Nat → Int32} {shd1 : Nat → UInt32} {sa sb sc sd : zS} {hcn tln wrd pos : Nat} {byt num : Nat → Int32} {flt : Int32} {Y : zYr} {out : Nat → Int64} (hG : zAl G = false) (hc4 : hcn ≤ 4) : zRun G mX3_save 0 0 [.ref 22, .ref 1] (zHp (c, r, w, lim, tol, cart, wov, lot, sew, mis, cnt, col, len, lef, sbt, shd) (sa, sb, (c1, r1, w1, lim1, tol1, cart1, wov1, lot1, sew1, mis1, cnt1, col1, len1, lef1, sbt1, shd1), sd, hcn, 2, byt, tln, num, wrd, pos, flt) Y out) (.inr none) (zHp (c, r, w, lim, tol, cart, wov, lot, sew, mis, cnt, col, len, lef, sbt, shd) (sa, sb, (c, r, w, lim, tol, (zFl cart cart1 320), (zFl wov wov1 320), (zFl lot lot1 320), (zFl sew sew1 320), (zFl mis mis1 20), cnt, (zFl col col1 16), (zFl len len1 16), (zFl lef lef1 16), (zFl sbt sbt1 16), (zFl shd shd1 16)), sd, (min (hcn + 1) 4), 3, byt, tln, num, wrd, pos, flt) Y out) := by
  refine zRun_of (by decide +kernel) rfl rfl (Nat.le_of_ble_eq_true rfl) ?_
  suffices hs : ∀ (o9 : zO) (h9 : zH), (Sum.inr none : zO) = o9 → (zHp (c, r, w, lim, tol, cart, wov, lot, sew, mis, cnt, col, len, lef, sbt, shd) (sa, sb, (c, r, w, lim, tol, (zFl cart cart1 320), (zFl wov wov1 320), (zFl lot lot1 320), (zFl sew sew1 320), (zFl mis mis1 20), cnt, (zFl col col1 16), (zFl len len1 16), (zFl lef lef1 16), (zFl sbt sbt1 16), (zFl shd shd1 16)), sd, (min (hcn + 1) 4), 3, byt, tln, num, wrd, pos, flt) Y out) = h9 → zPW G mX3_save 0 0 o9 h9 0 0 0 [(0, .ref 22), (1, .ref 1)] [] (zHp (c, r, w, lim, tol, cart, wov, lot, sew, mis, cnt, col, len, lef, sbt, shd) (sa, sb, (c1, r1, w1, lim1, tol1, cart1, wov1, lot1, sew1, mis1, cnt1, col1, len1, lef1, sbt1, shd1), sd, hcn, 2, byt, tln, num, wrd, pos, flt) Y out) from hs _ _ rfl rfl
  intro o9 h9 ho9 hh9
  refine z_aload_n 0 dX3_save_0 rfl rfl ?_
  refine z_aload_n 0 dX3_save_1 rfl rfl ?_
  refine z_get (v := .int (nI 2)) 2 zgo_22 rfl inX3 (by decide) zw_182 rfl rfl dX3_save_2 ?_
  refine z_callV (N := mX3_roomAt) 1 [.int (nI 2)] [] lX3_roomAt ⟨zw_602, zw_604, zw_27⟩ rfl zgo_22 rfl rfl (Nat.le_of_ble_eq_true rfl) (by decide) ⟨zlt, zlt⟩ ⟨Nat.zero_le _, Nat.zero_le _⟩ (fun _ => rfl) (c_roomAt_2 hG) dX3_save_5 ?_
  refine z_astore_n (lv' := [(2, .ref 66), (0, .ref 22), (1, .ref 1)]) dX3_save_8 rfl (by decide) rfl ?_
  refine z_aload_n 0 dX3_save_9 rfl rfl ?_
  refine z_ifnull dX3_save_10 ?_
  refine z_aload_n 0 dX3_save_13 rfl rfl ?_
  refine z_aload_n 2 dX3_save_14 rfl rfl ?_
  refine z_callV (N := mX4_copyFrom) 1 [.ref 1] [] lX4_copyFrom ⟨zw_606, zw_607, zw_608⟩ rfl zgo_66 rfl rfl (Nat.le_of_ble_eq_true rfl) (by decide) ⟨zlt, zlt⟩ ⟨Nat.zero_le _, Nat.zero_le _⟩ zal (c_copy_66_1 (sa := sa) (sb := sb) (sc := sc) (sd := sd) hG) dX3_save_15 ?_
  refine z_aload_n 1 dX3_save_18 rfl rfl ?_
  refine z_aload_n 1 dX3_save_19 rfl rfl ?_
  refine z_get (v := .int (nI 2)) 2 zgo_22 rfl inX3 (by decide) zw_182 rfl rfl dX3_save_20 ?_
  refine z_iconst (v := 1) dX3_save_23 (by decide) ?_
  refine z_iadd dX3_save_24 ?_
  refine z_iconst (v := 4) dX3_save_25 (by decide) ?_
  refine z_irem dX3_save_26 (by decide) ?_
  refine z_top (v2 := .int (nI 3)) (by exact congrArg Value.int (by decide)) ?_
  refine z_puti 2 tyX3 zgo_22 rfl inX3 tyX3_ok nmX3 (by decide) zw_182 rfl rfl (by decide +kernel) (Nat.le_of_ble_eq_true rfl) dX3_save_27 ?_
  refine z_eqh (h2 := (zHp (c, r, w, lim, tol, cart, wov, lot, sew, mis, cnt, col, len, lef, sbt, shd) (sa, sb, (c, r, w, lim, tol, (zFl cart cart1 320), (zFl wov wov1 320), (zFl lot lot1 320), (zFl sew sew1 320), (zFl mis mis1 20), cnt, (zFl col col1 16), (zFl len len1 16), (zFl lef lef1 16), (zFl sbt sbt1 16), (zFl shd shd1 16)), sd, hcn, 3, byt, tln, num, wrd, pos, flt) Y out)) zsf_22_2 ?_
  refine z_aload_n 1 dX3_save_30 rfl rfl ?_
  refine z_aload_n 1 dX3_save_31 rfl rfl ?_
  refine z_get (v := .int (nI hcn)) 1 zgo_22 rfl inX3 (by decide) zw_180 rfl rfl dX3_save_32 ?_
  refine z_iconst (v := 1) dX3_save_35 (by decide) ?_
  refine z_iadd dX3_save_36 ?_
  refine z_iconst (v := 4) dX3_save_37 (by decide) ?_
  refine z_mmin zw_629 (by decide) (Nat.le_of_ble_eq_true rfl) ⟨Nat.zero_le _, Nat.zero_le _⟩ dX3_save_38 ?_
  refine z_top (v2 := .int (nI (min (hcn + 1) 4))) (by exact congrArg Value.int (zMin4 hc4)) ?_
  refine z_puti 1 tyX3 zgo_22 rfl inX3 tyX3_ok nmX3 (by decide) zw_180 rfl rfl (by decide +kernel) (Nat.le_of_ble_eq_true rfl) dX3_save_41 ?_
  refine z_eqh (h2 := (zHp (c, r, w, lim, tol, cart, wov, lot, sew, mis, cnt, col, len, lef, sbt, shd) (sa, sb, (c, r, w, lim, tol, (zFl cart cart1 320), (zFl wov wov1 320), (zFl lot lot1 320), (zFl sew sew1 320), (zFl mis mis1 20), cnt, (zFl col col1 16), (zFl len len1 16), (zFl lef lef1 16), (zFl sbt sbt1 16), (zFl shd shd1 16)), sd, (min (hcn + 1) 4), 3, byt, tln, num, wrd, pos, flt) Y out)) zsf_22_1 ?_
  exact z_vret rfl dX3_save_44 ho9.symm (zo_h hh9 (by rfl)) (Nat.zero_le _) (Nat.zero_le _)

set_option maxHeartbeats 4000000 in
set_option maxRecDepth 100000 in
theorem c_restore_2 {G : zT} {c : Nat} {r : Nat} {w : Nat} {lim : Nat} {tol : Int32} {cart : Nat → Int32} {wov : Nat → Int32} {lot : Nat → Int32} {sew : Nat → Int32} {mis : Nat → Int32} {cnt : Nat} {col : Nat → Int32} {len : Nat → Int32} {lef : Nat → Int32} {sbt : Nat → Int32} {shd : Nat → UInt32} {c1 : Nat} {r1 : Nat} {w1 : Nat} {lim1 : Nat} {tol1 : Int32} {cart1 : Nat → Int32} {wov1 : Nat → Int32} {lot1 : Nat → Int32} {sew1 : Nat → Int32} {mis1 : Nat → Int32} {cnt1 : Nat} {col1 : Nat → Int32} {len1 : Nat → Int32} {lef1 : Nat → Int32} {sbt1 : Nat → Int32} {shd1 : Nat → UInt32} {sa sb sc sd : zS} {hcn tln wrd pos : Nat} {byt num : Nat → Int32} {flt : Int32} {Y : zYr} {out : Nat → Int64} (hG : zAl G = false) (hc1 : 0 < hcn) (hc4 : hcn ≤ 4) : zRun G mX3_restore 0 0 [.ref 22, .ref 1] (zHp (c, r, w, lim, tol, cart, wov, lot, sew, mis, cnt, col, len, lef, sbt, shd) (sa, (c1, r1, w1, lim1, tol1, cart1, wov1, lot1, sew1, mis1, cnt1, col1, len1, lef1, sbt1, shd1), sc, sd, hcn, 2, byt, tln, num, wrd, pos, flt) Y out) (.inr (some (.int (nI (hcn - 1))))) (zHp (c1, r1, w1, lim1, tol1, (zFl cart1 cart 320), (zFl wov1 wov 320), (zFl lot1 lot 320), (zFl sew1 sew 320), (zFl mis1 mis 20), cnt1, (zFl col1 col 16), (zFl len1 len 16), (zFl lef1 lef 16), (zFl sbt1 sbt 16), (zFl shd1 shd 16)) (sa, (c1, r1, w1, lim1, tol1, cart1, wov1, lot1, sew1, mis1, cnt1, col1, len1, lef1, sbt1, shd1), sc, sd, (hcn - 1), 1, byt, tln, num, wrd, pos, flt) Y out) := by
  refine zRun_of (by decide +kernel) rfl rfl (Nat.le_of_ble_eq_true rfl) ?_
  suffices hs : ∀ (o9 : zO) (h9 : zH), (Sum.inr (some (.int (nI (hcn - 1)))) : zO) = o9 → (zHp (c1, r1, w1, lim1, tol1, (zFl cart1 cart 320), (zFl wov1 wov 320), (zFl lot1 lot 320), (zFl sew1 sew 320), (zFl mis1 mis 20), cnt1, (zFl col1 col 16), (zFl len1 len 16), (zFl lef1 lef 16), (zFl sbt1 sbt 16), (zFl shd1 shd 16)) (sa, (c1, r1, w1, lim1, tol1, cart1, wov1, lot1, sew1, mis1, cnt1, col1, len1, lef1, sbt1, shd1), sc, sd, (hcn - 1), 1, byt, tln, num, wrd, pos, flt) Y out) = h9 → zPW G mX3_restore 0 0 o9 h9 0 0 0 [(0, .ref 22), (1, .ref 1)] [] (zHp (c, r, w, lim, tol, cart, wov, lot, sew, mis, cnt, col, len, lef, sbt, shd) (sa, (c1, r1, w1, lim1, tol1, cart1, wov1, lot1, sew1, mis1, cnt1, col1, len1, lef1, sbt1, shd1), sc, sd, hcn, 2, byt, tln, num, wrd, pos, flt) Y out) from hs _ _ rfl rfl
  intro o9 h9 ho9 hh9
  refine z_aload_n 0 dX3_restore_0 rfl rfl ?_
  refine z_get (v := .int (nI 2)) 2 zgo_22 rfl inX3 (by decide) zw_182 rfl rfl dX3_restore_1 ?_
  refine z_iconst (v := 4) dX3_restore_4 (by decide) ?_
  refine z_iadd dX3_restore_5 ?_
  refine z_iconst (v := 1) dX3_restore_6 (by decide) ?_
  refine z_isub dX3_restore_7 ?_
  refine z_iconst (v := 4) dX3_restore_8 (by decide) ?_
  refine z_irem dX3_restore_9 (by decide) ?_
  refine z_top (v2 := .int (nI 1)) (by exact congrArg Value.int (by decide)) ?_
  refine z_istore_n (lv' := [(2, .int (nI 1)), (0, .ref 22), (1, .ref 1)]) dX3_restore_10 rfl (by decide) rfl ?_
  refine z_aload_n 1 dX3_restore_11 rfl rfl ?_
  refine z_iload_n 0 dX3_restore_12 rfl rfl ?_
  refine z_callV (N := mX3_roomAt) 1 [.int (nI 1)] [] lX3_roomAt ⟨zw_602, zw_604, zw_27⟩ rfl zgo_22 rfl rfl (Nat.le_of_ble_eq_true rfl) (by decide) ⟨zlt, zlt⟩ ⟨Nat.zero_le _, Nat.zero_le _⟩ (fun _ => rfl) (c_roomAt_1 hG) dX3_restore_13 ?_
  refine z_astore_n (lv' := [(3, .ref 45), (2, .int (nI 1)), (0, .ref 22), (1, .ref 1)]) dX3_restore_16 rfl (by decide) rfl ?_
  refine z_aload_n 0 dX3_restore_17 rfl rfl ?_
  refine z_ifnull dX3_restore_18 ?_
  refine z_aload_n 2 dX3_restore_21 rfl rfl ?_
  refine z_get (v := .int (nI hcn)) 1 zgo_22 rfl inX3 (by decide) zw_180 rfl rfl dX3_restore_22 ?_
  refine z_if_le (tgt := 48) dX3_restore_25 (by decide) (fun c_25 => ?_) (fun c_25 => ?_)
  · exact absurd c_25 (nI_nle hc1 (by omega))
  · skip
    refine z_aload_n 3 dX3_restore_28 rfl rfl ?_
    refine z_aload_n 0 dX3_restore_29 rfl rfl ?_
    refine z_callV (N := mX4_copyFrom) 1 [.ref 45] [] lX4_copyFrom ⟨zw_606, zw_607, zw_608⟩ rfl zgo_1 rfl rfl (Nat.le_of_ble_eq_true rfl) (by decide) ⟨zlt, zlt⟩ ⟨Nat.zero_le _, Nat.zero_le _⟩ zal (c_copy_1_45 (sa := sa) (sb := sb) (sc := sc) (sd := sd) hG) dX3_restore_30 ?_
    refine z_aload_n 2 dX3_restore_33 rfl rfl ?_
    refine z_iload_n 1 dX3_restore_34 rfl rfl ?_
    refine z_puti 2 tyX3 zgo_22 rfl inX3 tyX3_ok nmX3 (by decide) zw_182 rfl rfl (by decide +kernel) (Nat.le_of_ble_eq_true rfl) dX3_restore_35 ?_
    refine z_eqh (h2 := (zHp (c1, r1, w1, lim1, tol1, (zFl cart1 cart 320), (zFl wov1 wov 320), (zFl lot1 lot 320), (zFl sew1 sew 320), (zFl mis1 mis 20), cnt1, (zFl col1 col 16), (zFl len1 len 16), (zFl lef1 lef 16), (zFl sbt1 sbt 16), (zFl shd1 shd 16)) (sa, (c1, r1, w1, lim1, tol1, cart1, wov1, lot1, sew1, mis1, cnt1, col1, len1, lef1, sbt1, shd1), sc, sd, hcn, 1, byt, tln, num, wrd, pos, flt) Y out)) zsf_22_2 ?_
    refine z_aload_n 2 dX3_restore_38 rfl rfl ?_
    refine z_dup dX3_restore_39 rfl ?_
    refine z_get (v := .int (nI hcn)) 1 zgo_22 rfl inX3 (by decide) zw_180 rfl rfl dX3_restore_40 ?_
    refine z_iconst (v := 1) dX3_restore_43 (by decide) ?_
    refine z_isub dX3_restore_44 ?_
    refine z_top (v2 := .int (nI (hcn - 1))) (by rw [show (1 : Int32) = nI 1 from rfl, pk_sub hc1]) ?_
    refine z_puti 1 tyX3 zgo_22 rfl inX3 tyX3_ok nmX3 (by decide) zw_180 rfl rfl (by decide +kernel) (Nat.le_of_ble_eq_true rfl) dX3_restore_45 ?_
    refine z_eqh (h2 := (zHp (c1, r1, w1, lim1, tol1, (zFl cart1 cart 320), (zFl wov1 wov 320), (zFl lot1 lot 320), (zFl sew1 sew 320), (zFl mis1 mis 20), cnt1, (zFl col1 col 16), (zFl len1 len 16), (zFl lef1 lef 16), (zFl sbt1 sbt 16), (zFl shd1 shd 16)) (sa, (c1, r1, w1, lim1, tol1, cart1, wov1, lot1, sew1, mis1, cnt1, col1, len1, lef1, sbt1, shd1), sc, sd, (hcn - 1), 1, byt, tln, num, wrd, pos, flt) Y out)) zsf_22_1 ?_
    refine z_aload_n 2 dX3_restore_48 rfl rfl ?_
    refine z_get (v := .int (nI (hcn - 1))) 1 zgo_22 rfl inX3 (by decide) zw_180 rfl rfl dX3_restore_49 ?_
    exact z_iret rfl dX3_restore_52 (zo_i ho9 (by rfl)) (zo_h hh9 (by rfl)) (Nat.zero_le _) (Nat.zero_le _)

set_option maxHeartbeats 4000000 in
set_option maxRecDepth 100000 in
theorem c_save_3 {G : zT} {c : Nat} {r : Nat} {w : Nat} {lim : Nat} {tol : Int32} {cart : Nat → Int32} {wov : Nat → Int32} {lot : Nat → Int32} {sew : Nat → Int32} {mis : Nat → Int32} {cnt : Nat} {col : Nat → Int32} {len : Nat → Int32} {lef : Nat → Int32} {sbt : Nat → Int32} {shd : Nat → UInt32} {c1 : Nat} {r1 : Nat} {w1 : Nat} {lim1 : Nat} {tol1 : Int32} {cart1 : Nat → Int32} {wov1 : Nat → Int32} {lot1 : Nat → Int32} {sew1 : Nat → Int32} {mis1 : Nat → Int32} {cnt1 : Nat} {col1 : Nat → Int32} {len1 : Nat → Int32} {lef1 : Nat → Int32} {sbt1 : Nat → Int32} {shd1 : Nat → UInt32} {sa sb sc sd : zS} {hcn tln wrd pos : Nat} {byt num : Nat → Int32} {flt : Int32} {Y : zYr} {out : Nat → Int64} (hG : zAl G = false) (hc4 : hcn ≤ 4) : zRun G mX3_save 0 0 [.ref 22, .ref 1] (zHp (c, r, w, lim, tol, cart, wov, lot, sew, mis, cnt, col, len, lef, sbt, shd) (sa, sb, sc, (c1, r1, w1, lim1, tol1, cart1, wov1, lot1, sew1, mis1, cnt1, col1, len1, lef1, sbt1, shd1), hcn, 3, byt, tln, num, wrd, pos, flt) Y out) (.inr none) (zHp (c, r, w, lim, tol, cart, wov, lot, sew, mis, cnt, col, len, lef, sbt, shd) (sa, sb, sc, (c, r, w, lim, tol, (zFl cart cart1 320), (zFl wov wov1 320), (zFl lot lot1 320), (zFl sew sew1 320), (zFl mis mis1 20), cnt, (zFl col col1 16), (zFl len len1 16), (zFl lef lef1 16), (zFl sbt sbt1 16), (zFl shd shd1 16)), (min (hcn + 1) 4), 0, byt, tln, num, wrd, pos, flt) Y out) := by
  refine zRun_of (by decide +kernel) rfl rfl (Nat.le_of_ble_eq_true rfl) ?_
  suffices hs : ∀ (o9 : zO) (h9 : zH), (Sum.inr none : zO) = o9 → (zHp (c, r, w, lim, tol, cart, wov, lot, sew, mis, cnt, col, len, lef, sbt, shd) (sa, sb, sc, (c, r, w, lim, tol, (zFl cart cart1 320), (zFl wov wov1 320), (zFl lot lot1 320), (zFl sew sew1 320), (zFl mis mis1 20), cnt, (zFl col col1 16), (zFl len len1 16), (zFl lef lef1 16), (zFl sbt sbt1 16), (zFl shd shd1 16)), (min (hcn + 1) 4), 0, byt, tln, num, wrd, pos, flt) Y out) = h9 → zPW G mX3_save 0 0 o9 h9 0 0 0 [(0, .ref 22), (1, .ref 1)] [] (zHp (c, r, w, lim, tol, cart, wov, lot, sew, mis, cnt, col, len, lef, sbt, shd) (sa, sb, sc, (c1, r1, w1, lim1, tol1, cart1, wov1, lot1, sew1, mis1, cnt1, col1, len1, lef1, sbt1, shd1), hcn, 3, byt, tln, num, wrd, pos, flt) Y out) from hs _ _ rfl rfl
  intro o9 h9 ho9 hh9
  refine z_aload_n 0 dX3_save_0 rfl rfl ?_
  refine z_aload_n 0 dX3_save_1 rfl rfl ?_
  refine z_get (v := .int (nI 3)) 2 zgo_22 rfl inX3 (by decide) zw_182 rfl rfl dX3_save_2 ?_
  refine z_callV (N := mX3_roomAt) 1 [.int (nI 3)] [] lX3_roomAt ⟨zw_602, zw_604, zw_27⟩ rfl zgo_22 rfl rfl (Nat.le_of_ble_eq_true rfl) (by decide) ⟨zlt, zlt⟩ ⟨Nat.zero_le _, Nat.zero_le _⟩ (fun _ => rfl) (c_roomAt_3 hG) dX3_save_5 ?_
  refine z_astore_n (lv' := [(2, .ref 87), (0, .ref 22), (1, .ref 1)]) dX3_save_8 rfl (by decide) rfl ?_
  refine z_aload_n 0 dX3_save_9 rfl rfl ?_
  refine z_ifnull dX3_save_10 ?_
  refine z_aload_n 0 dX3_save_13 rfl rfl ?_
  refine z_aload_n 2 dX3_save_14 rfl rfl ?_
  refine z_callV (N := mX4_copyFrom) 1 [.ref 1] [] lX4_copyFrom ⟨zw_606, zw_607, zw_608⟩ rfl zgo_87 rfl rfl (Nat.le_of_ble_eq_true rfl) (by decide) ⟨zlt, zlt⟩ ⟨Nat.zero_le _, Nat.zero_le _⟩ zal (c_copy_87_1 (sa := sa) (sb := sb) (sc := sc) (sd := sd) hG) dX3_save_15 ?_
  refine z_aload_n 1 dX3_save_18 rfl rfl ?_
  refine z_aload_n 1 dX3_save_19 rfl rfl ?_
  refine z_get (v := .int (nI 3)) 2 zgo_22 rfl inX3 (by decide) zw_182 rfl rfl dX3_save_20 ?_
  refine z_iconst (v := 1) dX3_save_23 (by decide) ?_
  refine z_iadd dX3_save_24 ?_
  refine z_iconst (v := 4) dX3_save_25 (by decide) ?_
  refine z_irem dX3_save_26 (by decide) ?_
  refine z_top (v2 := .int (nI 0)) (by exact congrArg Value.int (by decide)) ?_
  refine z_puti 2 tyX3 zgo_22 rfl inX3 tyX3_ok nmX3 (by decide) zw_182 rfl rfl (by decide +kernel) (Nat.le_of_ble_eq_true rfl) dX3_save_27 ?_
  refine z_eqh (h2 := (zHp (c, r, w, lim, tol, cart, wov, lot, sew, mis, cnt, col, len, lef, sbt, shd) (sa, sb, sc, (c, r, w, lim, tol, (zFl cart cart1 320), (zFl wov wov1 320), (zFl lot lot1 320), (zFl sew sew1 320), (zFl mis mis1 20), cnt, (zFl col col1 16), (zFl len len1 16), (zFl lef lef1 16), (zFl sbt sbt1 16), (zFl shd shd1 16)), hcn, 0, byt, tln, num, wrd, pos, flt) Y out)) zsf_22_2 ?_
  refine z_aload_n 1 dX3_save_30 rfl rfl ?_
  refine z_aload_n 1 dX3_save_31 rfl rfl ?_
  refine z_get (v := .int (nI hcn)) 1 zgo_22 rfl inX3 (by decide) zw_180 rfl rfl dX3_save_32 ?_
  refine z_iconst (v := 1) dX3_save_35 (by decide) ?_
  refine z_iadd dX3_save_36 ?_
  refine z_iconst (v := 4) dX3_save_37 (by decide) ?_
  refine z_mmin zw_629 (by decide) (Nat.le_of_ble_eq_true rfl) ⟨Nat.zero_le _, Nat.zero_le _⟩ dX3_save_38 ?_
  refine z_top (v2 := .int (nI (min (hcn + 1) 4))) (by exact congrArg Value.int (zMin4 hc4)) ?_
  refine z_puti 1 tyX3 zgo_22 rfl inX3 tyX3_ok nmX3 (by decide) zw_180 rfl rfl (by decide +kernel) (Nat.le_of_ble_eq_true rfl) dX3_save_41 ?_
  refine z_eqh (h2 := (zHp (c, r, w, lim, tol, cart, wov, lot, sew, mis, cnt, col, len, lef, sbt, shd) (sa, sb, sc, (c, r, w, lim, tol, (zFl cart cart1 320), (zFl wov wov1 320), (zFl lot lot1 320), (zFl sew sew1 320), (zFl mis mis1 20), cnt, (zFl col col1 16), (zFl len len1 16), (zFl lef lef1 16), (zFl sbt sbt1 16), (zFl shd shd1 16)), (min (hcn + 1) 4), 0, byt, tln, num, wrd, pos, flt) Y out)) zsf_22_1 ?_
  exact z_vret rfl dX3_save_44 ho9.symm (zo_h hh9 (by rfl)) (Nat.zero_le _) (Nat.zero_le _)

set_option maxHeartbeats 4000000 in
set_option maxRecDepth 100000 in
theorem c_restore_3 {G : zT} {c : Nat} {r : Nat} {w : Nat} {lim : Nat} {tol : Int32} {cart : Nat → Int32} {wov : Nat → Int32} {lot : Nat → Int32} {sew : Nat → Int32} {mis : Nat → Int32} {cnt : Nat} {col : Nat → Int32} {len : Nat → Int32} {lef : Nat → Int32} {sbt : Nat → Int32} {shd : Nat → UInt32} {c1 : Nat} {r1 : Nat} {w1 : Nat} {lim1 : Nat} {tol1 : Int32} {cart1 : Nat → Int32} {wov1 : Nat → Int32} {lot1 : Nat → Int32} {sew1 : Nat → Int32} {mis1 : Nat → Int32} {cnt1 : Nat} {col1 : Nat → Int32} {len1 : Nat → Int32} {lef1 : Nat → Int32} {sbt1 : Nat → Int32} {shd1 : Nat → UInt32} {sa sb sc sd : zS} {hcn tln wrd pos : Nat} {byt num : Nat → Int32} {flt : Int32} {Y : zYr} {out : Nat → Int64} (hG : zAl G = false) (hc1 : 0 < hcn) (hc4 : hcn ≤ 4) : zRun G mX3_restore 0 0 [.ref 22, .ref 1] (zHp (c, r, w, lim, tol, cart, wov, lot, sew, mis, cnt, col, len, lef, sbt, shd) (sa, sb, (c1, r1, w1, lim1, tol1, cart1, wov1, lot1, sew1, mis1, cnt1, col1, len1, lef1, sbt1, shd1), sd, hcn, 3, byt, tln, num, wrd, pos, flt) Y out) (.inr (some (.int (nI (hcn - 1))))) (zHp (c1, r1, w1, lim1, tol1, (zFl cart1 cart 320), (zFl wov1 wov 320), (zFl lot1 lot 320), (zFl sew1 sew 320), (zFl mis1 mis 20), cnt1, (zFl col1 col 16), (zFl len1 len 16), (zFl lef1 lef 16), (zFl sbt1 sbt 16), (zFl shd1 shd 16)) (sa, sb, (c1, r1, w1, lim1, tol1, cart1, wov1, lot1, sew1, mis1, cnt1, col1, len1, lef1, sbt1, shd1), sd, (hcn - 1), 2, byt, tln, num, wrd, pos, flt) Y out) := by
  refine zRun_of (by decide +kernel) rfl rfl (Nat.le_of_ble_eq_true rfl) ?_
  suffices hs : ∀ (o9 : zO) (h9 : zH), (Sum.inr (some (.int (nI (hcn - 1)))) : zO) = o9 → (zHp (c1, r1, w1, lim1, tol1, (zFl cart1 cart 320), (zFl wov1 wov 320), (zFl lot1 lot 320), (zFl sew1 sew 320), (zFl mis1 mis 20), cnt1, (zFl col1 col 16), (zFl len1 len 16), (zFl lef1 lef 16), (zFl sbt1 sbt 16), (zFl shd1 shd 16)) (sa, sb, (c1, r1, w1, lim1, tol1, cart1, wov1, lot1, sew1, mis1, cnt1, col1, len1, lef1, sbt1, shd1), sd, (hcn - 1), 2, byt, tln, num, wrd, pos, flt) Y out) = h9 → zPW G mX3_restore 0 0 o9 h9 0 0 0 [(0, .ref 22), (1, .ref 1)] [] (zHp (c, r, w, lim, tol, cart, wov, lot, sew, mis, cnt, col, len, lef, sbt, shd) (sa, sb, (c1, r1, w1, lim1, tol1, cart1, wov1, lot1, sew1, mis1, cnt1, col1, len1, lef1, sbt1, shd1), sd, hcn, 3, byt, tln, num, wrd, pos, flt) Y out) from hs _ _ rfl rfl
  intro o9 h9 ho9 hh9
  refine z_aload_n 0 dX3_restore_0 rfl rfl ?_
  refine z_get (v := .int (nI 3)) 2 zgo_22 rfl inX3 (by decide) zw_182 rfl rfl dX3_restore_1 ?_
  refine z_iconst (v := 4) dX3_restore_4 (by decide) ?_
  refine z_iadd dX3_restore_5 ?_
  refine z_iconst (v := 1) dX3_restore_6 (by decide) ?_
  refine z_isub dX3_restore_7 ?_
  refine z_iconst (v := 4) dX3_restore_8 (by decide) ?_
  refine z_irem dX3_restore_9 (by decide) ?_
  refine z_top (v2 := .int (nI 2)) (by exact congrArg Value.int (by decide)) ?_
  refine z_istore_n (lv' := [(2, .int (nI 2)), (0, .ref 22), (1, .ref 1)]) dX3_restore_10 rfl (by decide) rfl ?_
  refine z_aload_n 1 dX3_restore_11 rfl rfl ?_
  refine z_iload_n 0 dX3_restore_12 rfl rfl ?_
  refine z_callV (N := mX3_roomAt) 1 [.int (nI 2)] [] lX3_roomAt ⟨zw_602, zw_604, zw_27⟩ rfl zgo_22 rfl rfl (Nat.le_of_ble_eq_true rfl) (by decide) ⟨zlt, zlt⟩ ⟨Nat.zero_le _, Nat.zero_le _⟩ (fun _ => rfl) (c_roomAt_2 hG) dX3_restore_13 ?_
  refine z_astore_n (lv' := [(3, .ref 66), (2, .int (nI 2)), (0, .ref 22), (1, .ref 1)]) dX3_restore_16 rfl (by decide) rfl ?_
  refine z_aload_n 0 dX3_restore_17 rfl rfl ?_
  refine z_ifnull dX3_restore_18 ?_
  refine z_aload_n 2 dX3_restore_21 rfl rfl ?_
  refine z_get (v := .int (nI hcn)) 1 zgo_22 rfl inX3 (by decide) zw_180 rfl rfl dX3_restore_22 ?_
  refine z_if_le (tgt := 48) dX3_restore_25 (by decide) (fun c_25 => ?_) (fun c_25 => ?_)
  · exact absurd c_25 (nI_nle hc1 (by omega))
  · skip
    refine z_aload_n 3 dX3_restore_28 rfl rfl ?_
    refine z_aload_n 0 dX3_restore_29 rfl rfl ?_
    refine z_callV (N := mX4_copyFrom) 1 [.ref 66] [] lX4_copyFrom ⟨zw_606, zw_607, zw_608⟩ rfl zgo_1 rfl rfl (Nat.le_of_ble_eq_true rfl) (by decide) ⟨zlt, zlt⟩ ⟨Nat.zero_le _, Nat.zero_le _⟩ zal (c_copy_1_66 (sa := sa) (sb := sb) (sc := sc) (sd := sd) hG) dX3_restore_30 ?_
    refine z_aload_n 2 dX3_restore_33 rfl rfl ?_
    refine z_iload_n 1 dX3_restore_34 rfl rfl ?_
    refine z_puti 2 tyX3 zgo_22 rfl inX3 tyX3_ok nmX3 (by decide) zw_182 rfl rfl (by decide +kernel) (Nat.le_of_ble_eq_true rfl) dX3_restore_35 ?_
    refine z_eqh (h2 := (zHp (c1, r1, w1, lim1, tol1, (zFl cart1 cart 320), (zFl wov1 wov 320), (zFl lot1 lot 320), (zFl sew1 sew 320), (zFl mis1 mis 20), cnt1, (zFl col1 col 16), (zFl len1 len 16), (zFl lef1 lef 16), (zFl sbt1 sbt 16), (zFl shd1 shd 16)) (sa, sb, (c1, r1, w1, lim1, tol1, cart1, wov1, lot1, sew1, mis1, cnt1, col1, len1, lef1, sbt1, shd1), sd, hcn, 2, byt, tln, num, wrd, pos, flt) Y out)) zsf_22_2 ?_
    refine z_aload_n 2 dX3_restore_38 rfl rfl ?_
    refine z_dup dX3_restore_39 rfl ?_
    refine z_get (v := .int (nI hcn)) 1 zgo_22 rfl inX3 (by decide) zw_180 rfl rfl dX3_restore_40 ?_
    refine z_iconst (v := 1) dX3_restore_43 (by decide) ?_
    refine z_isub dX3_restore_44 ?_
    refine z_top (v2 := .int (nI (hcn - 1))) (by rw [show (1 : Int32) = nI 1 from rfl, pk_sub hc1]) ?_
    refine z_puti 1 tyX3 zgo_22 rfl inX3 tyX3_ok nmX3 (by decide) zw_180 rfl rfl (by decide +kernel) (Nat.le_of_ble_eq_true rfl) dX3_restore_45 ?_
    refine z_eqh (h2 := (zHp (c1, r1, w1, lim1, tol1, (zFl cart1 cart 320), (zFl wov1 wov 320), (zFl lot1 lot 320), (zFl sew1 sew 320), (zFl mis1 mis 20), cnt1, (zFl col1 col 16), (zFl len1 len 16), (zFl lef1 lef 16), (zFl sbt1 sbt 16), (zFl shd1 shd 16)) (sa, sb, (c1, r1, w1, lim1, tol1, cart1, wov1, lot1, sew1, mis1, cnt1, col1, len1, lef1, sbt1, shd1), sd, (hcn - 1), 2, byt, tln, num, wrd, pos, flt) Y out)) zsf_22_1 ?_
    refine z_aload_n 2 dX3_restore_48 rfl rfl ?_
    refine z_get (v := .int (nI (hcn - 1))) 1 zgo_22 rfl inX3 (by decide) zw_180 rfl rfl dX3_restore_49 ?_
    exact z_iret rfl dX3_restore_52 (zo_i ho9 (by rfl)) (zo_h hh9 (by rfl)) (Nat.zero_le _) (Nat.zero_le _)

