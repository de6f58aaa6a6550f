set_option maxHeartbeats 4000000 in
set_option maxRecDepth 100000 in
theorem c_changeLimit {G : zT} {c r w lim cnt : Nat} {tol : Int32} {cart wov lot sew mis col len lef sbt : Nat → Int32} {shd : Nat → UInt32} {X : zXr} {Y : zYr} {out : Nat → Int64} (hG : zAl G = false) (hc : c ≤ 20) (hr : r ≤ 16) (hw : w ≤ r) (hn : cnt ≤ 16) (lm : Nat) (hl : lm ≤ 16) : zRun G mX4_changeLimit 0 0 [.ref 1, .int (nI lm)] (zHp (c, r, w, lim, tol, cart, wov, lot, sew, mis, cnt, col, len, lef, sbt, shd) X Y out) (.inr (some (.int (nI lim)))) (zHp (c, r, w, lm, tol, cart, wov, lot, (zFg wov sew c w lm), mis, cnt, col, len, lef, sbt, shd) X Y out) := by
  refine zRun_of (by decide +kernel) rfl rfl (Nat.le_of_ble_eq_true rfl) ?_
  suffices hs : ∀ (o9 : zO) (h9 : zH), (Sum.inr (some (.int (nI lim))) : zO) = o9 → (zHp (c, r, w, lm, tol, cart, wov, lot, (zFg wov sew c w lm), mis, cnt, col, len, lef, sbt, shd) X Y out) = h9 → zPW G mX4_changeLimit 0 0 o9 h9 0 0 0 [(0, .ref 1), (1, .int (nI lm))] [] (zHp (c, r, w, lim, tol, cart, wov, lot, sew, mis, cnt, col, len, lef, sbt, shd) X Y out) from hs _ _ rfl rfl
  intro o9 h9 ho9 hh9
  refine z_aload_n 0 dX4_changeLimit_0 rfl rfl ?_
  refine z_get (v := .int (nI lim)) 3 zgo_1 rfl inX4 (by decide) zw_136 rfl rfl dX4_changeLimit_1 ?_
  refine z_istore_n (lv' := [(2, .int (nI lim)), (0, .ref 1), (1, .int (nI lm))]) dX4_changeLimit_4 rfl (by decide) rfl ?_
  refine z_aload_n 1 dX4_changeLimit_5 rfl rfl ?_
  refine z_iload_n 2 dX4_changeLimit_6 rfl rfl ?_
  refine z_puti 3 tyX4 zgo_1 rfl inX4 tyX4_ok nmX4 (by decide) zw_136 rfl rfl (by decide +kernel) (Nat.le_of_ble_eq_true rfl) dX4_changeLimit_7 ?_
  refine z_eqh (h2 := (zHp (c, r, w, lm, tol, cart, wov, lot, sew, mis, cnt, col, len, lef, sbt, shd) X Y out)) zsf_1_3 ?_
  refine z_aload_n 1 dX4_changeLimit_10 rfl rfl ?_
  refine z_callV (N := mX4_forgetLostSlits) 0 [] [] lX4_forgetLostSlits ⟨zw_712, zw_714, zw_29⟩ rfl zgo_1 rfl rfl (Nat.le_of_ble_eq_true rfl) (by decide) ⟨zlt, zlt⟩ ⟨Nat.zero_le _, Nat.zero_le _⟩ zal (c_forget hG hc hr hw hn hl) dX4_changeLimit_11 ?_
  refine z_iload_n 0 dX4_changeLimit_14 rfl rfl ?_
  exact z_iret rfl dX4_changeLimit_15 (zo_i ho9 (by rfl)) (zo_h hh9 (by rfl)) (Nat.zero_le _) (Nat.zero_le _)

def zSwS (wov sew : Nat → Int32) (c w lim : Nat) (ix : Int32) : Nat → Int32 := if zSp wov c w lim ix = -1 then sew else zPutG sew (zSp wov c w lim ix / nI 16) (zSp wov c w lim ix - zSp wov c w lim ix / nI 16 * nI 16) 1

set_option maxHeartbeats 4000000 in
set_option maxRecDepth 100000 in
theorem c_sewSlit {G : zT} {c r w lim cnt : Nat} {tol : Int32} {cart wov lot sew mis col len lef sbt : Nat → Int32} {shd : Nat → UInt32} {X : zXr} {Y : zYr} {out : Nat → Int64} (hG : zAl G = false) (hc : c ≤ 20) (hr : r ≤ 16) (hw : w ≤ r) (hn : cnt ≤ 16) (hl : lim ≤ 16) (ix : Int32) : zRun G mX4_sewSlit 0 0 [.ref 1, .int ix] (zHp (c, r, w, lim, tol, cart, wov, lot, sew, mis, cnt, col, len, lef, sbt, shd) X Y out) (.inr (some (.int (nI (zSc wov c w lim) - nI (zCi (zSwS wov sew c w lim ix) 1 c r))))) (zHp (c, r, w, lim, tol, cart, wov, lot, (zSwS wov sew c w lim ix), mis, cnt, col, len, lef, sbt, shd) X Y out) := by
  refine zRun_of (by decide +kernel) rfl rfl (Nat.le_of_ble_eq_true rfl) ?_
  suffices hs : ∀ (o9 : zO) (h9 : zH), (Sum.inr (some (.int (nI (zSc wov c w lim) - nI (zCi (zSwS wov sew c w lim ix) 1 c r)))) : zO) = o9 → (zHp (c, r, w, lim, tol, cart, wov, lot, (zSwS wov sew c w lim ix), mis, cnt, col, len, lef, sbt, shd) X Y out) = h9 → zPW G mX4_sewSlit 0 0 o9 h9 0 0 0 [(0, .ref 1), (1, .int ix)] [] (zHp (c, r, w, lim, tol, cart, wov, lot, sew, mis, cnt, col, len, lef, sbt, shd) X Y out) from hs _ _ rfl rfl
  intro o9 h9 ho9 hh9
  refine z_aload_n 0 dX4_sewSlit_0 rfl rfl ?_
  refine z_iload_n 1 dX4_sewSlit_1 rfl rfl ?_
  refine z_callV (N := mX4_slitPlace) 1 [.int ix] [] lX4_slitPlace ⟨zw_794, zw_795, zw_796⟩ rfl zgo_1 rfl rfl (Nat.le_of_ble_eq_true rfl) (by decide) ⟨zlt, zlt⟩ ⟨Nat.zero_le _, Nat.zero_le _⟩ (fun _ => rfl) (c_slitPlace hG hc hr hw hn hl ix) dX4_sewSlit_2 ?_
  refine z_istore_n (lv' := [(2, .int (zSp wov c w lim ix)), (0, .ref 1), (1, .int ix)]) dX4_sewSlit_5 rfl (by decide) rfl ?_
  refine z_iload_n 0 dX4_sewSlit_6 rfl rfl ?_
  refine z_iconst (v := (-1)) dX4_sewSlit_7 (by decide) ?_
  refine z_icmp_eq (tgt := 27) dX4_sewSlit_8 (by decide) (fun c_8 => ?_) (fun c_8 => ?_)
  · skip
    refine z_aload_n 1 dX4_sewSlit_27 rfl rfl ?_
    refine z_aload_n 1 dX4_sewSlit_28 rfl rfl ?_
    refine z_get (v := .int (nI lim)) 3 zgo_1 rfl inX4 (by decide) zw_136 rfl rfl dX4_sewSlit_29 ?_
    refine z_callV (N := mX4_slitCount) 1 [.int (nI lim)] [] lX4_slitCount ⟨zw_276, zw_277, zw_278⟩ rfl zgo_1 rfl rfl (Nat.le_of_ble_eq_true rfl) (by decide) ⟨zlt, zlt⟩ ⟨Nat.zero_le _, Nat.zero_le _⟩ (fun _ => rfl) (c_slitCount hG hc hr hw hn lim (by omega)) dX4_sewSlit_32 ?_
    refine z_aload_n 1 dX4_sewSlit_35 rfl rfl ?_
    refine z_callV (N := mX4_sewnSlits) 0 [] [.int (nI (zSc wov c w lim))] lX4_sewnSlits ⟨zw_288, zw_290, zw_4⟩ rfl zgo_1 rfl rfl (Nat.le_of_ble_eq_true rfl) (by decide) ⟨zlt, zlt⟩ ⟨Nat.zero_le _, Nat.zero_le _⟩ (fun _ => rfl) (c_sewnSlits hG hc hr hw hn ) dX4_sewSlit_36 ?_
    refine z_isub dX4_sewSlit_39 ?_
    exact z_iret rfl dX4_sewSlit_40 (zo_i ho9 (by simp [zSwS, *])) (zo_h hh9 (by simp [zSwS, *])) (Nat.zero_le _) (Nat.zero_le _)
  · skip
    refine z_aload_n 1 dX4_sewSlit_11 rfl rfl ?_
    refine z_get (v := .ref 8) 8 zgo_1 rfl inX4 (by decide) zw_143 rfl rfl dX4_sewSlit_12 ?_
    refine z_iload_n 0 dX4_sewSlit_15 rfl rfl ?_
    refine z_bipush (v := nI 16) dX4_sewSlit_16 (by decide) ?_
    refine z_idiv dX4_sewSlit_18 (by decide) ?_
    refine z_iload_n 0 dX4_sewSlit_19 rfl rfl ?_
    refine z_bipush (v := nI 16) dX4_sewSlit_20 (by decide) ?_
    refine z_irem dX4_sewSlit_22 (by decide) ?_
    refine z_iconst (v := 1) dX4_sewSlit_23 (by decide) ?_
    refine z_callV (N := mX2_put) 3 [.int ((zSp wov c w lim ix) / (nI 16)), .int ((zSp wov c w lim ix) - (zSp wov c w lim ix) / (nI 16) * (nI 16)), .int 1] [] lX2_put ⟨zw_665, zw_666, zw_667⟩ rfl zgo_8 rfl rfl (Nat.le_of_ble_eq_true rfl) (by decide) ⟨zlt, zlt⟩ ⟨Nat.zero_le _, Nat.zero_le _⟩ zal (c_gPut (g := 8) (v := 9) (f := sew) (h1 := (zHp (c, r, w, lim, tol, cart, wov, lot, (zPutG sew ((zSp wov c w lim ix) / (nI 16)) ((zSp wov c w lim ix) - (zSp wov c w lim ix) / (nI 16) * (nI 16)) 1), mis, cnt, col, len, lef, sbt, shd) X Y out)) zlt zgo_8 zga_9 ((zSp wov c w lim ix) / (nI 16)) ((zSp wov c w lim ix) - (zSp wov c w lim ix) / (nI 16) * (nI 16)) 1 zsa_9) dX4_sewSlit_24 ?_
    refine z_aload_n 1 dX4_sewSlit_27 rfl rfl ?_
    refine z_aload_n 1 dX4_sewSlit_28 rfl rfl ?_
    refine z_get (v := .int (nI lim)) 3 zgo_1 rfl inX4 (by decide) zw_136 rfl rfl dX4_sewSlit_29 ?_
    refine z_callV (N := mX4_slitCount) 1 [.int (nI lim)] [] lX4_slitCount ⟨zw_276, zw_277, zw_278⟩ rfl zgo_1 rfl rfl (Nat.le_of_ble_eq_true rfl) (by decide) ⟨zlt, zlt⟩ ⟨Nat.zero_le _, Nat.zero_le _⟩ (fun _ => rfl) (c_slitCount hG hc hr hw hn lim (by omega)) dX4_sewSlit_32 ?_
    refine z_aload_n 1 dX4_sewSlit_35 rfl rfl ?_
    refine z_callV (N := mX4_sewnSlits) 0 [] [.int (nI (zSc wov c w lim))] lX4_sewnSlits ⟨zw_288, zw_290, zw_4⟩ rfl zgo_1 rfl rfl (Nat.le_of_ble_eq_true rfl) (by decide) ⟨zlt, zlt⟩ ⟨Nat.zero_le _, Nat.zero_le _⟩ (fun _ => rfl) (c_sewnSlits hG hc hr hw hn ) dX4_sewSlit_36 ?_
    refine z_isub dX4_sewSlit_39 ?_
    exact z_iret rfl dX4_sewSlit_40 (zo_i ho9 (by simp [zSwS, *])) (zo_h hh9 (by simp [zSwS, *])) (Nat.zero_le _) (Nat.zero_le _)

