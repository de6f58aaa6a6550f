def zLy (cart mis : Nat → Int32) (c : Nat) (y : Int32) (wov : Nat → Int32) : Nat → Int32 := zIt (fun b f => zPutG f (nI b) y (if zAtN 20 mis (nI b) = -1 then zAt cart (nI b) y else zAtN 20 mis (nI b))) c wov
def zAF (p : Nat → Bool) : Nat → Nat → Bool
  | _, 0 => true
  | a, d + 1 => if p a then zAF p (a + 1) d else false
def zHyP (wov col lef : Nat → Int32) (c cnt : Nat) (y : Int32) (v : Nat) : Bool := decide (nI (zCe wov (nI v) y c + zRo wov (nI v) y c) ≤ zLf col lef (nI v) cnt)

set_option maxHeartbeats 4000000 in
set_option maxRecDepth 100000 in
theorem c_layColors {G : zT} {c r w lim cnt : Nat} {tol : Int32} {cart wov lot sew mis col len lef sbt : Nat → Int32} {shd : Nat → UInt32} {X : zXr} {Y : zYr} {out : Nat → Int64} (hG : zAl G = false) (hc : c ≤ 20) (hr : r ≤ 16) (hw : w ≤ r) (hn : cnt ≤ 16) (y : Int32) : zRun G mX4_layColors 0 0 [.ref 1, .int y] (zHp (c, r, w, lim, tol, cart, wov, lot, sew, mis, cnt, col, len, lef, sbt, shd) X Y out) (.inr none) (zHp (c, r, w, lim, tol, cart, (zLy cart mis c y wov), lot, sew, mis, cnt, col, len, lef, sbt, shd) X Y out) := by
  refine zRun_of (by decide +kernel) rfl rfl (Nat.le_of_ble_eq_true rfl) ?_
  suffices hs : ∀ (o9 : zO) (h9 : zH), (Sum.inr none : zO) = o9 → (zHp (c, r, w, lim, tol, cart, (zLy cart mis c y wov), lot, sew, mis, cnt, col, len, lef, sbt, shd) X Y out) = h9 → zPW G mX4_layColors 0 0 o9 h9 0 0 0 [(0, .ref 1), (1, .int y)] [] (zHp (c, r, w, lim, tol, cart, wov, lot, sew, mis, cnt, col, len, lef, sbt, shd) X Y out) from hs _ _ rfl rfl
  intro o9 h9 ho9 hh9
  refine z_iconst (v := 0) dX4_layColors_0 (by decide) ?_
  refine z_istore_n (lv' := [(2, .int 0), (0, .ref 1), (1, .int y)]) dX4_layColors_1 rfl (by decide) rfl ?_
  have L2_1 : ∀ (d k : Nat), k ≤ c → c + 1 ≤ k + d → zPW G mX4_layColors 0 0 o9 h9 0 0 2 [(2, .int (nI k)), (0, .ref 1), (1, .int y)] [] (zHp (c, r, w, lim, tol, cart, (zIt (fun b f => zPutG f (nI b) y (if zAtN 20 mis (nI b) = -1 then zAt cart (nI b) y else zAtN 20 mis (nI b))) k wov), lot, sew, mis, cnt, col, len, lef, sbt, shd) X Y out) := by
    intro d
    induction d with
    | zero => intro k hk hd; exact absurd hd (by omega)
    | succ d ih =>
      intro k hk_k hd_k
      have ih2 := ih
      clear ih
      refine z_iload_n 0 dX4_layColors_2 rfl rfl ?_
      refine z_aload_n 1 dX4_layColors_3 rfl rfl ?_
      refine z_get (v := .int (nI c)) 0 zgo_1 rfl inX4 (by decide) zw_130 rfl rfl dX4_layColors_4 ?_
      refine z_icmp_ge (tgt := 52) dX4_layColors_7 (by decide) (fun c_7 => ?_) (fun c_7 => ?_)
      · skip
        have hx_k := zge (by omega) hk_k c_7
        exact z_vret rfl dX4_layColors_52 ho9.symm (zo_h hh9 (by rw [zLy, hx_k])) (Nat.zero_le _) (Nat.zero_le _)
      · skip
        have hx_k := zlt' (by omega) hk_k c_7
        refine z_aload_n 1 dX4_layColors_10 rfl rfl ?_
        refine z_get (v := .ref 10) 9 zgo_1 rfl inX4 (by decide) zw_144 rfl rfl dX4_layColors_11 ?_
        refine z_iload_n 0 dX4_layColors_14 rfl rfl ?_
        refine z_callV (N := mX6_at) 1 [.int (nI k)] [] lX6_at ⟨zw_415, zw_416, zw_417⟩ rfl zgo_10 rfl rfl (Nat.le_of_ble_eq_true rfl) (by decide) ⟨zlt, zlt⟩ ⟨Nat.zero_le _, Nat.zero_le _⟩ (fun _ => rfl) (c_nAt (g := 10) (v := 11) (n := 20) (f := mis) (by omega) zlt zgo_10 zga_11 (nI k)) dX4_layColors_15 ?_
        refine z_istore_n (lv' := [(3, .int (zAtN 20 mis (nI k))), (2, .int (nI k)), (0, .ref 1), (1, .int y)]) dX4_layColors_18 rfl (by decide) rfl ?_
        refine z_aload_n 2 dX4_layColors_19 rfl rfl ?_
        refine z_get (v := .ref 4) 6 zgo_1 rfl inX4 (by decide) zw_141 rfl rfl dX4_layColors_20 ?_
        refine z_iload_n 1 dX4_layColors_23 rfl rfl ?_
        refine z_iload_n 3 dX4_layColors_24 rfl rfl ?_
        refine z_iload_n 0 dX4_layColors_25 rfl rfl ?_
        refine z_iconst (v := (-1)) dX4_layColors_26 (by decide) ?_
        refine z_icmp_ne (tgt := 42) dX4_layColors_27 (by decide) (fun c_27 => ?_) (fun c_27 => ?_)
        · skip
          refine z_iload_n 0 dX4_layColors_42 rfl rfl ?_
          refine z_callV (N := mX2_put) 3 [.int (nI k), .int y, .int (zAtN 20 mis (nI k))] [] lX2_put ⟨zw_665, zw_666, zw_667⟩ rfl zgo_4 rfl rfl (Nat.le_of_ble_eq_true rfl) (by decide) ⟨zlt, zlt⟩ ⟨Nat.zero_le _, Nat.zero_le _⟩ zal (c_gPut (g := 4) (v := 5) (f := (zIt (fun b f => zPutG f (nI b) y (if zAtN 20 mis (nI b) = -1 then zAt cart (nI b) y else zAtN 20 mis (nI b))) k wov)) (h1 := (zHp (c, r, w, lim, tol, cart, (zPutG (zIt (fun b f => zPutG f (nI b) y (if zAtN 20 mis (nI b) = -1 then zAt cart (nI b) y else zAtN 20 mis (nI b))) k wov) (nI k) y (zAtN 20 mis (nI k))), lot, sew, mis, cnt, col, len, lef, sbt, shd) X Y out)) zlt zgo_4 zga_5 (nI k) y (zAtN 20 mis (nI k)) zsa_5) dX4_layColors_43 ?_
          refine z_iinc (v := nI (k + 1)) (lv' := [(2, .int (nI (k + 1))), (3, .int (zAtN 20 mis (nI k))), (0, .ref 1), (1, .int y)]) 1 dX4_layColors_46 rfl (nI_1 k) (by decide) rfl ?_
          refine z_goto (tgt := 2) dX4_layColors_49 (by decide) ?_
          refine z_sub [0, 2, 3] (lv' := [(2, .int (nI (k + 1))), (0, .ref 1), (1, .int y)]) rfl ?_
          refine z_eqs (lv2 := [(2, .int (nI (k + 1))), (0, .ref 1), (1, .int y)]) (h2 := (zHp (c, r, w, lim, tol, cart, (zIt (fun b f => zPutG f (nI b) y (if zAtN 20 mis (nI b) = -1 then zAt cart (nI b) y else zAtN 20 mis (nI b))) (k + 1) wov), lot, sew, mis, cnt, col, len, lef, sbt, shd) X Y out)) (by rfl) (by rw [zIt]; first | rw [if_pos c_27] | rw [if_neg c_27]) ?_
          exact ih2 (k + 1) (by omega) (by omega)
        · skip
          refine z_aload_n 2 dX4_layColors_30 rfl rfl ?_
          refine z_get (v := .ref 2) 5 zgo_1 rfl inX4 (by decide) zw_139 rfl rfl dX4_layColors_31 ?_
          refine z_iload_n 1 dX4_layColors_34 rfl rfl ?_
          refine z_iload_n 3 dX4_layColors_35 rfl rfl ?_
          refine z_callV (N := mX2_at) 2 [.int (nI k), .int y] [.int y, .int (nI k), .ref 4] lX2_at ⟨zw_272, zw_273, zw_274⟩ rfl zgo_2 rfl rfl (Nat.le_of_ble_eq_true rfl) (by decide) ⟨zlt, zlt⟩ ⟨Nat.zero_le _, Nat.zero_le _⟩ (fun _ => rfl) (c_gAt (g := 2) (v := 3) (f := cart) hG zlt zgo_2 zga_3 (nI k) y) dX4_layColors_36 ?_
          refine z_goto (tgt := 43) dX4_layColors_39 (by decide) ?_
          refine z_callV (N := mX2_put) 3 [.int (nI k), .int y, .int (zAt cart (nI k) y)] [] lX2_put ⟨zw_665, zw_666, zw_667⟩ rfl zgo_4 rfl rfl (Nat.le_of_ble_eq_true rfl) (by decide) ⟨zlt, zlt⟩ ⟨Nat.zero_le _, Nat.zero_le _⟩ zal (c_gPut (g := 4) (v := 5) (f := (zIt (fun b f => zPutG f (nI b) y (if zAtN 20 mis (nI b) = -1 then zAt cart (nI b) y else zAtN 20 mis (nI b))) k wov)) (h1 := (zHp (c, r, w, lim, tol, cart, (zPutG (zIt (fun b f => zPutG f (nI b) y (if zAtN 20 mis (nI b) = -1 then zAt cart (nI b) y else zAtN 20 mis (nI b))) k wov) (nI k) y (zAt cart (nI k) y)), lot, sew, mis, cnt, col, len, lef, sbt, shd) X Y out)) zlt zgo_4 zga_5 (nI k) y (zAt cart (nI k) y) zsa_5) dX4_layColors_43 ?_
          refine z_iinc (v := nI (k + 1)) (lv' := [(2, .int (nI (k + 1))), (3, .int (zAtN 20 mis (nI k))), (0, .ref 1), (1, .int y)]) 1 dX4_layColors_46 rfl (nI_1 k) (by decide) rfl ?_
          refine z_goto (tgt := 2) dX4_layColors_49 (by decide) ?_
          refine z_sub [0, 2, 3] (lv' := [(2, .int (nI (k + 1))), (0, .ref 1), (1, .int y)]) rfl ?_
          refine z_eqs (lv2 := [(2, .int (nI (k + 1))), (0, .ref 1), (1, .int y)]) (h2 := (zHp (c, r, w, lim, tol, cart, (zIt (fun b f => zPutG f (nI b) y (if zAtN 20 mis (nI b) = -1 then zAt cart (nI b) y else zAtN 20 mis (nI b))) (k + 1) wov), lot, sew, mis, cnt, col, len, lef, sbt, shd) X Y out)) (by rfl) (by rw [zIt]; first | rw [if_pos c_27] | rw [if_neg c_27]) ?_
          exact ih2 (k + 1) (by omega) (by omega)
  refine z_sub [0, 1, 2] (lv' := [(2, .int 0), (0, .ref 1), (1, .int y)]) rfl ?_
  refine z_eqs (lv2 := [(2, .int (nI 0)), (0, .ref 1), (1, .int y)]) (h2 := (zHp (c, r, w, lim, tol, cart, (zIt (fun b f => zPutG f (nI b) y (if zAtN 20 mis (nI b) = -1 then zAt cart (nI b) y else zAtN 20 mis (nI b))) 0 wov), lot, sew, mis, cnt, col, len, lef, sbt, shd) X Y out)) (by rfl) (by rfl) ?_
  exact L2_1 (c + 1) 0 (Nat.zero_le _) (by omega)

set_option maxHeartbeats 4000000 in
set_option maxRecDepth 100000 in
theorem c_hasYarn {G : zT} {c r w lim cnt : Nat} {tol : Int32} {cart wov lot sew mis col len lef sbt : Nat → Int32} {shd : Nat → UInt32} {X : zXr} {Y : zYr} {out : Nat → Int64} (hG : zAl G = false) (hc : c ≤ 20) (hr : r ≤ 16) (hw : w ≤ r) (hn : cnt ≤ 16) (y : Int32) : zRun G mX4_hasYarnFor 0 0 [.ref 1, .int y] (zHp (c, r, w, lim, tol, cart, wov, lot, sew, mis, cnt, col, len, lef, sbt, shd) X Y out) (.inr (some (.int (zB (zAF (zHyP wov col lef c cnt y) 0 8))))) (zHp (c, r, w, lim, tol, cart, wov, lot, sew, mis, cnt, col, len, lef, sbt, shd) X Y out) := by
  refine zRun_of (by decide +kernel) rfl rfl (Nat.le_of_ble_eq_true rfl) ?_
  suffices hs : ∀ (o9 : zO) (h9 : zH), (Sum.inr (some (.int (zB (zAF (zHyP wov col lef c cnt y) 0 8)))) : zO) = o9 → (zHp (c, r, w, lim, tol, cart, wov, lot, sew, mis, cnt, col, len, lef, sbt, shd) X Y out) = h9 → zPW G mX4_hasYarnFor 0 0 o9 h9 0 0 0 [(0, .ref 1), (1, .int y)] [] (zHp (c, r, w, lim, tol, cart, wov, lot, sew, mis, cnt, col, len, lef, sbt, shd) X Y out) from hs _ _ rfl rfl
  intro o9 h9 ho9 hh9
  refine z_iconst (v := 0) dX4_hasYarnFor_0 (by decide) ?_
  refine z_istore_n (lv' := [(2, .int 0), (0, .ref 1), (1, .int y)]) dX4_hasYarnFor_1 rfl (by decide) rfl ?_
  have L2_1 : ∀ (d k : Nat), k ≤ 8 → 8 + 1 ≤ k + d → zAF (zHyP wov col lef c cnt y) 0 8 = zAF (zHyP wov col lef c cnt y) k (8 - k) → zPW G mX4_hasYarnFor 0 0 o9 h9 0 0 2 [(2, .int (nI k)), (0, .ref 1), (1, .int y)] [] (zHp (c, r, w, lim, tol, cart, wov, lot, sew, mis, cnt, col, len, lef, sbt, shd) X Y out) := by
    intro d
    induction d with
    | zero => intro k hk hd; exact absurd hd (by omega)
    | succ d ih =>
      intro k hk_k hd_k he_k
      have ih2 := ih
      clear ih
      refine z_iload_n 0 dX4_hasYarnFor_2 rfl rfl ?_
      refine z_bipush (v := nI 8) dX4_hasYarnFor_3 (by decide) ?_
      refine z_icmp_ge (tgt := 40) dX4_hasYarnFor_5 (by decide) (fun c_5 => ?_) (fun c_5 => ?_)
      · skip
        have hx_k := zge (by omega) hk_k c_5
        refine z_iconst (v := 1) dX4_hasYarnFor_40 (by decide) ?_
        exact z_zret rfl (by rfl) dX4_hasYarnFor_41 (zo_i ho9 (by rw [he_k, hx_k, Nat.sub_self, zAF]; rfl)) (zo_h hh9 (by rfl)) (Nat.zero_le _) (Nat.zero_le _)
      · skip
        have hx_k := zlt' (by omega) hk_k c_5
        refine z_aload_n 1 dX4_hasYarnFor_8 rfl rfl ?_
        refine z_get (v := .ref 4) 6 zgo_1 rfl inX4 (by decide) zw_141 rfl rfl dX4_hasYarnFor_9 ?_
        refine z_iload_n 0 dX4_hasYarnFor_12 rfl rfl ?_
        refine z_iload_n 2 dX4_hasYarnFor_13 rfl rfl ?_
        refine z_aload_n 1 dX4_hasYarnFor_14 rfl rfl ?_
        refine z_get (v := .int (nI c)) 0 zgo_1 rfl inX4 (by decide) zw_130 rfl rfl dX4_hasYarnFor_15 ?_
        refine z_callV (N := mX2_unitsOf) 3 [.int (nI k), .int y, .int (nI c)] [] lX2_unitsOf ⟨zw_452, zw_453, zw_454⟩ rfl zgo_4 rfl rfl (Nat.le_of_ble_eq_true rfl) (by decide) ⟨zlt, zlt⟩ ⟨Nat.zero_le _, Nat.zero_le _⟩ (fun _ => rfl) (c_gUnits (g := 4) (v := 5) (f := wov) hG zlt zgo_4 zga_5 (nI k) y (c := c) (by omega)) dX4_hasYarnFor_18 ?_
        refine z_aload_n 1 dX4_hasYarnFor_21 rfl rfl ?_
        refine z_get (v := .ref 12) 10 zgo_1 rfl inX4 (by decide) zw_145 rfl rfl dX4_hasYarnFor_22 ?_
        refine z_iload_n 0 dX4_hasYarnFor_25 rfl rfl ?_
        refine z_callV (N := mX5_leftOf) 1 [.int (nI k)] [.int (nI (zCe wov (nI k) y c + zRo wov (nI k) y c))] lX5_leftOf ⟨zw_432, zw_433, zw_434⟩ rfl zgo_12 rfl rfl (Nat.le_of_ble_eq_true rfl) (by decide) ⟨zlt, zlt⟩ ⟨Nat.zero_le _, Nat.zero_le _⟩ (fun _ => rfl) (c_lLeft hG hc hr hw hn (nI k)) dX4_hasYarnFor_26 ?_
        refine z_icmp_le (tgt := 34) dX4_hasYarnFor_29 (by decide) (fun c_29 => ?_) (fun c_29 => ?_)
        · skip
          refine z_iinc (v := nI (k + 1)) (lv' := [(2, .int (nI (k + 1))), (0, .ref 1), (1, .int y)]) 0 dX4_hasYarnFor_34 rfl (nI_1 k) (by decide) rfl ?_
          refine z_goto (tgt := 2) dX4_hasYarnFor_37 (by decide) ?_
          refine z_sub [0, 1, 2] (lv' := [(2, .int (nI (k + 1))), (0, .ref 1), (1, .int y)]) rfl ?_
          refine z_eqs (lv2 := [(2, .int (nI (k + 1))), (0, .ref 1), (1, .int y)]) (h2 := (zHp (c, r, w, lim, tol, cart, wov, lot, sew, mis, cnt, col, len, lef, sbt, shd) X Y out)) (by rfl) (by rfl) ?_
          exact ih2 (k + 1) (by omega) (by omega) (by rw [he_k, show 8 - k = (8 - (k + 1)) + 1 by omega, zAF, if_pos (show zHyP wov col lef c cnt y k = true from decide_eq_true c_29)])
        · skip
          refine z_iconst (v := 0) dX4_hasYarnFor_32 (by decide) ?_
          exact z_zret rfl (by rfl) dX4_hasYarnFor_33 (zo_i ho9 (by rw [he_k, show 8 - k = (8 - (k + 1)) + 1 by omega, zAF, if_neg (show ¬ zHyP wov col lef c cnt y k = true from fun q => c_29 (of_decide_eq_true q))]; rfl)) (zo_h hh9 (by rfl)) (Nat.zero_le _) (Nat.zero_le _)
  refine z_sub [0, 1, 2] (lv' := [(2, .int 0), (0, .ref 1), (1, .int y)]) rfl ?_
  refine z_eqs (lv2 := [(2, .int (nI 0)), (0, .ref 1), (1, .int y)]) (h2 := (zHp (c, r, w, lim, tol, cart, wov, lot, sew, mis, cnt, col, len, lef, sbt, shd) X Y out)) (by rfl) (by rfl) ?_
  exact L2_1 (8 + 1) 0 (Nat.zero_le _) (by omega) rfl

/-- the cells of the row are taken, one after the other: what is left, the lots of the cells -/
def zWkB (wv col : Nat → Int32) (w cnt : Nat) : Nat → (Nat → Int32) × (Nat → Int32) → (Nat → Int32) × (Nat → Int32) := (fun b (s : (Nat → Int32) × (Nat → Int32)) => let l1 := if zSt wv (nI b) (nI w) then zTk col s.1 (zAt wv (nI b) (nI w)) cnt else s.1; (zTk col l1 (zAt wv (nI b) (nI w)) cnt, zPutG s.2 (nI b) (nI w) (zIu col l1 (zAt wv (nI b) (nI w)) 0 cnt)))
def zWk (wv col lef lot : Nat → Int32) (c w cnt : Nat) : (Nat → Int32) × (Nat → Int32) := zIt (zWkB wv col w cnt) c (lef, lot)
/-- what weaving a row changes: the woven rows, woven, lots of cells, left, mistakes -/
abbrev zWt : Type := Nat × (Nat → Int32) × (Nat → Int32) × (Nat → Int32) × (Nat → Int32)
def zWvn (c r cnt : Nat) (cart col : Nat → Int32) (t : zWt) : Bool × zWt :=
  if r ≤ t.1 then (false, t) else
  let wv := zLy cart t.2.2.2.2 c (nI t.1) t.2.1
  if zAF (zHyP wv col t.2.2.2.1 c cnt (nI t.1)) 0 8 then
    let q := zWk wv col t.2.2.2.1 t.2.2.1 c t.1 cnt
    (true, (t.1 + 1, wv, q.2, q.1, zFl (fun _ => (-1)) t.2.2.2.2 20))
  else (false, (t.1, wv, t.2.2.1, t.2.2.2.1, t.2.2.2.2))

set_option maxHeartbeats 4000000 in
set_option maxRecDepth 100000 in
theorem c_weaveNext {G : zT} {c r w lim cnt : Nat} {tol : Int32} {cart wov lot sew mis col len lef sbt : Nat → Int32} {shd : Nat → UInt32} {X : zXr} {Y : zYr} {out : Nat → Int64} (hG : zAl G = false) (hc : c ≤ 20) (hr : r ≤ 16) (hw : w ≤ r) (hn : cnt ≤ 16) : zRun G mX4_weaveNext 0 0 [.ref 1] (zHp (c, r, w, lim, tol, cart, wov, lot, sew, mis, cnt, col, len, lef, sbt, shd) X Y out) (.inr (some (.int (zB (zWvn c r cnt cart col (w, wov, lot, lef, mis)).1)))) (zHp (c, r, (zWvn c r cnt cart col (w, wov, lot, lef, mis)).2.1, lim, tol, cart, (zWvn c r cnt cart col (w, wov, lot, lef, mis)).2.2.1, (zWvn c r cnt cart col (w, wov, lot, lef, mis)).2.2.2.1, sew, (zWvn c r cnt cart col (w, wov, lot, lef, mis)).2.2.2.2.2, cnt, col, len, (zWvn c r cnt cart col (w, wov, lot, lef, mis)).2.2.2.2.1, sbt, shd) X Y out) := by
  refine zRun_of (by decide +kernel) rfl rfl (Nat.le_of_ble_eq_true rfl) ?_
  suffices hs : ∀ (o9 : zO) (h9 : zH), (Sum.inr (some (.int (zB (zWvn c r cnt cart col (w, wov, lot, lef, mis)).1))) : zO) = o9 → (zHp (c, r, (zWvn c r cnt cart col (w, wov, lot, lef, mis)).2.1, lim, tol, cart, (zWvn c r cnt cart col (w, wov, lot, lef, mis)).2.2.1, (zWvn c r cnt cart col (w, wov, lot, lef, mis)).2.2.2.1, sew, (zWvn c r cnt cart col (w, wov, lot, lef, mis)).2.2.2.2.2, cnt, col, len, (zWvn c r cnt cart col (w, wov, lot, lef, mis)).2.2.2.2.1, sbt, shd) X Y out) = h9 → zPW G mX4_weaveNext 0 0 o9 h9 0 0 0 [(0, .ref 1)] [] (zHp (c, r, w, lim, tol, cart, wov, lot, sew, mis, cnt, col, len, lef, sbt, shd) X Y out) from hs _ _ rfl rfl
  intro o9 h9 ho9 hh9
  refine z_aload_n 0 dX4_weaveNext_0 rfl rfl ?_
  refine z_get (v := .int (nI w)) 2 zgo_1 rfl inX4 (by decide) zw_134 rfl rfl dX4_weaveNext_1 ?_
  refine z_istore_n (lv' := [(1, .int (nI w)), (0, .ref 1)]) dX4_weaveNext_4 rfl (by decide) rfl ?_
  refine z_iload_n 0 dX4_weaveNext_5 rfl rfl ?_
  refine z_aload_n 1 dX4_weaveNext_6 rfl rfl ?_
  refine z_get (v := .int (nI r)) 1 zgo_1 rfl inX4 (by decide) zw_132 rfl rfl dX4_weaveNext_7 ?_
  refine z_icmp_lt (tgt := 15) dX4_weaveNext_10 (by decide) (fun c_10 => ?_) (fun c_10 => ?_)
  · skip
    have hwr : w < r := (nI_ltI (by omega) (by omega)).mp c_10
    refine z_aload_n 1 dX4_weaveNext_15 rfl rfl ?_
    refine z_iload_n 0 dX4_weaveNext_16 rfl rfl ?_
    refine z_callV (N := mX4_layColors) 1 [.int (nI w)] [] lX4_layColors ⟨zw_751, zw_753, zw_31⟩ rfl zgo_1 rfl rfl (Nat.le_of_ble_eq_true rfl) (by decide) ⟨zlt, zlt⟩ ⟨Nat.zero_le _, Nat.zero_le _⟩ zal (c_layColors hG hc hr hw hn (nI w)) dX4_weaveNext_17 ?_
    refine z_aload_n 1 dX4_weaveNext_20 rfl rfl ?_
    refine z_iload_n 0 dX4_weaveNext_21 rfl rfl ?_
    refine z_callV (N := mX4_hasYarnFor) 1 [.int (nI w)] [] lX4_hasYarnFor ⟨zw_755, zw_757, zw_32⟩ rfl zgo_1 rfl rfl (Nat.le_of_ble_eq_true rfl) (by decide) ⟨zlt, zlt⟩ ⟨Nat.zero_le _, Nat.zero_le _⟩ (fun _ => rfl) (c_hasYarn hG hc hr hw hn (nI w)) dX4_weaveNext_22 ?_
    refine z_if_ne (tgt := 30) dX4_weaveNext_25 (by decide) (fun c_25 => ?_) (fun c_25 => ?_)
    · skip
      have b_25 := zB_tt c_25
      refine z_iconst (v := 0) dX4_weaveNext_30 (by decide) ?_
      refine z_istore_n (lv' := [(2, .int 0), (1, .int (nI w)), (0, .ref 1)]) dX4_weaveNext_31 rfl (by decide) rfl ?_
      have L32_1 : ∀ (d k : Nat), k ≤ c → c + 1 ≤ k + d → zPW G mX4_weaveNext 0 0 o9 h9 0 0 32 [(2, .int (nI k)), (0, .ref 1), (1, .int (nI w))] [] (zHp (c, r, w, lim, tol, cart, (zLy cart mis c (nI w) wov), (zIt (zWkB (zLy cart mis c (nI w) wov) col w cnt) k (lef, lot)).2, sew, mis, cnt, col, len, (zIt (zWkB (zLy cart mis c (nI w) wov) col w cnt) k (lef, lot)).1, sbt, shd) X Y out) := by
        intro d
        induction d with
        | zero => intro k hk hd; exact absurd hd (by omega)
        | succ d ih =>
          intro k hk_k hd_k
          have ih32 := ih
          clear ih
          refine z_iload_n 0 dX4_weaveNext_32 rfl rfl ?_
          refine z_aload_n 1 dX4_weaveNext_33 rfl rfl ?_
          refine z_get (v := .int (nI c)) 0 zgo_1 rfl inX4 (by decide) zw_130 rfl rfl dX4_weaveNext_34 ?_
          refine z_icmp_ge (tgt := 94) dX4_weaveNext_37 (by decide) (fun c_37 => ?_) (fun c_37 => ?_)
          · skip
            have hx_k := zge (by omega) hk_k c_37
            refine z_aload_n 1 dX4_weaveNext_94 rfl rfl ?_
            refine z_get (v := .ref 10) 9 zgo_1 rfl inX4 (by decide) zw_144 rfl rfl dX4_weaveNext_95 ?_
            refine z_iconst (v := (-1)) dX4_weaveNext_98 (by decide) ?_
            refine z_callV (N := mX6_putAll) 1 [.int ((-1))] [] lX6_putAll ⟨zw_126, zw_127, zw_128⟩ rfl zgo_10 rfl rfl (Nat.le_of_ble_eq_true rfl) (by decide) ⟨zlt, zlt⟩ ⟨Nat.zero_le _, Nat.zero_le _⟩ zal (c_nPutAll (g := 10) (v := 11) (n := 20) (f := mis) (h1 := (zHp (c, r, w, lim, tol, cart, (zLy cart mis c (nI w) wov), (zIt (zWkB (zLy cart mis c (nI w) wov) col w cnt) k (lef, lot)).2, sew, (zFl (fun _ => (-1)) mis 20), cnt, col, len, (zIt (zWkB (zLy cart mis c (nI w) wov) col w cnt) k (lef, lot)).1, sbt, shd) X Y out)) (by omega) zlt zgo_10 zga_11 (-1) zsa_11) dX4_weaveNext_99 ?_
            refine z_aload_n 1 dX4_weaveNext_102 rfl rfl ?_
            refine z_dup dX4_weaveNext_103 rfl ?_
            refine z_get (v := .int (nI w)) 2 zgo_1 rfl inX4 (by decide) zw_134 rfl rfl dX4_weaveNext_104 ?_
            refine z_iconst (v := 1) dX4_weaveNext_107 (by decide) ?_
            refine z_iadd dX4_weaveNext_108 ?_
            refine z_top (v2 := .int (nI (w + 1))) (by rw [nI_1]) ?_
            refine z_puti 2 tyX4 zgo_1 rfl inX4 tyX4_ok nmX4 (by decide) zw_134 rfl rfl (by decide +kernel) (Nat.le_of_ble_eq_true rfl) dX4_weaveNext_109 ?_
            refine z_eqh (h2 := (zHp (c, r, (w + 1), lim, tol, cart, (zLy cart mis c (nI w) wov), (zIt (zWkB (zLy cart mis c (nI w) wov) col w cnt) k (lef, lot)).2, sew, (zFl (fun _ => (-1)) mis 20), cnt, col, len, (zIt (zWkB (zLy cart mis c (nI w) wov) col w cnt) k (lef, lot)).1, sbt, shd) X Y out)) zsf_1_2 ?_
            refine z_iconst (v := 1) dX4_weaveNext_112 (by decide) ?_
            exact z_zret rfl (by rfl) dX4_weaveNext_113 (zo_i ho9 (by simp only [zWvn, if_neg (Nat.not_le.mpr hwr), b_25, if_true]; rfl)) (zo_h hh9 (by simp only [zWvn, if_neg (Nat.not_le.mpr hwr), b_25, if_true, zWk, hx_k])) (Nat.zero_le _) (Nat.zero_le _)
          · skip
            have hx_k := zlt' (by omega) hk_k c_37
            refine z_aload_n 1 dX4_weaveNext_40 rfl rfl ?_
            refine z_get (v := .ref 4) 6 zgo_1 rfl inX4 (by decide) zw_141 rfl rfl dX4_weaveNext_41 ?_
            refine z_iload_n 0 dX4_weaveNext_44 rfl rfl ?_
            refine z_iload_n 2 dX4_weaveNext_45 rfl rfl ?_
            refine z_callV (N := mX2_at) 2 [.int (nI k), .int (nI w)] [] lX2_at ⟨zw_272, zw_273, zw_274⟩ rfl zgo_4 rfl rfl (Nat.le_of_ble_eq_true rfl) (by decide) ⟨zlt, zlt⟩ ⟨Nat.zero_le _, Nat.zero_le _⟩ (fun _ => rfl) (c_gAt (g := 4) (v := 5) (f := (zLy cart mis c (nI w) wov)) hG zlt zgo_4 zga_5 (nI k) (nI w)) dX4_weaveNext_46 ?_
            refine z_istore_n (lv' := [(3, .int (zAt (zLy cart mis c (nI w) wov) (nI k) (nI w))), (2, .int (nI k)), (0, .ref 1), (1, .int (nI w))]) dX4_weaveNext_49 rfl (by decide) rfl ?_
            refine z_aload_n 2 dX4_weaveNext_50 rfl rfl ?_
            refine z_get (v := .ref 4) 6 zgo_1 rfl inX4 (by decide) zw_141 rfl rfl dX4_weaveNext_51 ?_
            refine z_iload_n 1 dX4_weaveNext_54 rfl rfl ?_
            refine z_iload_n 3 dX4_weaveNext_55 rfl rfl ?_
            refine z_callV (N := mX2_startsRun) 2 [.int (nI k), .int (nI w)] [] lX2_startsRun ⟨zw_366, zw_354, zw_355⟩ rfl zgo_4 rfl rfl (Nat.le_of_ble_eq_true rfl) (by decide) ⟨zlt, zlt⟩ ⟨Nat.zero_le _, Nat.zero_le _⟩ (fun _ => rfl) (c_gStarts (g := 4) (v := 5) (f := (zLy cart mis c (nI w) wov)) hG zlt zgo_4 zga_5 (nI k) (nI w)) dX4_weaveNext_56 ?_
            refine z_if_eq (tgt := 71) dX4_weaveNext_59 (by decide) (fun c_59 => ?_) (fun c_59 => ?_)
            · skip
              have b_59 := zB_0.mp c_59
              refine z_aload_n 2 dX4_weaveNext_71 rfl rfl ?_
              refine z_get (v := .ref 6) 7 zgo_1 rfl inX4 (by decide) zw_142 rfl rfl dX4_weaveNext_72 ?_
              refine z_iload_n 1 dX4_weaveNext_75 rfl rfl ?_
              refine z_iload_n 3 dX4_weaveNext_76 rfl rfl ?_
              refine z_aload_n 2 dX4_weaveNext_77 rfl rfl ?_
              refine z_get (v := .ref 12) 10 zgo_1 rfl inX4 (by decide) zw_145 rfl rfl dX4_weaveNext_78 ?_
              refine z_iload_n 0 dX4_weaveNext_81 rfl rfl ?_
              refine z_callV (N := mX5_take) 1 [.int (zAt (zLy cart mis c (nI w) wov) (nI k) (nI w))] [.int (nI w), .int (nI k), .ref 6] lX5_take ⟨zw_759, zw_760, zw_761⟩ rfl zgo_12 rfl rfl (Nat.le_of_ble_eq_true rfl) (by decide) ⟨zlt, zlt⟩ ⟨Nat.zero_le _, Nat.zero_le _⟩ zal (c_take hG hc hr hw hn (zAt (zLy cart mis c (nI w) wov) (nI k) (nI w))) dX4_weaveNext_82 ?_
              refine z_callV (N := mX2_put) 3 [.int (nI k), .int (nI w), .int (zIu col ((zIt (zWkB (zLy cart mis c (nI w) wov) col w cnt) k (lef, lot)).1) (zAt (zLy cart mis c (nI w) wov) (nI k) (nI w)) 0 cnt)] [] lX2_put ⟨zw_665, zw_666, zw_667⟩ rfl zgo_6 rfl rfl (Nat.le_of_ble_eq_true rfl) (by decide) ⟨zlt, zlt⟩ ⟨Nat.zero_le _, Nat.zero_le _⟩ zal (c_gPut (g := 6) (v := 7) (f := (zIt (zWkB (zLy cart mis c (nI w) wov) col w cnt) k (lef, lot)).2) (h1 := (zHp (c, r, w, lim, tol, cart, (zLy cart mis c (nI w) wov), (zPutG ((zIt (zWkB (zLy cart mis c (nI w) wov) col w cnt) k (lef, lot)).2) (nI k) (nI w) (zIu col ((zIt (zWkB (zLy cart mis c (nI w) wov) col w cnt) k (lef, lot)).1) (zAt (zLy cart mis c (nI w) wov) (nI k) (nI w)) 0 cnt)), sew, mis, cnt, col, len, (zTk col ((zIt (zWkB (zLy cart mis c (nI w) wov) col w cnt) k (lef, lot)).1) (zAt (zLy cart mis c (nI w) wov) (nI k) (nI w)) cnt), sbt, shd) X Y out)) zlt zgo_6 zga_7 (nI k) (nI w) (zIu col ((zIt (zWkB (zLy cart mis c (nI w) wov) col w cnt) k (lef, lot)).1) (zAt (zLy cart mis c (nI w) wov) (nI k) (nI w)) 0 cnt) zsa_7) dX4_weaveNext_85 ?_
              refine z_iinc (v := nI (k + 1)) (lv' := [(2, .int (nI (k + 1))), (3, .int (zAt (zLy cart mis c (nI w) wov) (nI k) (nI w))), (0, .ref 1), (1, .int (nI w))]) 1 dX4_weaveNext_88 rfl (nI_1 k) (by decide) rfl ?_
              refine z_goto (tgt := 32) dX4_weaveNext_91 (by decide) ?_
              refine z_sub [0, 2, 3] (lv' := [(2, .int (nI (k + 1))), (0, .ref 1), (1, .int (nI w))]) rfl ?_
              refine z_eqs (lv2 := [(2, .int (nI (k + 1))), (0, .ref 1), (1, .int (nI w))]) (h2 := (zHp (c, r, w, lim, tol, cart, (zLy cart mis c (nI w) wov), (zIt (zWkB (zLy cart mis c (nI w) wov) col w cnt) (k + 1) (lef, lot)).2, sew, mis, cnt, col, len, (zIt (zWkB (zLy cart mis c (nI w) wov) col w cnt) (k + 1) (lef, lot)).1, sbt, shd) X Y out)) (by rfl) (by simp only [zIt, zWkB, b_59, if_true, if_false, Bool.false_eq_true]) ?_
              exact ih32 (k + 1) (by omega) (by omega)
            · skip
              have b_59 := zB_tt c_59
              refine z_aload_n 2 dX4_weaveNext_62 rfl rfl ?_
              refine z_get (v := .ref 12) 10 zgo_1 rfl inX4 (by decide) zw_145 rfl rfl dX4_weaveNext_63 ?_
              refine z_iload_n 0 dX4_weaveNext_66 rfl rfl ?_
              refine z_callV (N := mX5_take) 1 [.int (zAt (zLy cart mis c (nI w) wov) (nI k) (nI w))] [] lX5_take ⟨zw_759, zw_760, zw_761⟩ rfl zgo_12 rfl rfl (Nat.le_of_ble_eq_true rfl) (by decide) ⟨zlt, zlt⟩ ⟨Nat.zero_le _, Nat.zero_le _⟩ zal (c_take hG hc hr hw hn (zAt (zLy cart mis c (nI w) wov) (nI k) (nI w))) dX4_weaveNext_67 ?_
              refine z_pop dX4_weaveNext_70 rfl ?_
              refine z_aload_n 2 dX4_weaveNext_71 rfl rfl ?_
              refine z_get (v := .ref 6) 7 zgo_1 rfl inX4 (by decide) zw_142 rfl rfl dX4_weaveNext_72 ?_
              refine z_iload_n 1 dX4_weaveNext_75 rfl rfl ?_
              refine z_iload_n 3 dX4_weaveNext_76 rfl rfl ?_
              refine z_aload_n 2 dX4_weaveNext_77 rfl rfl ?_
              refine z_get (v := .ref 12) 10 zgo_1 rfl inX4 (by decide) zw_145 rfl rfl dX4_weaveNext_78 ?_
              refine z_iload_n 0 dX4_weaveNext_81 rfl rfl ?_
              refine z_callV (N := mX5_take) 1 [.int (zAt (zLy cart mis c (nI w) wov) (nI k) (nI w))] [.int (nI w), .int (nI k), .ref 6] lX5_take ⟨zw_759, zw_760, zw_761⟩ rfl zgo_12 rfl rfl (Nat.le_of_ble_eq_true rfl) (by decide) ⟨zlt, zlt⟩ ⟨Nat.zero_le _, Nat.zero_le _⟩ zal (c_take hG hc hr hw hn (zAt (zLy cart mis c (nI w) wov) (nI k) (nI w))) dX4_weaveNext_82 ?_
              refine z_callV (N := mX2_put) 3 [.int (nI k), .int (nI w), .int (zIu col (zTk col ((zIt (zWkB (zLy cart mis c (nI w) wov) col w cnt) k (lef, lot)).1) (zAt (zLy cart mis c (nI w) wov) (nI k) (nI w)) cnt) (zAt (zLy cart mis c (nI w) wov) (nI k) (nI w)) 0 cnt)] [] lX2_put ⟨zw_665, zw_666, zw_667⟩ rfl zgo_6 rfl rfl (Nat.le_of_ble_eq_true rfl) (by decide) ⟨zlt, zlt⟩ ⟨Nat.zero_le _, Nat.zero_le _⟩ zal (c_gPut (g := 6) (v := 7) (f := (zIt (zWkB (zLy cart mis c (nI w) wov) col w cnt) k (lef, lot)).2) (h1 := (zHp (c, r, w, lim, tol, cart, (zLy cart mis c (nI w) wov), (zPutG ((zIt (zWkB (zLy cart mis c (nI w) wov) col w cnt) k (lef, lot)).2) (nI k) (nI w) (zIu col (zTk col ((zIt (zWkB (zLy cart mis c (nI w) wov) col w cnt) k (lef, lot)).1) (zAt (zLy cart mis c (nI w) wov) (nI k) (nI w)) cnt) (zAt (zLy cart mis c (nI w) wov) (nI k) (nI w)) 0 cnt)), sew, mis, cnt, col, len, (zTk col (zTk col ((zIt (zWkB (zLy cart mis c (nI w) wov) col w cnt) k (lef, lot)).1) (zAt (zLy cart mis c (nI w) wov) (nI k) (nI w)) cnt) (zAt (zLy cart mis c (nI w) wov) (nI k) (nI w)) cnt), sbt, shd) X Y out)) zlt zgo_6 zga_7 (nI k) (nI w) (zIu col (zTk col ((zIt (zWkB (zLy cart mis c (nI w) wov) col w cnt) k (lef, lot)).1) (zAt (zLy cart mis c (nI w) wov) (nI k) (nI w)) cnt) (zAt (zLy cart mis c (nI w) wov) (nI k) (nI w)) 0 cnt) zsa_7) dX4_weaveNext_85 ?_
              refine z_iinc (v := nI (k + 1)) (lv' := [(2, .int (nI (k + 1))), (3, .int (zAt (zLy cart mis c (nI w) wov) (nI k) (nI w))), (0, .ref 1), (1, .int (nI w))]) 1 dX4_weaveNext_88 rfl (nI_1 k) (by decide) rfl ?_
              refine z_goto (tgt := 32) dX4_weaveNext_91 (by decide) ?_
              refine z_sub [0, 2, 3] (lv' := [(2, .int (nI (k + 1))), (0, .ref 1), (1, .int (nI w))]) rfl ?_
              refine z_eqs (lv2 := [(2, .int (nI (k + 1))), (0, .ref 1), (1, .int (nI w))]) (h2 := (zHp (c, r, w, lim, tol, cart, (zLy cart mis c (nI w) wov), (zIt (zWkB (zLy cart mis c (nI w) wov) col w cnt) (k + 1) (lef, lot)).2, sew, mis, cnt, col, len, (zIt (zWkB (zLy cart mis c (nI w) wov) col w cnt) (k + 1) (lef, lot)).1, sbt, shd) X Y out)) (by rfl) (by simp only [zIt, zWkB, b_59, if_true, if_false, Bool.false_eq_true]) ?_
              exact ih32 (k + 1) (by omega) (by omega)
      refine z_sub [0, 2, 1] (lv' := [(2, .int 0), (0, .ref 1), (1, .int (nI w))]) rfl ?_
      refine z_eqs (lv2 := [(2, .int (nI 0)), (0, .ref 1), (1, .int (nI w))]) (h2 := (zHp (c, r, w, lim, tol, cart, (zLy cart mis c (nI w) wov), (zIt (zWkB (zLy cart mis c (nI w) wov) col w cnt) 0 (lef, lot)).2, sew, mis, cnt, col, len, (zIt (zWkB (zLy cart mis c (nI w) wov) col w cnt) 0 (lef, lot)).1, sbt, shd) X Y out)) (by rfl) (by rfl) ?_
      exact L32_1 (c + 1) 0 (Nat.zero_le _) (by omega)
    · skip
      have b_25 := zB_0.mp c_25
      refine z_iconst (v := 0) dX4_weaveNext_28 (by decide) ?_
      exact z_zret rfl (by rfl) dX4_weaveNext_29 (zo_i ho9 (by simp only [zWvn, if_neg (Nat.not_le.mpr hwr), b_25, Bool.false_eq_true, if_false]; rfl)) (zo_h hh9 (by simp only [zWvn, if_neg (Nat.not_le.mpr hwr), b_25, Bool.false_eq_true, if_false])) (Nat.zero_le _) (Nat.zero_le _)
  · skip
    have hwr : r ≤ w := Nat.not_lt.mp fun q => c_10 ((nI_ltI (by omega) (by omega)).mpr q)
    refine z_iconst (v := 0) dX4_weaveNext_13 (by decide) ?_
    exact z_zret rfl (by rfl) dX4_weaveNext_14 (zo_i ho9 (by rw [zWvn, if_pos hwr]; rfl)) (zo_h hh9 (by rw [zWvn, if_pos hwr])) (Nat.zero_le _) (Nat.zero_le _)

def zWs9 (c r cnt : Nat) (cart col : Nat → Int32) : Nat → zWt → Nat × zWt
  | 0, t => (0, t)
  | d + 1, t => if (zWvn c r cnt cart col t).1 then ((zWs9 c r cnt cart col d (zWvn c r cnt cart col t).2).1 + 1, (zWs9 c r cnt cart col d (zWvn c r cnt cart col t).2).2) else (0, (zWvn c r cnt cart col t).2)
theorem zWvn_le {c r cnt : Nat} {cart col : Nat → Int32} {t : zWt} (h : t.1 ≤ r) : (zWvn c r cnt cart col t).2.1 ≤ r := by
  unfold zWvn
  split
  · exact h
  · dsimp only
    split
    · show t.1 + 1 ≤ r; omega
    · exact h

set_option maxHeartbeats 4000000 in
set_option maxRecDepth 100000 in
theorem c_weaveRows {G : zT} {c r w lim cnt : Nat} {tol : Int32} {cart wov lot sew mis col len lef sbt : Nat → Int32} {shd : Nat → UInt32} {X : zXr} {Y : zYr} {out : Nat → Int64} (hG : zAl G = false) (hc : c ≤ 20) (hr : r ≤ 16) (hw : w ≤ r) (hn : cnt ≤ 16) (n : Nat) (hn9 : n ≤ 16) : zRun G mX4_weaveRows 0 0 [.ref 1, .int (nI n)] (zHp (c, r, w, lim, tol, cart, wov, lot, sew, mis, cnt, col, len, lef, sbt, shd) X Y out) (.inr (some (.int (nI (zWs9 c r cnt cart col n (w, wov, lot, lef, mis)).1)))) (zHp (c, r, (zWs9 c r cnt cart col n (w, wov, lot, lef, mis)).2.1, lim, tol, cart, (zWs9 c r cnt cart col n (w, wov, lot, lef, mis)).2.2.1, (zWs9 c r cnt cart col n (w, wov, lot, lef, mis)).2.2.2.1, sew, (zWs9 c r cnt cart col n (w, wov, lot, lef, mis)).2.2.2.2.2, cnt, col, len, (zWs9 c r cnt cart col n (w, wov, lot, lef, mis)).2.2.2.2.1, sbt, shd) X Y out) := by
  refine zRun_of (by decide +kernel) rfl rfl (Nat.le_of_ble_eq_true rfl) ?_
  suffices hs : ∀ (o9 : zO) (h9 : zH), (Sum.inr (some (.int (nI (zWs9 c r cnt cart col n (w, wov, lot, lef, mis)).1))) : zO) = o9 → (zHp (c, r, (zWs9 c r cnt cart col n (w, wov, lot, lef, mis)).2.1, lim, tol, cart, (zWs9 c r cnt cart col n (w, wov, lot, lef, mis)).2.2.1, (zWs9 c r cnt cart col n (w, wov, lot, lef, mis)).2.2.2.1, sew, (zWs9 c r cnt cart col n (w, wov, lot, lef, mis)).2.2.2.2.2, cnt, col, len, (zWs9 c r cnt cart col n (w, wov, lot, lef, mis)).2.2.2.2.1, sbt, shd) X Y out) = h9 → zPW G mX4_weaveRows 0 0 o9 h9 0 0 0 [(0, .ref 1), (1, .int (nI n))] [] (zHp (c, r, w, lim, tol, cart, wov, lot, sew, mis, cnt, col, len, lef, sbt, shd) X Y out) from hs _ _ rfl rfl
  intro o9 h9 ho9 hh9
  refine z_iconst (v := 0) dX4_weaveRows_0 (by decide) ?_
  refine z_istore_n (lv' := [(2, .int 0), (0, .ref 1), (1, .int (nI n))]) dX4_weaveRows_1 rfl (by decide) rfl ?_
  have L2_1 : ∀ (d k : Nat) (t : zWt), k ≤ n → n + 1 ≤ k + d → t.1 ≤ r → zWs9 c r cnt cart col n (w, wov, lot, lef, mis) = ((zWs9 c r cnt cart col (n - k) t).1 + k, (zWs9 c r cnt cart col (n - k) t).2) → zPW G mX4_weaveRows 0 0 o9 h9 0 0 2 [(2, .int (nI k)), (0, .ref 1), (1, .int (nI n))] [] (zHp (c, r, t.1, lim, tol, cart, t.2.1, t.2.2.1, sew, t.2.2.2.2, cnt, col, len, t.2.2.2.1, sbt, shd) X Y out) := by
    intro d
    induction d with
    | zero => intro k t hk hd; exact absurd hd (by omega)
    | succ d ih =>
      intro k t hk_k hd_k ht he_k
      have ih2 := ih
      clear ih
      refine z_iload_n 0 dX4_weaveRows_2 rfl rfl ?_
      refine z_iload_n 2 dX4_weaveRows_3 rfl rfl ?_
      refine z_icmp_ge (tgt := 20) dX4_weaveRows_4 (by decide) (fun c_4 => ?_) (fun c_4 => ?_)
      · skip
        have hx_k := zge (by omega) hk_k c_4
        refine z_iload_n 0 dX4_weaveRows_20 rfl rfl ?_
        exact z_iret rfl dX4_weaveRows_21 (zo_i ho9 (by rw [he_k]; first | (rw [hx_k, Nat.sub_self, zWs9, Nat.zero_add]; done) | (rw [show n - k = (n - (k + 1)) + 1 by omega, zWs9, if_neg (by rw [b_11]; exact Bool.false_ne_true), Nat.zero_add]))) (zo_h hh9 (by rw [he_k]; first | (rw [hx_k, Nat.sub_self, zWs9]; done) | (rw [show n - k = (n - (k + 1)) + 1 by omega, zWs9, if_neg (by rw [b_11]; exact Bool.false_ne_true)]))) (Nat.zero_le _) (Nat.zero_le _)
      · skip
        have hx_k := zlt' (by omega) hk_k c_4
        refine z_aload_n 1 dX4_weaveRows_7 rfl rfl ?_
        refine z_callV (N := mX4_weaveNext) 0 [] [] lX4_weaveNext ⟨zw_747, zw_749, zw_30⟩ rfl zgo_1 rfl rfl (Nat.le_of_ble_eq_true rfl) (by decide) ⟨zlt, zlt⟩ ⟨Nat.zero_le _, Nat.zero_le _⟩ zal (c_weaveNext hG hc hr ht hn) dX4_weaveRows_8 ?_
        refine z_if_eq (tgt := 20) dX4_weaveRows_11 (by decide) (fun c_11 => ?_) (fun c_11 => ?_)
        · skip
          have b_11 : (zWvn c r cnt cart col t).1 = false := zB_0.mp c_11
          refine z_iload_n 0 dX4_weaveRows_20 rfl rfl ?_
          exact z_iret rfl dX4_weaveRows_21 (zo_i ho9 (by rw [he_k]; first | (rw [hx_k, Nat.sub_self, zWs9, Nat.zero_add]; done) | (rw [show n - k = (n - (k + 1)) + 1 by omega, zWs9, if_neg (by rw [b_11]; exact Bool.false_ne_true), Nat.zero_add]))) (zo_h hh9 (by rw [he_k]; first | (rw [hx_k, Nat.sub_self, zWs9]; done) | (rw [show n - k = (n - (k + 1)) + 1 by omega, zWs9, if_neg (by rw [b_11]; exact Bool.false_ne_true)]))) (Nat.zero_le _) (Nat.zero_le _)
        · skip
          have b_11 : (zWvn c r cnt cart col t).1 = true := zB_tt c_11
          refine z_iinc (v := nI (k + 1)) (lv' := [(2, .int (nI (k + 1))), (0, .ref 1), (1, .int (nI n))]) 0 dX4_weaveRows_14 rfl (nI_1 k) (by decide) rfl ?_
          refine z_goto (tgt := 2) dX4_weaveRows_17 (by decide) ?_
          refine z_sub [0, 1, 2] (lv' := [(2, .int (nI (k + 1))), (0, .ref 1), (1, .int (nI n))]) rfl ?_
          refine z_eqs (lv2 := [(2, .int (nI (k + 1))), (0, .ref 1), (1, .int (nI n))]) (h2 := (zHp (c, r, ((zWvn c r cnt cart col t).2).1, lim, tol, cart, ((zWvn c r cnt cart col t).2).2.1, ((zWvn c r cnt cart col t).2).2.2.1, sew, ((zWvn c r cnt cart col t).2).2.2.2.2, cnt, col, len, ((zWvn c r cnt cart col t).2).2.2.2.1, sbt, shd) X Y out)) (by rfl) (by rfl) ?_
          exact ih2 (k + 1) ((zWvn c r cnt cart col t).2) (by omega) (by omega) (zWvn_le ht) (by rw [he_k, show n - k = (n - (k + 1)) + 1 by omega, zWs9, if_pos b_11]; simp only [Nat.add_assoc, Nat.add_comm 1 k])
  refine z_sub [0, 1, 2] (lv' := [(2, .int 0), (0, .ref 1), (1, .int (nI n))]) rfl ?_
  refine z_eqs (lv2 := [(2, .int (nI 0)), (0, .ref 1), (1, .int (nI n))]) (h2 := (zHp (c, r, (w, wov, lot, lef, mis).1, lim, tol, cart, (w, wov, lot, lef, mis).2.1, (w, wov, lot, lef, mis).2.2.1, sew, (w, wov, lot, lef, mis).2.2.2.2, cnt, col, len, (w, wov, lot, lef, mis).2.2.2.1, sbt, shd) X Y out)) (by rfl) (by rfl) ?_
  exact L2_1 (n + 1) 0 (w, wov, lot, lef, mis) (Nat.zero_le _) (by omega) hw rfl

