theorem nI_min {a b : Nat} (ha : a < 2 ^ 31) (hb : b < 2 ^ 31) : (if nI b < nI a then nI b else nI a) = nI (min a b) := by
  by_cases h : b < a
  · rw [if_pos ((nI_ltI hb ha).mpr h), Nat.min_eq_right (by omega)]
  · rw [if_neg (fun q => h ((nI_ltI hb ha).mp q)), Nat.min_eq_left (by omega)]
theorem nI_max {a b : Nat} (ha : a < 2 ^ 31) (hb : b < 2 ^ 31) : (if nI a < nI b then nI b else nI a) = nI (max a b) := by
  by_cases h : a < b
  · rw [if_pos ((nI_ltI ha hb).mpr h), Nat.max_eq_right (by omega)]
  · rw [if_neg (fun q => h ((nI_ltI ha hb).mp q)), Nat.max_eq_left (by omega)]
theorem zSN_t (f : Nat → Nat) {n x : Nat} (A : Nat) (h : f n = x) : nI (A + zSN f n) + nI x = nI (A + zSN f (n + 1)) := by rw [nI_add, ← h, Nat.add_assoc]; rfl
theorem zSN_z (f : Nat → Nat) {n : Nat} (A : Nat) (h : f n = 0) : nI (A + zSN f n) + 0 = nI (A + zSN f (n + 1)) := by rw [show (0 : Int32) = nI 0 from nI_0.symm, ← h, nI_add, Nat.add_assoc]; rfl
theorem zPr_le (f : Nat → Nat) (m : Nat) : ∀ n, zPr f n m ≤ m
  | 0 => Nat.le_refl _
  | n + 1 => Nat.le_trans (Nat.min_le_left _ _) (zPr_le f m n)
def zRyF (cart col lef : Nat → Int32) (c r w cnt : Nat) (v : Nat) : Nat := zRy cart (nI v) c w (r - w) (zLf col lef (nI v) cnt)
def zSc (wov : Nat → Int32) (c w lm : Nat) : Nat := zSN (fun b => zCt (fun y => decide (lm < zRl wov c w (nI b) y)) w) c
def zSpI (P : Nat → Bool) (b : Nat) (ix : Int32) : Nat → Nat → Nat → Nat × Option Int32
  | _, 0, n => (n, none)
  | y, d + 1, n => if P y then (if nI n = ix then (n, some (nI b * nI 16 + nI y)) else zSpI P b ix (y + 1) d (n + 1)) else zSpI P b ix (y + 1) d n
def zSpO (P : Nat → Nat → Bool) (w : Nat) (ix : Int32) : Nat → Nat → Nat → Option Int32
  | _, 0, _ => none
  | b, d + 1, n => match zSpI (P b) b ix 0 w n with
    | (_, some v) => some v
    | (n2, none) => zSpO P w ix (b + 1) d n2
def zSpM (P : Nat → Nat → Bool) (w : Nat) (ix : Int32) (b d : Nat) (q : Nat × Option Int32) : Option Int32 := match q with
  | (_, some v) => some v
  | (n2, none) => zSpO P w ix (b + 1) d n2
/-- where the slit of that number begins, as b * 16 + its first row; -1 if there are not so many -/
def zSp (wov : Nat → Int32) (c w lm : Nat) (ix : Int32) : Int32 := (zSpO (fun b y => decide (lm < zRl wov c w (nI b) y)) w ix 0 c 0).getD (-1)
def zSr (wov sew : Nat → Int32) (c w : Nat) : Nat := zSN (fun b => zSN (fun y => if zAt sew (nI b) (nI y) == 1 then zRl wov c w (nI b) y else 0) w) c
def zMx (f : Nat → Nat) : Nat → Nat
  | 0 => 0
  | n + 1 => max (zMx f n) (f n)
theorem zMx_le {f : Nat → Nat} {m : Nat} (h : ∀ k, f k ≤ m) : ∀ n, zMx f n ≤ m
  | 0 => Nat.zero_le _
  | n + 1 => Nat.max_le.mpr ⟨zMx_le h n, h n⟩
theorem zRu_le (f : Nat → Int32) (y : Int32) (c : Nat) : zRu f y c ≤ c := zCt_le _ _

set_option maxHeartbeats 4000000 in
set_option maxRecDepth 100000 in
theorem c_possibleRows {G : zT} {c r w lim cnt : Nat} {tol : Int32} {cart wov lot sew mis col len lef sbt : Nat → Int32} {shd : Nat → UInt32} {X : zXr} {Y : zYr} {out : Nat → Int64} (hG : zAl G = false) (hc : c ≤ 20) (hr : r ≤ 16) (hw : w ≤ r) (hn : cnt ≤ 16)  : zRun G mX4_possibleRows 0 0 [.ref 1] (zHp (c, r, w, lim, tol, cart, wov, lot, sew, mis, cnt, col, len, lef, sbt, shd) X Y out) (.inr (some (.int (nI (zPr (zRyF cart col lef c r w cnt) 8 (r - w)))))) (zHp (c, r, w, lim, tol, cart, wov, lot, sew, mis, cnt, col, len, lef, sbt, shd) X Y out) := by
  refine zRun_of (by decide +kernel) rfl rfl (Nat.le_of_ble_eq_true rfl) ?_
  suffices hs : ∀ (o9 : zO) (h9 : zH), (Sum.inr (some (.int (nI (zPr (zRyF cart col lef c r w cnt) 8 (r - w))))) : zO) = o9 → (zHp (c, r, w, lim, tol, cart, wov, lot, sew, mis, cnt, col, len, lef, sbt, shd) X Y out) = h9 → zPW G mX4_possibleRows 0 0 o9 h9 0 0 0 [(0, .ref 1)] [] (zHp (c, r, w, lim, tol, cart, wov, lot, sew, mis, cnt, col, len, lef, sbt, shd) X Y out) from hs _ _ rfl rfl
  intro o9 h9 ho9 hh9
  refine z_aload_n 0 dX4_possibleRows_0 rfl rfl ?_
  refine z_get (v := .int (nI r)) 1 rfl rfl inX4 (by decide) zw_132 rfl rfl dX4_possibleRows_1 ?_
  refine z_aload_n 0 dX4_possibleRows_4 rfl rfl ?_
  refine z_get (v := .int (nI w)) 2 rfl rfl inX4 (by decide) zw_134 rfl rfl dX4_possibleRows_5 ?_
  refine z_isub dX4_possibleRows_8 ?_
  refine z_top (v2 := .int (nI (r - w))) (by rw [pk_sub hw]) ?_
  refine z_istore_n (lv' := [(1, .int (nI (r - w))), (0, .ref 1)]) dX4_possibleRows_9 rfl (by decide) rfl ?_
  refine z_iconst (v := 0) dX4_possibleRows_10 (by decide) ?_
  refine z_istore_n (lv' := [(2, .int 0), (1, .int (nI (r - w))), (0, .ref 1)]) dX4_possibleRows_11 rfl (by decide) rfl ?_
  have L12_1 : ∀ (d k : Nat), k ≤ 8 → 8 + 1 ≤ k + d → zPW G mX4_possibleRows 0 0 o9 h9 0 0 12 [(2, .int (nI k)), (1, .int (nI (zPr (zRyF cart col lef c r w cnt) k (r - w)))), (0, .ref 1)] [] (zHp (c, r, w, lim, tol, cart, wov, lot, sew, mis, cnt, col, len, lef, sbt, shd) X Y out) := by
    intro d
    induction d with
    | zero => intro k hk hd; exact absurd hd (by omega)
    | succ d ih =>
      intro k hk_k hd_k
      have ih12 := ih
      clear ih
      refine z_iload_n 0 dX4_possibleRows_12 rfl rfl ?_
      refine z_bipush (v := nI 8) dX4_possibleRows_13 (by decide) ?_
      refine z_icmp_ge (tgt := 34) dX4_possibleRows_15 (by decide) (fun c_15 => ?_) (fun c_15 => ?_)
      · skip
        have hx_k := zge (by omega) hk_k c_15
        refine z_iload_n 1 dX4_possibleRows_34 rfl rfl ?_
        exact z_iret rfl dX4_possibleRows_35 (zo_i ho9 (by rw [hx_k])) (zo_h hh9 (by rfl)) (Nat.zero_le _) (Nat.zero_le _)
      · skip
        have hx_k := zlt' (by omega) hk_k c_15
        refine z_iload_n 1 dX4_possibleRows_18 rfl rfl ?_
        refine z_aload_n 2 dX4_possibleRows_19 rfl rfl ?_
        refine z_iload_n 0 dX4_possibleRows_20 rfl rfl ?_
        refine z_callV (N := mX4_rowsWithYarnOf) 1 [.int (nI k)] [.int (nI (zPr (zRyF cart col lef c r w cnt) k (r - w)))] lX4_rowsWithYarnOf ⟨zw_898, zw_900, zw_33⟩ rfl rfl rfl rfl (Nat.le_of_ble_eq_true rfl) (by decide) ⟨zlt, zlt⟩ ⟨Nat.zero_le _, Nat.zero_le _⟩ (fun _ => rfl) (c_rowsWithYarn hG hc hr hw hn (nI k)) dX4_possibleRows_21 ?_
        refine z_mmin zw_902 (by decide) (Nat.le_of_ble_eq_true rfl) ⟨Nat.zero_le _, Nat.zero_le _⟩ dX4_possibleRows_24 ?_
        refine z_top (v2 := .int (nI (zPr (zRyF cart col lef c r w cnt) (k + 1) (r - w)))) (by rw [nI_min (Nat.lt_of_le_of_lt (zPr_le _ _ _) (by omega)) (Nat.lt_of_le_of_lt (zRy_le _ _ _ _ _ _) (by omega))]; rfl) ?_
        refine z_istore_n (lv' := [(1, .int (nI (zPr (zRyF cart col lef c r w cnt) (k + 1) (r - w)))), (2, .int (nI k)), (0, .ref 1)]) dX4_possibleRows_27 rfl (by decide) rfl ?_
        refine z_iinc (v := nI (k + 1)) (lv' := [(2, .int (nI (k + 1))), (1, .int (nI (zPr (zRyF cart col lef c r w cnt) (k + 1) (r - w)))), (0, .ref 1)]) 1 dX4_possibleRows_28 rfl (nI_1 k) (by decide) rfl ?_
        refine z_goto (tgt := 12) dX4_possibleRows_31 (by decide) ?_
        refine z_sub [0, 1, 2] (lv' := [(2, .int (nI (k + 1))), (1, .int (nI (zPr (zRyF cart col lef c r w cnt) (k + 1) (r - w)))), (0, .ref 1)]) rfl ?_
        refine z_eqs (lv2 := [(2, .int (nI (k + 1))), (1, .int (nI (zPr (zRyF cart col lef c r w cnt) (k + 1) (r - w)))), (0, .ref 1)]) (h2 := (zHp (c, r, w, lim, tol, cart, wov, lot, sew, mis, cnt, col, len, lef, sbt, shd) X Y out)) (by rfl) (by rfl) ?_
        exact ih12 (k + 1) (by omega) (by omega)
  refine z_sub [0, 1, 2] (lv' := [(2, .int 0), (1, .int (nI (r - w))), (0, .ref 1)]) rfl ?_
  refine z_eqs (lv2 := [(2, .int (nI 0)), (1, .int (nI (zPr (zRyF cart col lef c r w cnt) 0 (r - w)))), (0, .ref 1)]) (h2 := (zHp (c, r, w, lim, tol, cart, wov, lot, sew, mis, cnt, col, len, lef, sbt, shd) X Y out)) (by rfl) (by rfl) ?_
  exact L12_1 (8 + 1) 0 (Nat.zero_le _) (by omega)

set_option maxHeartbeats 4000000 in
set_option maxRecDepth 100000 in
theorem c_slitCount {G : zT} {c r w lim cnt : Nat} {tol : Int32} {cart wov lot sew mis col len lef sbt : Nat → Int32} {shd : Nat → UInt32} {X : zXr} {Y : zYr} {out : Nat → Int64} (hG : zAl G = false) (hc : c ≤ 20) (hr : r ≤ 16) (hw : w ≤ r) (hn : cnt ≤ 16) (lm : Nat) (hlm : lm < 100) : zRun G mX4_slitCount 0 0 [.ref 1, .int (nI lm)] (zHp (c, r, w, lim, tol, cart, wov, lot, sew, mis, cnt, col, len, lef, sbt, shd) X Y out) (.inr (some (.int (nI (zSc wov c w lm))))) (zHp (c, r, w, lim, tol, cart, wov, lot, sew, mis, cnt, col, len, lef, sbt, shd) X Y out) := by
  refine zRun_of (by decide +kernel) rfl rfl (Nat.le_of_ble_eq_true rfl) ?_
  suffices hs : ∀ (o9 : zO) (h9 : zH), (Sum.inr (some (.int (nI (zSc wov c w lm)))) : zO) = o9 → (zHp (c, r, w, lim, tol, cart, wov, lot, sew, mis, cnt, col, len, lef, sbt, shd) X Y out) = h9 → zPW G mX4_slitCount 0 0 o9 h9 0 0 0 [(0, .ref 1), (1, .int (nI lm))] [] (zHp (c, r, w, lim, tol, cart, wov, lot, sew, mis, cnt, col, len, lef, sbt, shd) X Y out) from hs _ _ rfl rfl
  intro o9 h9 ho9 hh9
  refine z_iconst (v := 0) dX4_slitCount_0 (by decide) ?_
  refine z_istore_n (lv' := [(2, .int 0), (0, .ref 1), (1, .int (nI lm))]) dX4_slitCount_1 rfl (by decide) rfl ?_
  refine z_iconst (v := 0) dX4_slitCount_2 (by decide) ?_
  refine z_istore_n (lv' := [(3, .int 0), (2, .int 0), (0, .ref 1), (1, .int (nI lm))]) dX4_slitCount_3 rfl (by decide) rfl ?_
  have L4_1 : ∀ (d k : Nat), k ≤ c → c + 1 ≤ k + d → zPW G mX4_slitCount 0 0 o9 h9 0 0 4 [(3, .int (nI k)), (2, .int (nI (zSN (fun b => zCt (fun y => decide (lm < zRl wov c w (nI b) y)) w) k))), (0, .ref 1), (1, .int (nI lm))] [] (zHp (c, r, w, lim, tol, cart, wov, lot, sew, mis, cnt, col, len, lef, sbt, shd) X Y out) := by
    intro d
    induction d with
    | zero => intro k hk hd; exact absurd hd (by omega)
    | succ d ih =>
      intro k hk_k hd_k
      have ih4 := ih
      clear ih
      refine z_iload_n 0 dX4_slitCount_4 rfl rfl ?_
      refine z_aload_n 2 dX4_slitCount_5 rfl rfl ?_
      refine z_get (v := .int (nI c)) 0 rfl rfl inX4 (by decide) zw_130 rfl rfl dX4_slitCount_6 ?_
      refine z_icmp_ge (tgt := 55) dX4_slitCount_9 (by decide) (fun c_9 => ?_) (fun c_9 => ?_)
      · skip
        have hx_k := zge (by omega) hk_k c_9
        refine z_iload_n 1 dX4_slitCount_55 rfl rfl ?_
        exact z_iret rfl dX4_slitCount_56 (zo_i ho9 (by rw [zSc, hx_k])) (zo_h hh9 (by rfl)) (Nat.zero_le _) (Nat.zero_le _)
      · skip
        have hx_k := zlt' (by omega) hk_k c_9
        refine z_iconst (v := 0) dX4_slitCount_12 (by decide) ?_
        refine z_istore (lv' := [(4, .int 0), (3, .int (nI k)), (2, .int (nI (zSN (fun b => zCt (fun y => decide (lm < zRl wov c w (nI b) y)) w) k))), (0, .ref 1), (1, .int (nI lm))]) dX4_slitCount_13 (by decide) rfl ?_
        have L15_2 : ∀ (d j : Nat), j ≤ w → w + 1 ≤ j + d → zPW G mX4_slitCount 0 0 o9 h9 0 0 15 [(4, .int (nI j)), (2, .int (nI (zSN (fun b => zCt (fun y => decide (lm < zRl wov c w (nI b) y)) w) k + zCt (fun y => decide (lm < zRl wov c w (nI k) y)) j))), (3, .int (nI k)), (0, .ref 1), (1, .int (nI lm))] [] (zHp (c, r, w, lim, tol, cart, wov, lot, sew, mis, cnt, col, len, lef, sbt, shd) X Y out) := by
          intro d
          induction d with
          | zero => intro j hk hd; exact absurd hd (by omega)
          | succ d ih =>
            intro j hk_j hd_j
            have ih15 := ih
            clear ih
            refine z_iload 0 dX4_slitCount_15 rfl ?_
            refine z_aload_n 3 dX4_slitCount_17 rfl rfl ?_
            refine z_get (v := .int (nI w)) 2 rfl rfl inX4 (by decide) zw_134 rfl rfl dX4_slitCount_18 ?_
            refine z_icmp_ge (tgt := 49) dX4_slitCount_21 (by decide) (fun c_21 => ?_) (fun c_21 => ?_)
            · skip
              have hx_j := zge (by omega) hk_j c_21
              refine z_iinc (v := nI (k + 1)) (lv' := [(3, .int (nI (k + 1))), (4, .int (nI j)), (2, .int (nI (zSN (fun b => zCt (fun y => decide (lm < zRl wov c w (nI b) y)) w) k + zCt (fun y => decide (lm < zRl wov c w (nI k) y)) j))), (0, .ref 1), (1, .int (nI lm))]) 2 dX4_slitCount_49 rfl (nI_1 k) (by decide) rfl ?_
              refine z_goto (tgt := 4) dX4_slitCount_52 (by decide) ?_
              refine z_sub [0, 2, 3, 4] (lv' := [(3, .int (nI (k + 1))), (2, .int (nI (zSN (fun b => zCt (fun y => decide (lm < zRl wov c w (nI b) y)) w) k + zCt (fun y => decide (lm < zRl wov c w (nI k) y)) j))), (0, .ref 1), (1, .int (nI lm))]) rfl ?_
              refine z_eqs (lv2 := [(3, .int (nI (k + 1))), (2, .int (nI (zSN (fun b => zCt (fun y => decide (lm < zRl wov c w (nI b) y)) w) (k + 1)))), (0, .ref 1), (1, .int (nI lm))]) (h2 := (zHp (c, r, w, lim, tol, cart, wov, lot, sew, mis, cnt, col, len, lef, sbt, shd) X Y out)) (by rw [hx_j]; rfl) (by rfl) ?_
              exact ih4 (k + 1) (by omega) (by omega)
            · skip
              have hx_j := zlt' (by omega) hk_j c_21
              refine z_iload_n 1 dX4_slitCount_24 rfl rfl ?_
              refine z_aload_n 3 dX4_slitCount_25 rfl rfl ?_
              refine z_iload_n 2 dX4_slitCount_26 rfl rfl ?_
              refine z_iload 0 dX4_slitCount_27 rfl ?_
              refine z_callV (N := mX4_slitRows) 2 [.int (nI k), .int (nI j)] [.int (nI (zSN (fun b => zCt (fun y => decide (lm < zRl wov c w (nI b) y)) w) k + zCt (fun y => decide (lm < zRl wov c w (nI k) y)) j))] lX4_slitRows ⟨zw_280, zw_281, zw_282⟩ rfl rfl rfl rfl (Nat.le_of_ble_eq_true rfl) (by decide) ⟨zlt, zlt⟩ ⟨Nat.zero_le _, Nat.zero_le _⟩ (fun _ => rfl) (c_slitRows hG hc hr hw hn (nI k) j (by omega)) dX4_slitCount_29 ?_
              refine z_iload_n 4 dX4_slitCount_32 rfl rfl ?_
              refine z_icmp_le (tgt := 40) dX4_slitCount_33 (by decide) (fun c_33 => ?_) (fun c_33 => ?_)
              · skip
                refine z_iconst (v := 0) dX4_slitCount_40 (by decide) ?_
                refine z_iadd dX4_slitCount_41 ?_
                refine z_istore_n (lv' := [(2, .int ((nI (zSN (fun b => zCt (fun y => decide (lm < zRl wov c w (nI b) y)) w) k + zCt (fun y => decide (lm < zRl wov c w (nI k) y)) j)) + 0)), (4, .int (nI j)), (3, .int (nI k)), (0, .ref 1), (1, .int (nI lm))]) dX4_slitCount_42 rfl (by decide) rfl ?_
                refine z_iinc (v := nI (j + 1)) (lv' := [(4, .int (nI (j + 1))), (2, .int ((nI (zSN (fun b => zCt (fun y => decide (lm < zRl wov c w (nI b) y)) w) k + zCt (fun y => decide (lm < zRl wov c w (nI k) y)) j)) + 0)), (3, .int (nI k)), (0, .ref 1), (1, .int (nI lm))]) 1 dX4_slitCount_43 rfl (nI_1 j) (by decide) rfl ?_
                refine z_goto (tgt := 15) dX4_slitCount_46 (by decide) ?_
                refine z_sub [0, 1, 2, 3, 4] (lv' := [(4, .int (nI (j + 1))), (2, .int ((nI (zSN (fun b => zCt (fun y => decide (lm < zRl wov c w (nI b) y)) w) k + zCt (fun y => decide (lm < zRl wov c w (nI k) y)) j)) + 0)), (3, .int (nI k)), (0, .ref 1), (1, .int (nI lm))]) rfl ?_
                refine z_eqs (lv2 := [(4, .int (nI (j + 1))), (2, .int (nI (zSN (fun b => zCt (fun y => decide (lm < zRl wov c w (nI b) y)) w) k + zCt (fun y => decide (lm < zRl wov c w (nI k) y)) (j + 1)))), (3, .int (nI k)), (0, .ref 1), (1, .int (nI lm))]) (h2 := (zHp (c, r, w, lim, tol, cart, wov, lot, sew, mis, cnt, col, len, lef, sbt, shd) X Y out)) (by first | rw [zCt_t2 (p := (fun y => decide (lm < zRl wov c w (nI k) y))) _ (decide_eq_true (Nat.lt_of_not_le fun q => c_33 (nI_le q (by omega))))] | rw [zCt_f2 (p := (fun y => decide (lm < zRl wov c w (nI k) y))) _ (decide_eq_false (Nat.not_lt.mpr ((nI_leI (Nat.lt_of_le_of_lt zRl_le (by omega)) (by omega)).mp c_33)))]) (by rfl) ?_
                exact ih15 (j + 1) (by omega) (by omega)
              · skip
                refine z_iconst (v := 1) dX4_slitCount_36 (by decide) ?_
                refine z_goto (tgt := 41) dX4_slitCount_37 (by decide) ?_
                refine z_iadd dX4_slitCount_41 ?_
                refine z_istore_n (lv' := [(2, .int ((nI (zSN (fun b => zCt (fun y => decide (lm < zRl wov c w (nI b) y)) w) k + zCt (fun y => decide (lm < zRl wov c w (nI k) y)) j)) + 1)), (4, .int (nI j)), (3, .int (nI k)), (0, .ref 1), (1, .int (nI lm))]) dX4_slitCount_42 rfl (by decide) rfl ?_
                refine z_iinc (v := nI (j + 1)) (lv' := [(4, .int (nI (j + 1))), (2, .int ((nI (zSN (fun b => zCt (fun y => decide (lm < zRl wov c w (nI b) y)) w) k + zCt (fun y => decide (lm < zRl wov c w (nI k) y)) j)) + 1)), (3, .int (nI k)), (0, .ref 1), (1, .int (nI lm))]) 1 dX4_slitCount_43 rfl (nI_1 j) (by decide) rfl ?_
                refine z_goto (tgt := 15) dX4_slitCount_46 (by decide) ?_
                refine z_sub [0, 1, 2, 3, 4] (lv' := [(4, .int (nI (j + 1))), (2, .int ((nI (zSN (fun b => zCt (fun y => decide (lm < zRl wov c w (nI b) y)) w) k + zCt (fun y => decide (lm < zRl wov c w (nI k) y)) j)) + 1)), (3, .int (nI k)), (0, .ref 1), (1, .int (nI lm))]) rfl ?_
                refine z_eqs (lv2 := [(4, .int (nI (j + 1))), (2, .int (nI (zSN (fun b => zCt (fun y => decide (lm < zRl wov c w (nI b) y)) w) k + zCt (fun y => decide (lm < zRl wov c w (nI k) y)) (j + 1)))), (3, .int (nI k)), (0, .ref 1), (1, .int (nI lm))]) (h2 := (zHp (c, r, w, lim, tol, cart, wov, lot, sew, mis, cnt, col, len, lef, sbt, shd) X Y out)) (by first | rw [zCt_t2 (p := (fun y => decide (lm < zRl wov c w (nI k) y))) _ (decide_eq_true (Nat.lt_of_not_le fun q => c_33 (nI_le q (by omega))))] | rw [zCt_f2 (p := (fun y => decide (lm < zRl wov c w (nI k) y))) _ (decide_eq_false (Nat.not_lt.mpr ((nI_leI (Nat.lt_of_le_of_lt zRl_le (by omega)) (by omega)).mp c_33)))]) (by rfl) ?_
                exact ih15 (j + 1) (by omega) (by omega)
        refine z_sub [0, 2, 1, 3, 4] (lv' := [(4, .int 0), (2, .int (nI (zSN (fun b => zCt (fun y => decide (lm < zRl wov c w (nI b) y)) w) k))), (3, .int (nI k)), (0, .ref 1), (1, .int (nI lm))]) rfl ?_
        refine z_eqs (lv2 := [(4, .int (nI 0)), (2, .int (nI (zSN (fun b => zCt (fun y => decide (lm < zRl wov c w (nI b) y)) w) k + zCt (fun y => decide (lm < zRl wov c w (nI k) y)) 0))), (3, .int (nI k)), (0, .ref 1), (1, .int (nI lm))]) (h2 := (zHp (c, r, w, lim, tol, cart, wov, lot, sew, mis, cnt, col, len, lef, sbt, shd) X Y out)) (by rfl) (by rfl) ?_
        exact L15_2 (w + 1) 0 (Nat.zero_le _) (by omega)
  refine z_sub [0, 1, 2, 3] (lv' := [(3, .int 0), (2, .int 0), (0, .ref 1), (1, .int (nI lm))]) rfl ?_
  refine z_eqs (lv2 := [(3, .int (nI 0)), (2, .int (nI (zSN (fun b => zCt (fun y => decide (lm < zRl wov c w (nI b) y)) w) 0))), (0, .ref 1), (1, .int (nI lm))]) (h2 := (zHp (c, r, w, lim, tol, cart, wov, lot, sew, mis, cnt, col, len, lef, sbt, shd) X Y out)) (by rfl) (by rfl) ?_
  exact L4_1 (c + 1) 0 (Nat.zero_le _) (by omega)

set_option maxHeartbeats 4000000 in
set_option maxRecDepth 100000 in
theorem c_slitPlace {G : zT} {c r w lim cnt : Nat} {tol : Int32} {cart wov lot sew mis col len lef sbt : Nat → Int32} {shd : Nat → UInt32} {X : zXr} {Y : zYr} {out : Nat → Int64} (hG : zAl G = false) (hc : c ≤ 20) (hr : r ≤ 16) (hw : w ≤ r) (hn : cnt ≤ 16) (hl : lim ≤ 16) (ix : Int32) : zRun G mX4_slitPlace 0 0 [.ref 1, .int ix] (zHp (c, r, w, lim, tol, cart, wov, lot, sew, mis, cnt, col, len, lef, sbt, shd) X Y out) (.inr (some (.int (zSp wov c w lim ix)))) (zHp (c, r, w, lim, tol, cart, wov, lot, sew, mis, cnt, col, len, lef, sbt, shd) X Y out) := by
  refine zRun_of (by decide +kernel) rfl rfl (Nat.le_of_ble_eq_true rfl) ?_
  suffices hs : ∀ (o9 : zO) (h9 : zH), (Sum.inr (some (.int (zSp wov c w lim ix))) : zO) = o9 → (zHp (c, r, w, lim, tol, cart, wov, lot, sew, mis, cnt, col, len, lef, sbt, shd) X Y out) = h9 → zPW G mX4_slitPlace 0 0 o9 h9 0 0 0 [(0, .ref 1), (1, .int ix)] [] (zHp (c, r, w, lim, tol, cart, wov, lot, sew, mis, cnt, col, len, lef, sbt, shd) X Y out) from hs _ _ rfl rfl
  intro o9 h9 ho9 hh9
  refine z_iconst (v := 0) dX4_slitPlace_0 (by decide) ?_
  refine z_istore_n (lv' := [(2, .int 0), (0, .ref 1), (1, .int ix)]) dX4_slitPlace_1 rfl (by decide) rfl ?_
  refine z_iconst (v := 0) dX4_slitPlace_2 (by decide) ?_
  refine z_istore_n (lv' := [(3, .int 0), (2, .int 0), (0, .ref 1), (1, .int ix)]) dX4_slitPlace_3 rfl (by decide) rfl ?_
  have L4_1 : ∀ (d k n : Nat), k ≤ c → c + 1 ≤ k + d → zSpO (fun b y => decide (lim < zRl wov c w (nI b) y)) w ix 0 c 0 = zSpO (fun b y => decide (lim < zRl wov c w (nI b) y)) w ix k (c - k) n → zPW G mX4_slitPlace 0 0 o9 h9 0 0 4 [(3, .int (nI k)), (2, .int (nI n)), (0, .ref 1), (1, .int ix)] [] (zHp (c, r, w, lim, tol, cart, wov, lot, sew, mis, cnt, col, len, lef, sbt, shd) X Y out) := by
    intro d
    induction d with
    | zero => intro k n hk hd; exact absurd hd (by omega)
    | succ d ih =>
      intro k n hk_k hd_k he_k
      have ih4 := ih
      clear ih
      refine z_iload_n 0 dX4_slitPlace_4 rfl rfl ?_
      refine z_aload_n 2 dX4_slitPlace_5 rfl rfl ?_
      refine z_get (v := .int (nI c)) 0 rfl rfl inX4 (by decide) zw_130 rfl rfl dX4_slitPlace_6 ?_
      refine z_icmp_ge (tgt := 66) dX4_slitPlace_9 (by decide) (fun c_9 => ?_) (fun c_9 => ?_)
      · skip
        have hx_k := zge (by omega) hk_k c_9
        refine z_iconst (v := (-1)) dX4_slitPlace_66 (by decide) ?_
        exact z_iret rfl dX4_slitPlace_67 (zo_i ho9 (by rw [zSp, he_k, hx_k, Nat.sub_self, zSpO]; rfl)) (zo_h hh9 (by rfl)) (Nat.zero_le _) (Nat.zero_le _)
      · skip
        have hx_k := zlt' (by omega) hk_k c_9
        refine z_iconst (v := 0) dX4_slitPlace_12 (by decide) ?_
        refine z_istore (lv' := [(4, .int 0), (3, .int (nI k)), (2, .int (nI n)), (0, .ref 1), (1, .int ix)]) dX4_slitPlace_13 (by decide) rfl ?_
        have L15_2 : ∀ (d j i : Nat), j ≤ w → w + 1 ≤ j + d → zSpO (fun b y => decide (lim < zRl wov c w (nI b) y)) w ix 0 c 0 = zSpM (fun b y => decide (lim < zRl wov c w (nI b) y)) w ix k (c - (k + 1)) (zSpI (fun y => decide (lim < zRl wov c w (nI k) y)) k ix j (w - j) i) → zPW G mX4_slitPlace 0 0 o9 h9 0 0 15 [(4, .int (nI j)), (2, .int (nI i)), (3, .int (nI k)), (0, .ref 1), (1, .int ix)] [] (zHp (c, r, w, lim, tol, cart, wov, lot, sew, mis, cnt, col, len, lef, sbt, shd) X Y out) := by
          intro d
          induction d with
          | zero => intro j i hk hd; exact absurd hd (by omega)
          | succ d ih =>
            intro j i hk_j hd_j he_j
            have ih15 := ih
            clear ih
            refine z_iload 0 dX4_slitPlace_15 rfl ?_
            refine z_aload_n 3 dX4_slitPlace_17 rfl rfl ?_
            refine z_get (v := .int (nI w)) 2 rfl rfl inX4 (by decide) zw_134 rfl rfl dX4_slitPlace_18 ?_
            refine z_icmp_ge (tgt := 60) dX4_slitPlace_21 (by decide) (fun c_21 => ?_) (fun c_21 => ?_)
            · skip
              have hx_j := zge (by omega) hk_j c_21
              refine z_iinc (v := nI (k + 1)) (lv' := [(3, .int (nI (k + 1))), (4, .int (nI j)), (2, .int (nI i)), (0, .ref 1), (1, .int ix)]) 2 dX4_slitPlace_60 rfl (nI_1 k) (by decide) rfl ?_
              refine z_goto (tgt := 4) dX4_slitPlace_63 (by decide) ?_
              refine z_sub [0, 2, 3, 4] (lv' := [(3, .int (nI (k + 1))), (2, .int (nI i)), (0, .ref 1), (1, .int ix)]) rfl ?_
              refine z_eqs (lv2 := [(3, .int (nI (k + 1))), (2, .int (nI i)), (0, .ref 1), (1, .int ix)]) (h2 := (zHp (c, r, w, lim, tol, cart, wov, lot, sew, mis, cnt, col, len, lef, sbt, shd) X Y out)) (by rfl) (by rfl) ?_
              exact ih4 (k + 1) i (by omega) (by omega) (by rw [he_j, hx_j, Nat.sub_self, zSpI, zSpM])
            · skip
              have hx_j := zlt' (by omega) hk_j c_21
              refine z_aload_n 3 dX4_slitPlace_24 rfl rfl ?_
              refine z_iload_n 2 dX4_slitPlace_25 rfl rfl ?_
              refine z_iload 0 dX4_slitPlace_26 rfl ?_
              refine z_callV (N := mX4_slitRows) 2 [.int (nI k), .int (nI j)] [] lX4_slitRows ⟨zw_280, zw_281, zw_282⟩ rfl rfl rfl rfl (Nat.le_of_ble_eq_true rfl) (by decide) ⟨zlt, zlt⟩ ⟨Nat.zero_le _, Nat.zero_le _⟩ (fun _ => rfl) (c_slitRows hG hc hr hw hn (nI k) j (by omega)) dX4_slitPlace_28 ?_
              refine z_aload_n 3 dX4_slitPlace_31 rfl rfl ?_
              refine z_get (v := .int (nI lim)) 3 rfl rfl inX4 (by decide) zw_136 rfl rfl dX4_slitPlace_32 ?_
              refine z_icmp_le (tgt := 54) dX4_slitPlace_35 (by decide) (fun c_35 => ?_) (fun c_35 => ?_)
              · skip
                refine z_iinc (v := nI (j + 1)) (lv' := [(4, .int (nI (j + 1))), (2, .int (nI i)), (3, .int (nI k)), (0, .ref 1), (1, .int ix)]) 0 dX4_slitPlace_54 rfl (nI_1 j) (by decide) rfl ?_
                refine z_goto (tgt := 15) dX4_slitPlace_57 (by decide) ?_
                refine z_sub [0, 1, 2, 3, 4] (lv' := [(4, .int (nI (j + 1))), (2, .int (nI i)), (3, .int (nI k)), (0, .ref 1), (1, .int ix)]) rfl ?_
                refine z_eqs (lv2 := [(4, .int (nI (j + 1))), (2, .int (nI i)), (3, .int (nI k)), (0, .ref 1), (1, .int ix)]) (h2 := (zHp (c, r, w, lim, tol, cart, wov, lot, sew, mis, cnt, col, len, lef, sbt, shd) X Y out)) (by rfl) (by rfl) ?_
                exact ih15 (j + 1) i (by omega) (by omega) (by rw [he_j, show w - j = (w - (j + 1)) + 1 by omega, zSpI]; first | rw [if_pos (decide_eq_true (Nat.lt_of_not_le fun q => c_35 (nI_le q (by omega)))), if_neg c_40] | rw [if_neg (by simpa using (nI_leI (Nat.lt_of_le_of_lt zRl_le (by omega)) (by omega)).mp c_35)])
              · skip
                refine z_iload_n 1 dX4_slitPlace_38 rfl rfl ?_
                refine z_iload_n 4 dX4_slitPlace_39 rfl rfl ?_
                refine z_icmp_ne (tgt := 51) dX4_slitPlace_40 (by decide) (fun c_40 => ?_) (fun c_40 => ?_)
                · skip
                  refine z_iinc (v := nI (i + 1)) (lv' := [(2, .int (nI (i + 1))), (4, .int (nI j)), (3, .int (nI k)), (0, .ref 1), (1, .int ix)]) 1 dX4_slitPlace_51 rfl (nI_1 i) (by decide) rfl ?_
                  refine z_iinc (v := nI (j + 1)) (lv' := [(4, .int (nI (j + 1))), (2, .int (nI (i + 1))), (3, .int (nI k)), (0, .ref 1), (1, .int ix)]) 1 dX4_slitPlace_54 rfl (nI_1 j) (by decide) rfl ?_
                  refine z_goto (tgt := 15) dX4_slitPlace_57 (by decide) ?_
                  refine z_sub [0, 1, 2, 3, 4] (lv' := [(4, .int (nI (j + 1))), (2, .int (nI (i + 1))), (3, .int (nI k)), (0, .ref 1), (1, .int ix)]) rfl ?_
                  refine z_eqs (lv2 := [(4, .int (nI (j + 1))), (2, .int (nI (i + 1))), (3, .int (nI k)), (0, .ref 1), (1, .int ix)]) (h2 := (zHp (c, r, w, lim, tol, cart, wov, lot, sew, mis, cnt, col, len, lef, sbt, shd) X Y out)) (by rfl) (by rfl) ?_
                  exact ih15 (j + 1) (i + 1) (by omega) (by omega) (by rw [he_j, show w - j = (w - (j + 1)) + 1 by omega, zSpI]; first | rw [if_pos (decide_eq_true (Nat.lt_of_not_le fun q => c_35 (nI_le q (by omega)))), if_neg c_40] | rw [if_neg (by simpa using (nI_leI (Nat.lt_of_le_of_lt zRl_le (by omega)) (by omega)).mp c_35)])
                · skip
                  refine z_iload_n 2 dX4_slitPlace_43 rfl rfl ?_
                  refine z_bipush (v := nI 16) dX4_slitPlace_44 (by decide) ?_
                  refine z_imul dX4_slitPlace_46 ?_
                  refine z_iload 0 dX4_slitPlace_47 rfl ?_
                  refine z_iadd dX4_slitPlace_49 ?_
                  exact z_iret rfl dX4_slitPlace_50 (zo_i ho9 (by rw [zSp, he_j, show w - j = (w - (j + 1)) + 1 by omega, zSpI, if_pos (decide_eq_true (Nat.lt_of_not_le fun q => c_35 (nI_le q (by omega)))), if_pos c_40]; rfl)) (zo_h hh9 (by rfl)) (Nat.zero_le _) (Nat.zero_le _)
        refine z_sub [0, 2, 1, 3, 4] (lv' := [(4, .int 0), (2, .int (nI n)), (3, .int (nI k)), (0, .ref 1), (1, .int ix)]) rfl ?_
        refine z_eqs (lv2 := [(4, .int (nI 0)), (2, .int (nI n)), (3, .int (nI k)), (0, .ref 1), (1, .int ix)]) (h2 := (zHp (c, r, w, lim, tol, cart, wov, lot, sew, mis, cnt, col, len, lef, sbt, shd) X Y out)) (by rfl) (by rfl) ?_
        exact L15_2 (w + 1) 0 n (Nat.zero_le _) (by omega) (by rw [he_k, show c - k = (c - (k + 1)) + 1 by omega, zSpO]; rfl)
  refine z_sub [0, 1, 2, 3] (lv' := [(3, .int 0), (2, .int 0), (0, .ref 1), (1, .int ix)]) rfl ?_
  refine z_eqs (lv2 := [(3, .int (nI 0)), (2, .int (nI 0)), (0, .ref 1), (1, .int ix)]) (h2 := (zHp (c, r, w, lim, tol, cart, wov, lot, sew, mis, cnt, col, len, lef, sbt, shd) X Y out)) (by rfl) (by rfl) ?_
  exact L4_1 (c + 1) 0 0 (Nat.zero_le _) (by omega) rfl

set_option maxHeartbeats 4000000 in
set_option maxRecDepth 100000 in
theorem c_sewnSlits {G : zT} {c r w lim cnt : Nat} {tol : Int32} {cart wov lot sew mis col len lef sbt : Nat → Int32} {shd : Nat → UInt32} {X : zXr} {Y : zYr} {out : Nat → Int64} (hG : zAl G = false) (hc : c ≤ 20) (hr : r ≤ 16) (hw : w ≤ r) (hn : cnt ≤ 16)  : zRun G mX4_sewnSlits 0 0 [.ref 1] (zHp (c, r, w, lim, tol, cart, wov, lot, sew, mis, cnt, col, len, lef, sbt, shd) X Y out) (.inr (some (.int (nI (zCi sew 1 c r))))) (zHp (c, r, w, lim, tol, cart, wov, lot, sew, mis, cnt, col, len, lef, sbt, shd) X Y out) := by
  refine zRun_of (by decide +kernel) rfl rfl (Nat.le_of_ble_eq_true rfl) ?_
  suffices hs : ∀ (o9 : zO) (h9 : zH), (Sum.inr (some (.int (nI (zCi sew 1 c r)))) : zO) = o9 → (zHp (c, r, w, lim, tol, cart, wov, lot, sew, mis, cnt, col, len, lef, sbt, shd) X Y out) = h9 → zPW G mX4_sewnSlits 0 0 o9 h9 0 0 0 [(0, .ref 1)] [] (zHp (c, r, w, lim, tol, cart, wov, lot, sew, mis, cnt, col, len, lef, sbt, shd) X Y out) from hs _ _ rfl rfl
  intro o9 h9 ho9 hh9
  refine z_aload_n 0 dX4_sewnSlits_0 rfl rfl ?_
  refine z_aload_n 0 dX4_sewnSlits_1 rfl rfl ?_
  refine z_get (v := .ref 8) 8 rfl rfl inX4 (by decide) zw_143 rfl rfl dX4_sewnSlits_2 ?_
  refine z_iconst (v := 1) dX4_sewnSlits_5 (by decide) ?_
  refine z_aload_n 0 dX4_sewnSlits_6 rfl rfl ?_
  refine z_get (v := .int (nI r)) 1 rfl rfl inX4 (by decide) zw_132 rfl rfl dX4_sewnSlits_7 ?_
  refine z_callV (N := mX4_cellsIn) 3 [.ref 8, .int 1, .int (nI r)] [] lX4_cellsIn ⟨zw_292, zw_294, zw_5⟩ rfl rfl rfl rfl (Nat.le_of_ble_eq_true rfl) (by decide) ⟨zlt, zlt⟩ ⟨Nat.zero_le _, Nat.zero_le _⟩ (fun _ => rfl) (c_cellsIn8 hG hc hr hw hn 1 r (by omega)) dX4_sewnSlits_10 ?_
  exact z_iret rfl dX4_sewnSlits_13 (zo_i ho9 (by rfl)) (zo_h hh9 (by rfl)) (Nat.zero_le _) (Nat.zero_le _)

set_option maxHeartbeats 4000000 in
set_option maxRecDepth 100000 in
theorem c_rowsOfSewn {G : zT} {c r w lim cnt : Nat} {tol : Int32} {cart wov lot sew mis col len lef sbt : Nat → Int32} {shd : Nat → UInt32} {X : zXr} {Y : zYr} {out : Nat → Int64} (hG : zAl G = false) (hc : c ≤ 20) (hr : r ≤ 16) (hw : w ≤ r) (hn : cnt ≤ 16)  : zRun G mX4_rowsOfSewnSlits 0 0 [.ref 1] (zHp (c, r, w, lim, tol, cart, wov, lot, sew, mis, cnt, col, len, lef, sbt, shd) X Y out) (.inr (some (.int (nI (zSr wov sew c w))))) (zHp (c, r, w, lim, tol, cart, wov, lot, sew, mis, cnt, col, len, lef, sbt, shd) X Y out) := by
  refine zRun_of (by decide +kernel) rfl rfl (Nat.le_of_ble_eq_true rfl) ?_
  suffices hs : ∀ (o9 : zO) (h9 : zH), (Sum.inr (some (.int (nI (zSr wov sew c w)))) : zO) = o9 → (zHp (c, r, w, lim, tol, cart, wov, lot, sew, mis, cnt, col, len, lef, sbt, shd) X Y out) = h9 → zPW G mX4_rowsOfSewnSlits 0 0 o9 h9 0 0 0 [(0, .ref 1)] [] (zHp (c, r, w, lim, tol, cart, wov, lot, sew, mis, cnt, col, len, lef, sbt, shd) X Y out) from hs _ _ rfl rfl
  intro o9 h9 ho9 hh9
  refine z_iconst (v := 0) dX4_rowsOfSewnSlits_0 (by decide) ?_
  refine z_istore_n (lv' := [(1, .int 0), (0, .ref 1)]) dX4_rowsOfSewnSlits_1 rfl (by decide) rfl ?_
  refine z_iconst (v := 0) dX4_rowsOfSewnSlits_2 (by decide) ?_
  refine z_istore_n (lv' := [(2, .int 0), (1, .int 0), (0, .ref 1)]) dX4_rowsOfSewnSlits_3 rfl (by decide) rfl ?_
  have L4_1 : ∀ (d k : Nat), k ≤ c → c + 1 ≤ k + d → zPW G mX4_rowsOfSewnSlits 0 0 o9 h9 0 0 4 [(2, .int (nI k)), (1, .int (nI (zSN (fun b => zSN (fun y => if zAt sew (nI b) (nI y) == 1 then zRl wov c w (nI b) y else 0) w) k))), (0, .ref 1)] [] (zHp (c, r, w, lim, tol, cart, wov, lot, sew, mis, cnt, col, len, lef, sbt, shd) X Y out) := by
    intro d
    induction d with
    | zero => intro k hk hd; exact absurd hd (by omega)
    | succ d ih =>
      intro k hk_k hd_k
      have ih4 := ih
      clear ih
      refine z_iload_n 0 dX4_rowsOfSewnSlits_4 rfl rfl ?_
      refine z_aload_n 2 dX4_rowsOfSewnSlits_5 rfl rfl ?_
      refine z_get (v := .int (nI c)) 0 rfl rfl inX4 (by decide) zw_130 rfl rfl dX4_rowsOfSewnSlits_6 ?_
      refine z_icmp_ge (tgt := 56) dX4_rowsOfSewnSlits_9 (by decide) (fun c_9 => ?_) (fun c_9 => ?_)
      · skip
        have hx_k := zge (by omega) hk_k c_9
        refine z_iload_n 1 dX4_rowsOfSewnSlits_56 rfl rfl ?_
        exact z_iret rfl dX4_rowsOfSewnSlits_57 (zo_i ho9 (by rw [zSr, hx_k])) (zo_h hh9 (by rfl)) (Nat.zero_le _) (Nat.zero_le _)
      · skip
        have hx_k := zlt' (by omega) hk_k c_9
        refine z_iconst (v := 0) dX4_rowsOfSewnSlits_12 (by decide) ?_
        refine z_istore_n (lv' := [(3, .int 0), (2, .int (nI k)), (1, .int (nI (zSN (fun b => zSN (fun y => if zAt sew (nI b) (nI y) == 1 then zRl wov c w (nI b) y else 0) w) k))), (0, .ref 1)]) dX4_rowsOfSewnSlits_13 rfl (by decide) rfl ?_
        have L14_2 : ∀ (d j : Nat), j ≤ w → w + 1 ≤ j + d → zPW G mX4_rowsOfSewnSlits 0 0 o9 h9 0 0 14 [(3, .int (nI j)), (1, .int (nI (zSN (fun b => zSN (fun y => if zAt sew (nI b) (nI y) == 1 then zRl wov c w (nI b) y else 0) w) k + zSN (fun y => if zAt sew (nI k) (nI y) == 1 then zRl wov c w (nI k) y else 0) j))), (2, .int (nI k)), (0, .ref 1)] [] (zHp (c, r, w, lim, tol, cart, wov, lot, sew, mis, cnt, col, len, lef, sbt, shd) X Y out) := by
          intro d
          induction d with
          | zero => intro j hk hd; exact absurd hd (by omega)
          | succ d ih =>
            intro j hk_j hd_j
            have ih14 := ih
            clear ih
            refine z_iload_n 0 dX4_rowsOfSewnSlits_14 rfl rfl ?_
            refine z_aload_n 3 dX4_rowsOfSewnSlits_15 rfl rfl ?_
            refine z_get (v := .int (nI w)) 2 rfl rfl inX4 (by decide) zw_134 rfl rfl dX4_rowsOfSewnSlits_16 ?_
            refine z_icmp_ge (tgt := 50) dX4_rowsOfSewnSlits_19 (by decide) (fun c_19 => ?_) (fun c_19 => ?_)
            · skip
              have hx_j := zge (by omega) hk_j c_19
              refine z_iinc (v := nI (k + 1)) (lv' := [(2, .int (nI (k + 1))), (3, .int (nI j)), (1, .int (nI (zSN (fun b => zSN (fun y => if zAt sew (nI b) (nI y) == 1 then zRl wov c w (nI b) y else 0) w) k + zSN (fun y => if zAt sew (nI k) (nI y) == 1 then zRl wov c w (nI k) y else 0) j))), (0, .ref 1)]) 2 dX4_rowsOfSewnSlits_50 rfl (nI_1 k) (by decide) rfl ?_
              refine z_goto (tgt := 4) dX4_rowsOfSewnSlits_53 (by decide) ?_
              refine z_sub [0, 2, 3] (lv' := [(2, .int (nI (k + 1))), (1, .int (nI (zSN (fun b => zSN (fun y => if zAt sew (nI b) (nI y) == 1 then zRl wov c w (nI b) y else 0) w) k + zSN (fun y => if zAt sew (nI k) (nI y) == 1 then zRl wov c w (nI k) y else 0) j))), (0, .ref 1)]) rfl ?_
              refine z_eqs (lv2 := [(2, .int (nI (k + 1))), (1, .int (nI (zSN (fun b => zSN (fun y => if zAt sew (nI b) (nI y) == 1 then zRl wov c w (nI b) y else 0) w) (k + 1)))), (0, .ref 1)]) (h2 := (zHp (c, r, w, lim, tol, cart, wov, lot, sew, mis, cnt, col, len, lef, sbt, shd) X Y out)) (by rw [hx_j]; rfl) (by rfl) ?_
              exact ih4 (k + 1) (by omega) (by omega)
            · skip
              have hx_j := zlt' (by omega) hk_j c_19
              refine z_iload_n 1 dX4_rowsOfSewnSlits_22 rfl rfl ?_
              refine z_aload_n 3 dX4_rowsOfSewnSlits_23 rfl rfl ?_
              refine z_iload_n 2 dX4_rowsOfSewnSlits_24 rfl rfl ?_
              refine z_iload_n 0 dX4_rowsOfSewnSlits_25 rfl rfl ?_
              refine z_callV (N := mX4_isSewn) 2 [.int (nI k), .int (nI j)] [.int (nI (zSN (fun b => zSN (fun y => if zAt sew (nI b) (nI y) == 1 then zRl wov c w (nI b) y else 0) w) k + zSN (fun y => if zAt sew (nI k) (nI y) == 1 then zRl wov c w (nI k) y else 0) j))] lX4_isSewn ⟨zw_305, zw_307, zw_7⟩ rfl rfl rfl rfl (Nat.le_of_ble_eq_true rfl) (by decide) ⟨zlt, zlt⟩ ⟨Nat.zero_le _, Nat.zero_le _⟩ (fun _ => rfl) (c_isSewn hG hc hr hw hn (nI k) (nI j)) dX4_rowsOfSewnSlits_26 ?_
              refine z_if_eq (tgt := 41) dX4_rowsOfSewnSlits_29 (by decide) (fun c_29 => ?_) (fun c_29 => ?_)
              · skip
                have b_29 := zB_0.mp c_29
                refine z_iconst (v := 0) dX4_rowsOfSewnSlits_41 (by decide) ?_
                refine z_iadd dX4_rowsOfSewnSlits_42 ?_
                refine z_istore_n (lv' := [(1, .int ((nI (zSN (fun b => zSN (fun y => if zAt sew (nI b) (nI y) == 1 then zRl wov c w (nI b) y else 0) w) k + zSN (fun y => if zAt sew (nI k) (nI y) == 1 then zRl wov c w (nI k) y else 0) j)) + 0)), (3, .int (nI j)), (2, .int (nI k)), (0, .ref 1)]) dX4_rowsOfSewnSlits_43 rfl (by decide) rfl ?_
                refine z_iinc (v := nI (j + 1)) (lv' := [(3, .int (nI (j + 1))), (1, .int ((nI (zSN (fun b => zSN (fun y => if zAt sew (nI b) (nI y) == 1 then zRl wov c w (nI b) y else 0) w) k + zSN (fun y => if zAt sew (nI k) (nI y) == 1 then zRl wov c w (nI k) y else 0) j)) + 0)), (2, .int (nI k)), (0, .ref 1)]) 1 dX4_rowsOfSewnSlits_44 rfl (nI_1 j) (by decide) rfl ?_
                refine z_goto (tgt := 14) dX4_rowsOfSewnSlits_47 (by decide) ?_
                refine z_sub [0, 1, 2, 3] (lv' := [(3, .int (nI (j + 1))), (1, .int ((nI (zSN (fun b => zSN (fun y => if zAt sew (nI b) (nI y) == 1 then zRl wov c w (nI b) y else 0) w) k + zSN (fun y => if zAt sew (nI k) (nI y) == 1 then zRl wov c w (nI k) y else 0) j)) + 0)), (2, .int (nI k)), (0, .ref 1)]) rfl ?_
                refine z_eqs (lv2 := [(3, .int (nI (j + 1))), (1, .int (nI (zSN (fun b => zSN (fun y => if zAt sew (nI b) (nI y) == 1 then zRl wov c w (nI b) y else 0) w) k + zSN (fun y => if zAt sew (nI k) (nI y) == 1 then zRl wov c w (nI k) y else 0) (j + 1)))), (2, .int (nI k)), (0, .ref 1)]) (h2 := (zHp (c, r, w, lim, tol, cart, wov, lot, sew, mis, cnt, col, len, lef, sbt, shd) X Y out)) (by first | rw [zSN_t (fun y => if zAt sew (nI k) (nI y) == 1 then zRl wov c w (nI k) y else 0) _ (show (if _ then _ else _) = _ by rw [if_pos b_29])] | rw [zSN_z (fun y => if zAt sew (nI k) (nI y) == 1 then zRl wov c w (nI k) y else 0) _ (show (if _ then _ else _) = _ by rw [if_neg (by rw [b_29]; decide)])]) (by rfl) ?_
                exact ih14 (j + 1) (by omega) (by omega)
              · skip
                have b_29 := zB_tt c_29
                refine z_aload_n 3 dX4_rowsOfSewnSlits_32 rfl rfl ?_
                refine z_iload_n 2 dX4_rowsOfSewnSlits_33 rfl rfl ?_
                refine z_iload_n 0 dX4_rowsOfSewnSlits_34 rfl rfl ?_
                refine z_callV (N := mX4_slitRows) 2 [.int (nI k), .int (nI j)] [.int (nI (zSN (fun b => zSN (fun y => if zAt sew (nI b) (nI y) == 1 then zRl wov c w (nI b) y else 0) w) k + zSN (fun y => if zAt sew (nI k) (nI y) == 1 then zRl wov c w (nI k) y else 0) j))] lX4_slitRows ⟨zw_280, zw_281, zw_282⟩ rfl rfl rfl rfl (Nat.le_of_ble_eq_true rfl) (by decide) ⟨zlt, zlt⟩ ⟨Nat.zero_le _, Nat.zero_le _⟩ (fun _ => rfl) (c_slitRows hG hc hr hw hn (nI k) j (by omega)) dX4_rowsOfSewnSlits_35 ?_
                refine z_goto (tgt := 42) dX4_rowsOfSewnSlits_38 (by decide) ?_
                refine z_iadd dX4_rowsOfSewnSlits_42 ?_
                refine z_istore_n (lv' := [(1, .int ((nI (zSN (fun b => zSN (fun y => if zAt sew (nI b) (nI y) == 1 then zRl wov c w (nI b) y else 0) w) k + zSN (fun y => if zAt sew (nI k) (nI y) == 1 then zRl wov c w (nI k) y else 0) j)) + (nI (zRl wov c w (nI k) j)))), (3, .int (nI j)), (2, .int (nI k)), (0, .ref 1)]) dX4_rowsOfSewnSlits_43 rfl (by decide) rfl ?_
                refine z_iinc (v := nI (j + 1)) (lv' := [(3, .int (nI (j + 1))), (1, .int ((nI (zSN (fun b => zSN (fun y => if zAt sew (nI b) (nI y) == 1 then zRl wov c w (nI b) y else 0) w) k + zSN (fun y => if zAt sew (nI k) (nI y) == 1 then zRl wov c w (nI k) y else 0) j)) + (nI (zRl wov c w (nI k) j)))), (2, .int (nI k)), (0, .ref 1)]) 1 dX4_rowsOfSewnSlits_44 rfl (nI_1 j) (by decide) rfl ?_
                refine z_goto (tgt := 14) dX4_rowsOfSewnSlits_47 (by decide) ?_
                refine z_sub [0, 1, 2, 3] (lv' := [(3, .int (nI (j + 1))), (1, .int ((nI (zSN (fun b => zSN (fun y => if zAt sew (nI b) (nI y) == 1 then zRl wov c w (nI b) y else 0) w) k + zSN (fun y => if zAt sew (nI k) (nI y) == 1 then zRl wov c w (nI k) y else 0) j)) + (nI (zRl wov c w (nI k) j)))), (2, .int (nI k)), (0, .ref 1)]) rfl ?_
                refine z_eqs (lv2 := [(3, .int (nI (j + 1))), (1, .int (nI (zSN (fun b => zSN (fun y => if zAt sew (nI b) (nI y) == 1 then zRl wov c w (nI b) y else 0) w) k + zSN (fun y => if zAt sew (nI k) (nI y) == 1 then zRl wov c w (nI k) y else 0) (j + 1)))), (2, .int (nI k)), (0, .ref 1)]) (h2 := (zHp (c, r, w, lim, tol, cart, wov, lot, sew, mis, cnt, col, len, lef, sbt, shd) X Y out)) (by first | rw [zSN_t (fun y => if zAt sew (nI k) (nI y) == 1 then zRl wov c w (nI k) y else 0) _ (show (if _ then _ else _) = _ by rw [if_pos b_29])] | rw [zSN_z (fun y => if zAt sew (nI k) (nI y) == 1 then zRl wov c w (nI k) y else 0) _ (show (if _ then _ else _) = _ by rw [if_neg (by rw [b_29]; decide)])]) (by rfl) ?_
                exact ih14 (j + 1) (by omega) (by omega)
        refine z_sub [0, 2, 1, 3] (lv' := [(3, .int 0), (1, .int (nI (zSN (fun b => zSN (fun y => if zAt sew (nI b) (nI y) == 1 then zRl wov c w (nI b) y else 0) w) k))), (2, .int (nI k)), (0, .ref 1)]) rfl ?_
        refine z_eqs (lv2 := [(3, .int (nI 0)), (1, .int (nI (zSN (fun b => zSN (fun y => if zAt sew (nI b) (nI y) == 1 then zRl wov c w (nI b) y else 0) w) k + zSN (fun y => if zAt sew (nI k) (nI y) == 1 then zRl wov c w (nI k) y else 0) 0))), (2, .int (nI k)), (0, .ref 1)]) (h2 := (zHp (c, r, w, lim, tol, cart, wov, lot, sew, mis, cnt, col, len, lef, sbt, shd) X Y out)) (by rfl) (by rfl) ?_
        exact L14_2 (w + 1) 0 (Nat.zero_le _) (by omega)
  refine z_sub [0, 1, 2] (lv' := [(2, .int 0), (1, .int 0), (0, .ref 1)]) rfl ?_
  refine z_eqs (lv2 := [(2, .int (nI 0)), (1, .int (nI (zSN (fun b => zSN (fun y => if zAt sew (nI b) (nI y) == 1 then zRl wov c w (nI b) y else 0) w) 0))), (0, .ref 1)]) (h2 := (zHp (c, r, w, lim, tol, cart, wov, lot, sew, mis, cnt, col, len, lef, sbt, shd) X Y out)) (by rfl) (by rfl) ?_
  exact L4_1 (c + 1) 0 (Nat.zero_le _) (by omega)

set_option maxHeartbeats 4000000 in
set_option maxRecDepth 100000 in
theorem c_allWrong {G : zT} {c r w lim cnt : Nat} {tol : Int32} {cart wov lot sew mis col len lef sbt : Nat → Int32} {shd : Nat → UInt32} {X : zXr} {Y : zYr} {out : Nat → Int64} (hG : zAl G = false) (hc : c ≤ 20) (hr : r ≤ 16) (hw : w ≤ r) (hn : cnt ≤ 16)  : zRun G mX4_allWrongCells 0 0 [.ref 1] (zHp (c, r, w, lim, tol, cart, wov, lot, sew, mis, cnt, col, len, lef, sbt, shd) X Y out) (.inr (some (.int (nI (zSN (fun y => zWc9 wov cart (nI y) c) w))))) (zHp (c, r, w, lim, tol, cart, wov, lot, sew, mis, cnt, col, len, lef, sbt, shd) X Y out) := by
  refine zRun_of (by decide +kernel) rfl rfl (Nat.le_of_ble_eq_true rfl) ?_
  suffices hs : ∀ (o9 : zO) (h9 : zH), (Sum.inr (some (.int (nI (zSN (fun y => zWc9 wov cart (nI y) c) w)))) : zO) = o9 → (zHp (c, r, w, lim, tol, cart, wov, lot, sew, mis, cnt, col, len, lef, sbt, shd) X Y out) = h9 → zPW G mX4_allWrongCells 0 0 o9 h9 0 0 0 [(0, .ref 1)] [] (zHp (c, r, w, lim, tol, cart, wov, lot, sew, mis, cnt, col, len, lef, sbt, shd) X Y out) from hs _ _ rfl rfl
  intro o9 h9 ho9 hh9
  refine z_iconst (v := 0) dX4_allWrongCells_0 (by decide) ?_
  refine z_istore_n (lv' := [(1, .int 0), (0, .ref 1)]) dX4_allWrongCells_1 rfl (by decide) rfl ?_
  refine z_iconst (v := 0) dX4_allWrongCells_2 (by decide) ?_
  refine z_istore_n (lv' := [(2, .int 0), (1, .int 0), (0, .ref 1)]) dX4_allWrongCells_3 rfl (by decide) rfl ?_
  have L4_1 : ∀ (d k : Nat), k ≤ w → w + 1 ≤ k + d → zPW G mX4_allWrongCells 0 0 o9 h9 0 0 4 [(2, .int (nI k)), (1, .int (nI (zSN (fun y => zWc9 wov cart (nI y) c) k))), (0, .ref 1)] [] (zHp (c, r, w, lim, tol, cart, wov, lot, sew, mis, cnt, col, len, lef, sbt, shd) X Y out) := by
    intro d
    induction d with
    | zero => intro k hk hd; exact absurd hd (by omega)
    | succ d ih =>
      intro k hk_k hd_k
      have ih4 := ih
      clear ih
      refine z_iload_n 0 dX4_allWrongCells_4 rfl rfl ?_
      refine z_aload_n 2 dX4_allWrongCells_5 rfl rfl ?_
      refine z_get (v := .int (nI w)) 2 rfl rfl inX4 (by decide) zw_134 rfl rfl dX4_allWrongCells_6 ?_
      refine z_icmp_ge (tgt := 26) dX4_allWrongCells_9 (by decide) (fun c_9 => ?_) (fun c_9 => ?_)
      · skip
        have hx_k := zge (by omega) hk_k c_9
        refine z_iload_n 1 dX4_allWrongCells_26 rfl rfl ?_
        exact z_iret rfl dX4_allWrongCells_27 (zo_i ho9 (by rw [hx_k])) (zo_h hh9 (by rfl)) (Nat.zero_le _) (Nat.zero_le _)
      · skip
        have hx_k := zlt' (by omega) hk_k c_9
        refine z_iload_n 1 dX4_allWrongCells_12 rfl rfl ?_
        refine z_aload_n 2 dX4_allWrongCells_13 rfl rfl ?_
        refine z_iload_n 0 dX4_allWrongCells_14 rfl rfl ?_
        refine z_callV (N := mX4_wrongCells) 1 [.int (nI k)] [.int (nI (zSN (fun y => zWc9 wov cart (nI y) c) k))] lX4_wrongCells ⟨zw_264, zw_266, zw_1⟩ rfl rfl rfl rfl (Nat.le_of_ble_eq_true rfl) (by decide) ⟨zlt, zlt⟩ ⟨Nat.zero_le _, Nat.zero_le _⟩ (fun _ => rfl) (c_wrongCells hG hc hr hw hn (nI k)) dX4_allWrongCells_15 ?_
        refine z_iadd dX4_allWrongCells_18 ?_
        refine z_istore_n (lv' := [(1, .int ((nI (zSN (fun y => zWc9 wov cart (nI y) c) k)) + (nI (zWc9 wov cart (nI k) c)))), (2, .int (nI k)), (0, .ref 1)]) dX4_allWrongCells_19 rfl (by decide) rfl ?_
        refine z_iinc (v := nI (k + 1)) (lv' := [(2, .int (nI (k + 1))), (1, .int ((nI (zSN (fun y => zWc9 wov cart (nI y) c) k)) + (nI (zWc9 wov cart (nI k) c)))), (0, .ref 1)]) 1 dX4_allWrongCells_20 rfl (nI_1 k) (by decide) rfl ?_
        refine z_goto (tgt := 4) dX4_allWrongCells_23 (by decide) ?_
        refine z_sub [0, 1, 2] (lv' := [(2, .int (nI (k + 1))), (1, .int ((nI (zSN (fun y => zWc9 wov cart (nI y) c) k)) + (nI (zWc9 wov cart (nI k) c)))), (0, .ref 1)]) rfl ?_
        refine z_eqs (lv2 := [(2, .int (nI (k + 1))), (1, .int (nI (zSN (fun y => zWc9 wov cart (nI y) c) (k + 1)))), (0, .ref 1)]) (h2 := (zHp (c, r, w, lim, tol, cart, wov, lot, sew, mis, cnt, col, len, lef, sbt, shd) X Y out)) (by rw [← zSN_s (fun y => zWc9 wov cart (nI y) c) k]) (by rfl) ?_
        exact ih4 (k + 1) (by omega) (by omega)
  refine z_sub [0, 1, 2] (lv' := [(2, .int 0), (1, .int 0), (0, .ref 1)]) rfl ?_
  refine z_eqs (lv2 := [(2, .int (nI 0)), (1, .int (nI (zSN (fun y => zWc9 wov cart (nI y) c) 0))), (0, .ref 1)]) (h2 := (zHp (c, r, w, lim, tol, cart, wov, lot, sew, mis, cnt, col, len, lef, sbt, shd) X Y out)) (by rfl) (by rfl) ?_
  exact L4_1 (w + 1) 0 (Nat.zero_le _) (by omega)

set_option maxHeartbeats 4000000 in
set_option maxRecDepth 100000 in
theorem c_allNew {G : zT} {c r w lim cnt : Nat} {tol : Int32} {cart wov lot sew mis col len lef sbt : Nat → Int32} {shd : Nat → UInt32} {X : zXr} {Y : zYr} {out : Nat → Int64} (hG : zAl G = false) (hc : c ≤ 20) (hr : r ≤ 16) (hw : w ≤ r) (hn : cnt ≤ 16)  : zRun G mX4_allNewShuttles 0 0 [.ref 1] (zHp (c, r, w, lim, tol, cart, wov, lot, sew, mis, cnt, col, len, lef, sbt, shd) X Y out) (.inr (some (.int (nI (zSN (fun y => zNs wov (nI y) c) w))))) (zHp (c, r, w, lim, tol, cart, wov, lot, sew, mis, cnt, col, len, lef, sbt, shd) X Y out) := by
  refine zRun_of (by decide +kernel) rfl rfl (Nat.le_of_ble_eq_true rfl) ?_
  suffices hs : ∀ (o9 : zO) (h9 : zH), (Sum.inr (some (.int (nI (zSN (fun y => zNs wov (nI y) c) w)))) : zO) = o9 → (zHp (c, r, w, lim, tol, cart, wov, lot, sew, mis, cnt, col, len, lef, sbt, shd) X Y out) = h9 → zPW G mX4_allNewShuttles 0 0 o9 h9 0 0 0 [(0, .ref 1)] [] (zHp (c, r, w, lim, tol, cart, wov, lot, sew, mis, cnt, col, len, lef, sbt, shd) X Y out) from hs _ _ rfl rfl
  intro o9 h9 ho9 hh9
  refine z_iconst (v := 0) dX4_allNewShuttles_0 (by decide) ?_
  refine z_istore_n (lv' := [(1, .int 0), (0, .ref 1)]) dX4_allNewShuttles_1 rfl (by decide) rfl ?_
  refine z_iconst (v := 0) dX4_allNewShuttles_2 (by decide) ?_
  refine z_istore_n (lv' := [(2, .int 0), (1, .int 0), (0, .ref 1)]) dX4_allNewShuttles_3 rfl (by decide) rfl ?_
  have L4_1 : ∀ (d k : Nat), k ≤ w → w + 1 ≤ k + d → zPW G mX4_allNewShuttles 0 0 o9 h9 0 0 4 [(2, .int (nI k)), (1, .int (nI (zSN (fun y => zNs wov (nI y) c) k))), (0, .ref 1)] [] (zHp (c, r, w, lim, tol, cart, wov, lot, sew, mis, cnt, col, len, lef, sbt, shd) X Y out) := by
    intro d
    induction d with
    | zero => intro k hk hd; exact absurd hd (by omega)
    | succ d ih =>
      intro k hk_k hd_k
      have ih4 := ih
      clear ih
      refine z_iload_n 0 dX4_allNewShuttles_4 rfl rfl ?_
      refine z_aload_n 2 dX4_allNewShuttles_5 rfl rfl ?_
      refine z_get (v := .int (nI w)) 2 rfl rfl inX4 (by decide) zw_134 rfl rfl dX4_allNewShuttles_6 ?_
      refine z_icmp_ge (tgt := 26) dX4_allNewShuttles_9 (by decide) (fun c_9 => ?_) (fun c_9 => ?_)
      · skip
        have hx_k := zge (by omega) hk_k c_9
        refine z_iload_n 1 dX4_allNewShuttles_26 rfl rfl ?_
        exact z_iret rfl dX4_allNewShuttles_27 (zo_i ho9 (by rw [hx_k])) (zo_h hh9 (by rfl)) (Nat.zero_le _) (Nat.zero_le _)
      · skip
        have hx_k := zlt' (by omega) hk_k c_9
        refine z_iload_n 1 dX4_allNewShuttles_12 rfl rfl ?_
        refine z_aload_n 2 dX4_allNewShuttles_13 rfl rfl ?_
        refine z_iload_n 0 dX4_allNewShuttles_14 rfl rfl ?_
        refine z_callV (N := mX4_newShuttles) 1 [.int (nI k)] [.int (nI (zSN (fun y => zNs wov (nI y) c) k))] lX4_newShuttles ⟨zw_362, zw_364, zw_16⟩ rfl rfl rfl rfl (Nat.le_of_ble_eq_true rfl) (by decide) ⟨zlt, zlt⟩ ⟨Nat.zero_le _, Nat.zero_le _⟩ (fun _ => rfl) (c_newShuttles hG hc hr hw hn (nI k)) dX4_allNewShuttles_15 ?_
        refine z_iadd dX4_allNewShuttles_18 ?_
        refine z_istore_n (lv' := [(1, .int ((nI (zSN (fun y => zNs wov (nI y) c) k)) + (nI (zNs wov (nI k) c)))), (2, .int (nI k)), (0, .ref 1)]) dX4_allNewShuttles_19 rfl (by decide) rfl ?_
        refine z_iinc (v := nI (k + 1)) (lv' := [(2, .int (nI (k + 1))), (1, .int ((nI (zSN (fun y => zNs wov (nI y) c) k)) + (nI (zNs wov (nI k) c)))), (0, .ref 1)]) 1 dX4_allNewShuttles_20 rfl (nI_1 k) (by decide) rfl ?_
        refine z_goto (tgt := 4) dX4_allNewShuttles_23 (by decide) ?_
        refine z_sub [0, 1, 2] (lv' := [(2, .int (nI (k + 1))), (1, .int ((nI (zSN (fun y => zNs wov (nI y) c) k)) + (nI (zNs wov (nI k) c)))), (0, .ref 1)]) rfl ?_
        refine z_eqs (lv2 := [(2, .int (nI (k + 1))), (1, .int (nI (zSN (fun y => zNs wov (nI y) c) (k + 1)))), (0, .ref 1)]) (h2 := (zHp (c, r, w, lim, tol, cart, wov, lot, sew, mis, cnt, col, len, lef, sbt, shd) X Y out)) (by rw [← zSN_s (fun y => zNs wov (nI y) c) k]) (by rfl) ?_
        exact ih4 (k + 1) (by omega) (by omega)
  refine z_sub [0, 1, 2] (lv' := [(2, .int 0), (1, .int 0), (0, .ref 1)]) rfl ?_
  refine z_eqs (lv2 := [(2, .int (nI 0)), (1, .int (nI (zSN (fun y => zNs wov (nI y) c) 0))), (0, .ref 1)]) (h2 := (zHp (c, r, w, lim, tol, cart, wov, lot, sew, mis, cnt, col, len, lef, sbt, shd) X Y out)) (by rfl) (by rfl) ?_
  exact L4_1 (w + 1) 0 (Nat.zero_le _) (by omega)

set_option maxHeartbeats 4000000 in
set_option maxRecDepth 100000 in
theorem c_mostShuttles {G : zT} {c r w lim cnt : Nat} {tol : Int32} {cart wov lot sew mis col len lef sbt : Nat → Int32} {shd : Nat → UInt32} {X : zXr} {Y : zYr} {out : Nat → Int64} (hG : zAl G = false) (hc : c ≤ 20) (hr : r ≤ 16) (hw : w ≤ r) (hn : cnt ≤ 16)  : zRun G mX4_mostShuttles 0 0 [.ref 1] (zHp (c, r, w, lim, tol, cart, wov, lot, sew, mis, cnt, col, len, lef, sbt, shd) X Y out) (.inr (some (.int (nI (zMx (fun y => zRu wov (nI y) c) w))))) (zHp (c, r, w, lim, tol, cart, wov, lot, sew, mis, cnt, col, len, lef, sbt, shd) X Y out) := by
  refine zRun_of (by decide +kernel) rfl rfl (Nat.le_of_ble_eq_true rfl) ?_
  suffices hs : ∀ (o9 : zO) (h9 : zH), (Sum.inr (some (.int (nI (zMx (fun y => zRu wov (nI y) c) w)))) : zO) = o9 → (zHp (c, r, w, lim, tol, cart, wov, lot, sew, mis, cnt, col, len, lef, sbt, shd) X Y out) = h9 → zPW G mX4_mostShuttles 0 0 o9 h9 0 0 0 [(0, .ref 1)] [] (zHp (c, r, w, lim, tol, cart, wov, lot, sew, mis, cnt, col, len, lef, sbt, shd) X Y out) from hs _ _ rfl rfl
  intro o9 h9 ho9 hh9
  refine z_iconst (v := 0) dX4_mostShuttles_0 (by decide) ?_
  refine z_istore_n (lv' := [(1, .int 0), (0, .ref 1)]) dX4_mostShuttles_1 rfl (by decide) rfl ?_
  refine z_iconst (v := 0) dX4_mostShuttles_2 (by decide) ?_
  refine z_istore_n (lv' := [(2, .int 0), (1, .int 0), (0, .ref 1)]) dX4_mostShuttles_3 rfl (by decide) rfl ?_
  have L4_1 : ∀ (d k : Nat), k ≤ w → w + 1 ≤ k + d → zPW G mX4_mostShuttles 0 0 o9 h9 0 0 4 [(2, .int (nI k)), (1, .int (nI (zMx (fun y => zRu wov (nI y) c) k))), (0, .ref 1)] [] (zHp (c, r, w, lim, tol, cart, wov, lot, sew, mis, cnt, col, len, lef, sbt, shd) X Y out) := by
    intro d
    induction d with
    | zero => intro k hk hd; exact absurd hd (by omega)
    | succ d ih =>
      intro k hk_k hd_k
      have ih4 := ih
      clear ih
      refine z_iload_n 0 dX4_mostShuttles_4 rfl rfl ?_
      refine z_aload_n 2 dX4_mostShuttles_5 rfl rfl ?_
      refine z_get (v := .int (nI w)) 2 rfl rfl inX4 (by decide) zw_134 rfl rfl dX4_mostShuttles_6 ?_
      refine z_icmp_ge (tgt := 35) dX4_mostShuttles_9 (by decide) (fun c_9 => ?_) (fun c_9 => ?_)
      · skip
        have hx_k := zge (by omega) hk_k c_9
        refine z_iload_n 1 dX4_mostShuttles_35 rfl rfl ?_
        exact z_iret rfl dX4_mostShuttles_36 (zo_i ho9 (by rw [hx_k])) (zo_h hh9 (by rfl)) (Nat.zero_le _) (Nat.zero_le _)
      · skip
        have hx_k := zlt' (by omega) hk_k c_9
        refine z_iload_n 1 dX4_mostShuttles_12 rfl rfl ?_
        refine z_aload_n 2 dX4_mostShuttles_13 rfl rfl ?_
        refine z_get (v := .ref 4) 6 rfl rfl inX4 (by decide) zw_141 rfl rfl dX4_mostShuttles_14 ?_
        refine z_iload_n 0 dX4_mostShuttles_17 rfl rfl ?_
        refine z_aload_n 2 dX4_mostShuttles_18 rfl rfl ?_
        refine z_get (v := .int (nI c)) 0 rfl rfl inX4 (by decide) zw_130 rfl rfl dX4_mostShuttles_19 ?_
        refine z_callV (N := mX2_runs) 2 [.int (nI k), .int (nI c)] [.int (nI (zMx (fun y => zRu wov (nI y) c) k))] lX2_runs ⟨zw_349, zw_350, zw_351⟩ rfl rfl rfl rfl (Nat.le_of_ble_eq_true rfl) (by decide) ⟨zlt, zlt⟩ ⟨Nat.zero_le _, Nat.zero_le _⟩ (fun _ => rfl) (c_gRuns (g := 4) (v := 5) (f := wov) hG zlt rfl rfl (nI k) (c := c) (by omega)) dX4_mostShuttles_22 ?_
        refine z_mmax zw_357 (by decide) (Nat.le_of_ble_eq_true rfl) ⟨Nat.zero_le _, Nat.zero_le _⟩ dX4_mostShuttles_25 ?_
        refine z_top (v2 := .int (nI (zMx (fun y => zRu wov (nI y) c) (k + 1)))) (by rw [nI_max (Nat.lt_of_le_of_lt (zMx_le (fun _ => zRu_le _ _ _) _) (by omega)) (Nat.lt_of_le_of_lt (zRu_le _ _ _) (by omega))]; rfl) ?_
        refine z_istore_n (lv' := [(1, .int (nI (zMx (fun y => zRu wov (nI y) c) (k + 1)))), (2, .int (nI k)), (0, .ref 1)]) dX4_mostShuttles_28 rfl (by decide) rfl ?_
        refine z_iinc (v := nI (k + 1)) (lv' := [(2, .int (nI (k + 1))), (1, .int (nI (zMx (fun y => zRu wov (nI y) c) (k + 1)))), (0, .ref 1)]) 1 dX4_mostShuttles_29 rfl (nI_1 k) (by decide) rfl ?_
        refine z_goto (tgt := 4) dX4_mostShuttles_32 (by decide) ?_
        refine z_sub [0, 1, 2] (lv' := [(2, .int (nI (k + 1))), (1, .int (nI (zMx (fun y => zRu wov (nI y) c) (k + 1)))), (0, .ref 1)]) rfl ?_
        refine z_eqs (lv2 := [(2, .int (nI (k + 1))), (1, .int (nI (zMx (fun y => zRu wov (nI y) c) (k + 1)))), (0, .ref 1)]) (h2 := (zHp (c, r, w, lim, tol, cart, wov, lot, sew, mis, cnt, col, len, lef, sbt, shd) X Y out)) (by rfl) (by rfl) ?_
        exact ih4 (k + 1) (by omega) (by omega)
  refine z_sub [0, 1, 2] (lv' := [(2, .int 0), (1, .int 0), (0, .ref 1)]) rfl ?_
  refine z_eqs (lv2 := [(2, .int (nI 0)), (1, .int (nI (zMx (fun y => zRu wov (nI y) c) 0))), (0, .ref 1)]) (h2 := (zHp (c, r, w, lim, tol, cart, wov, lot, sew, mis, cnt, col, len, lef, sbt, shd) X Y out)) (by rfl) (by rfl) ?_
  exact L4_1 (w + 1) 0 (Nat.zero_le _) (by omega)

def zRv (wov cart lot : Nat → Int32) (c cnt : Nat) (y t : Int32) : Int32 := if t = 0 then nI (zRu wov y c) else if t = 1 then nI (zNs wov y c) else if t = 2 then nI (zWc9 wov cart y c) else if t = 3 then nI c + nI (zRu wov y c) else nI (zLr lot y c cnt)
def zLv (lot col len lef sbt : Nat → Int32) (c w cnt : Nat) (i t : Int32) : Int32 := if t = 0 then zAtN 16 col i else if t = 1 then zAtN 16 len i else if t = 2 then zAtN 16 lef i else if t = 3 then zAtN 16 sbt i else if t = 4 then nI (zCi lot i c w) else zB (zIu col lef (zAtN 16 col i) 0 cnt == i)
def zCvl (cart wov col lef : Nat → Int32) (c r w cnt : Nat) (v t : Int32) : Int32 := if t = 0 then nI (zCi cart v c r) else if t = 1 then nI (zCi wov v c w) else if t = 2 then zLf col lef v cnt else if t = 3 then nI (zCo col v cnt) else if t = 4 then nI (zSN (fun y => zRo wov v (nI y) c) w) else nI (zUc cart v c w (r - w))
def zSlv (wov sew : Nat → Int32) (c w : Nat) (b : Int32) (a : Nat) (t : Int32) : Int32 := if t = 0 then b else if t = 1 then nI a else if t = 2 then nI a + nI (zRl wov c w b a) - 1 else zB (zAt sew b (nI a) == 1)

set_option maxHeartbeats 4000000 in
set_option maxRecDepth 100000 in
theorem c_rowValue {G : zT} {c r w lim cnt : Nat} {tol : Int32} {cart wov lot sew mis col len lef sbt : Nat → Int32} {shd : Nat → UInt32} {X : zXr} {Y : zYr} {out : Nat → Int64} (hG : zAl G = false) (hc : c ≤ 20) (hr : r ≤ 16) (hw : w ≤ r) (hn : cnt ≤ 16) (y t : Int32) : zRun G mX4_rowValue 0 0 [.ref 1, .int y, .int t] (zHp (c, r, w, lim, tol, cart, wov, lot, sew, mis, cnt, col, len, lef, sbt, shd) X Y out) (.inr (some (.int (zRv wov cart lot c cnt y t)))) (zHp (c, r, w, lim, tol, cart, wov, lot, sew, mis, cnt, col, len, lef, sbt, shd) X Y out) := by
  refine zRun_of (by decide +kernel) rfl rfl (Nat.le_of_ble_eq_true rfl) ?_
  suffices hs : ∀ (o9 : zO) (h9 : zH), (Sum.inr (some (.int (zRv wov cart lot c cnt y t))) : zO) = o9 → (zHp (c, r, w, lim, tol, cart, wov, lot, sew, mis, cnt, col, len, lef, sbt, shd) X Y out) = h9 → zPW G mX4_rowValue 0 0 o9 h9 0 0 0 [(0, .ref 1), (1, .int y), (2, .int t)] [] (zHp (c, r, w, lim, tol, cart, wov, lot, sew, mis, cnt, col, len, lef, sbt, shd) X Y out) from hs _ _ rfl rfl
  intro o9 h9 ho9 hh9
  refine z_iload_n 2 dX4_rowValue_0 rfl rfl ?_
  refine z_if_ne (tgt := 17) dX4_rowValue_1 (by decide) (fun c_1 => ?_) (fun c_1 => ?_)
  · skip
    refine z_iload_n 2 dX4_rowValue_17 rfl rfl ?_
    refine z_iconst (v := 1) dX4_rowValue_18 (by decide) ?_
    refine z_icmp_ne (tgt := 28) dX4_rowValue_19 (by decide) (fun c_19 => ?_) (fun c_19 => ?_)
    · skip
      refine z_iload_n 2 dX4_rowValue_28 rfl rfl ?_
      refine z_iconst (v := 2) dX4_rowValue_29 (by decide) ?_
      refine z_icmp_ne (tgt := 39) dX4_rowValue_30 (by decide) (fun c_30 => ?_) (fun c_30 => ?_)
      · skip
        refine z_iload_n 2 dX4_rowValue_39 rfl rfl ?_
        refine z_iconst (v := 3) dX4_rowValue_40 (by decide) ?_
        refine z_icmp_ne (tgt := 62) dX4_rowValue_41 (by decide) (fun c_41 => ?_) (fun c_41 => ?_)
        · skip
          refine z_aload_n 0 dX4_rowValue_62 rfl rfl ?_
          refine z_iload_n 1 dX4_rowValue_63 rfl rfl ?_
          refine z_callV (N := mX4_lotsInRow) 1 [.int y] [] lX4_lotsInRow ⟨zw_395, zw_397, zw_21⟩ rfl rfl rfl rfl (Nat.le_of_ble_eq_true rfl) (by decide) ⟨zlt, zlt⟩ ⟨Nat.zero_le _, Nat.zero_le _⟩ (fun _ => rfl) (c_lotsInRow hG hc hr hw hn y) dX4_rowValue_64 ?_
          exact z_iret rfl dX4_rowValue_67 (zo_i ho9 (by simp [zRv, *])) (zo_h hh9 (by rfl)) (Nat.zero_le _) (Nat.zero_le _)
        · skip
          refine z_aload_n 0 dX4_rowValue_44 rfl rfl ?_
          refine z_get (v := .int (nI c)) 0 rfl rfl inX4 (by decide) zw_130 rfl rfl dX4_rowValue_45 ?_
          refine z_aload_n 0 dX4_rowValue_48 rfl rfl ?_
          refine z_get (v := .ref 4) 6 rfl rfl inX4 (by decide) zw_141 rfl rfl dX4_rowValue_49 ?_
          refine z_iload_n 1 dX4_rowValue_52 rfl rfl ?_
          refine z_aload_n 0 dX4_rowValue_53 rfl rfl ?_
          refine z_get (v := .int (nI c)) 0 rfl rfl inX4 (by decide) zw_130 rfl rfl dX4_rowValue_54 ?_
          refine z_callV (N := mX2_runs) 2 [.int y, .int (nI c)] [.int (nI c)] lX2_runs ⟨zw_349, zw_350, zw_351⟩ rfl rfl rfl rfl (Nat.le_of_ble_eq_true rfl) (by decide) ⟨zlt, zlt⟩ ⟨Nat.zero_le _, Nat.zero_le _⟩ (fun _ => rfl) (c_gRuns (g := 4) (v := 5) (f := wov) hG zlt rfl rfl y (c := c) (by omega)) dX4_rowValue_57 ?_
          refine z_iadd dX4_rowValue_60 ?_
          exact z_iret rfl dX4_rowValue_61 (zo_i ho9 (by simp [zRv, *])) (zo_h hh9 (by rfl)) (Nat.zero_le _) (Nat.zero_le _)
      · skip
        refine z_aload_n 0 dX4_rowValue_33 rfl rfl ?_
        refine z_iload_n 1 dX4_rowValue_34 rfl rfl ?_
        refine z_callV (N := mX4_wrongCells) 1 [.int y] [] lX4_wrongCells ⟨zw_264, zw_266, zw_1⟩ rfl rfl rfl rfl (Nat.le_of_ble_eq_true rfl) (by decide) ⟨zlt, zlt⟩ ⟨Nat.zero_le _, Nat.zero_le _⟩ (fun _ => rfl) (c_wrongCells hG hc hr hw hn y) dX4_rowValue_35 ?_
        exact z_iret rfl dX4_rowValue_38 (zo_i ho9 (by simp [zRv, *])) (zo_h hh9 (by rfl)) (Nat.zero_le _) (Nat.zero_le _)
    · skip
      refine z_aload_n 0 dX4_rowValue_22 rfl rfl ?_
      refine z_iload_n 1 dX4_rowValue_23 rfl rfl ?_
      refine z_callV (N := mX4_newShuttles) 1 [.int y] [] lX4_newShuttles ⟨zw_362, zw_364, zw_16⟩ rfl rfl rfl rfl (Nat.le_of_ble_eq_true rfl) (by decide) ⟨zlt, zlt⟩ ⟨Nat.zero_le _, Nat.zero_le _⟩ (fun _ => rfl) (c_newShuttles hG hc hr hw hn y) dX4_rowValue_24 ?_
      exact z_iret rfl dX4_rowValue_27 (zo_i ho9 (by simp [zRv, *])) (zo_h hh9 (by rfl)) (Nat.zero_le _) (Nat.zero_le _)
  · skip
    refine z_aload_n 0 dX4_rowValue_4 rfl rfl ?_
    refine z_get (v := .ref 4) 6 rfl rfl inX4 (by decide) zw_141 rfl rfl dX4_rowValue_5 ?_
    refine z_iload_n 1 dX4_rowValue_8 rfl rfl ?_
    refine z_aload_n 0 dX4_rowValue_9 rfl rfl ?_
    refine z_get (v := .int (nI c)) 0 rfl rfl inX4 (by decide) zw_130 rfl rfl dX4_rowValue_10 ?_
    refine z_callV (N := mX2_runs) 2 [.int y, .int (nI c)] [] lX2_runs ⟨zw_349, zw_350, zw_351⟩ rfl rfl rfl rfl (Nat.le_of_ble_eq_true rfl) (by decide) ⟨zlt, zlt⟩ ⟨Nat.zero_le _, Nat.zero_le _⟩ (fun _ => rfl) (c_gRuns (g := 4) (v := 5) (f := wov) hG zlt rfl rfl y (c := c) (by omega)) dX4_rowValue_13 ?_
    exact z_iret rfl dX4_rowValue_16 (zo_i ho9 (by simp [zRv, *])) (zo_h hh9 (by rfl)) (Nat.zero_le _) (Nat.zero_le _)

set_option maxHeartbeats 4000000 in
set_option maxRecDepth 100000 in
theorem c_lotValue {G : zT} {c r w lim cnt : Nat} {tol : Int32} {cart wov lot sew mis col len lef sbt : Nat → Int32} {shd : Nat → UInt32} {X : zXr} {Y : zYr} {out : Nat → Int64} (hG : zAl G = false) (hc : c ≤ 20) (hr : r ≤ 16) (hw : w ≤ r) (hn : cnt ≤ 16) (i t : Int32) : zRun G mX4_lotValue 0 0 [.ref 1, .int i, .int t] (zHp (c, r, w, lim, tol, cart, wov, lot, sew, mis, cnt, col, len, lef, sbt, shd) X Y out) (.inr (some (.int (zLv lot col len lef sbt c w cnt i t)))) (zHp (c, r, w, lim, tol, cart, wov, lot, sew, mis, cnt, col, len, lef, sbt, shd) X Y out) := by
  refine zRun_of (by decide +kernel) rfl rfl (Nat.le_of_ble_eq_true rfl) ?_
  suffices hs : ∀ (o9 : zO) (h9 : zH), (Sum.inr (some (.int (zLv lot col len lef sbt c w cnt i t))) : zO) = o9 → (zHp (c, r, w, lim, tol, cart, wov, lot, sew, mis, cnt, col, len, lef, sbt, shd) X Y out) = h9 → zPW G mX4_lotValue 0 0 o9 h9 0 0 0 [(0, .ref 1), (1, .int i), (2, .int t)] [] (zHp (c, r, w, lim, tol, cart, wov, lot, sew, mis, cnt, col, len, lef, sbt, shd) X Y out) from hs _ _ rfl rfl
  intro o9 h9 ho9 hh9
  refine z_iload_n 2 dX4_lotValue_0 rfl rfl ?_
  refine z_if_ne (tgt := 16) dX4_lotValue_1 (by decide) (fun c_1 => ?_) (fun c_1 => ?_)
  · skip
    refine z_iload_n 2 dX4_lotValue_16 rfl rfl ?_
    refine z_iconst (v := 1) dX4_lotValue_17 (by decide) ?_
    refine z_icmp_ne (tgt := 33) dX4_lotValue_18 (by decide) (fun c_18 => ?_) (fun c_18 => ?_)
    · skip
      refine z_iload_n 2 dX4_lotValue_33 rfl rfl ?_
      refine z_iconst (v := 2) dX4_lotValue_34 (by decide) ?_
      refine z_icmp_ne (tgt := 50) dX4_lotValue_35 (by decide) (fun c_35 => ?_) (fun c_35 => ?_)
      · skip
        refine z_iload_n 2 dX4_lotValue_50 rfl rfl ?_
        refine z_iconst (v := 3) dX4_lotValue_51 (by decide) ?_
        refine z_icmp_ne (tgt := 67) dX4_lotValue_52 (by decide) (fun c_52 => ?_) (fun c_52 => ?_)
        · skip
          refine z_iload_n 2 dX4_lotValue_67 rfl rfl ?_
          refine z_iconst (v := 4) dX4_lotValue_68 (by decide) ?_
          refine z_icmp_ne (tgt := 86) dX4_lotValue_69 (by decide) (fun c_69 => ?_) (fun c_69 => ?_)
          · skip
            refine z_aload_n 0 dX4_lotValue_86 rfl rfl ?_
            refine z_get (v := .ref 12) 10 rfl rfl inX4 (by decide) zw_145 rfl rfl dX4_lotValue_87 ?_
            refine z_aload_n 0 dX4_lotValue_90 rfl rfl ?_
            refine z_get (v := .ref 12) 10 rfl rfl inX4 (by decide) zw_145 rfl rfl dX4_lotValue_91 ?_
            refine z_getN (v := .ref 13) 1 rfl rfl inX5 (by decide) (by decide) rfl rfl dX4_lotValue_94 ?_
            refine z_iload_n 1 dX4_lotValue_97 rfl rfl ?_
            refine z_callV (N := mX6_at) 1 [.int i] [.ref 12] lX6_at ⟨zw_415, zw_416, zw_417⟩ rfl rfl rfl rfl (Nat.le_of_ble_eq_true rfl) (by decide) ⟨zlt, zlt⟩ ⟨Nat.zero_le _, Nat.zero_le _⟩ (fun _ => rfl) (c_nAt (g := 13) (v := 14) (n := 16) (f := col) (by omega) zlt rfl rfl i) dX4_lotValue_98 ?_
            refine z_callV (N := mX5_inUse) 1 [.int (zAtN 16 col i)] [] lX5_inUse ⟨zw_419, zw_420, zw_421⟩ rfl rfl rfl rfl (Nat.le_of_ble_eq_true rfl) (by decide) ⟨zlt, zlt⟩ ⟨Nat.zero_le _, Nat.zero_le _⟩ (fun _ => rfl) (c_lInUse hG hc hr hw hn (zAtN 16 col i)) dX4_lotValue_101 ?_
            refine z_iload_n 1 dX4_lotValue_104 rfl rfl ?_
            refine z_icmp_ne (tgt := 112) dX4_lotValue_105 (by decide) (fun c_105 => ?_) (fun c_105 => ?_)
            · skip
              refine z_iconst (v := 0) dX4_lotValue_112 (by decide) ?_
              exact z_iret rfl dX4_lotValue_113 (zo_i ho9 (by simp [zLv, zB, *])) (zo_h hh9 (by rfl)) (Nat.zero_le _) (Nat.zero_le _)
            · skip
              refine z_iconst (v := 1) dX4_lotValue_108 (by decide) ?_
              refine z_goto (tgt := 113) dX4_lotValue_109 (by decide) ?_
              exact z_iret rfl dX4_lotValue_113 (zo_i ho9 (by simp [zLv, zB, *])) (zo_h hh9 (by rfl)) (Nat.zero_le _) (Nat.zero_le _)
          · skip
            refine z_aload_n 0 dX4_lotValue_72 rfl rfl ?_
            refine z_aload_n 0 dX4_lotValue_73 rfl rfl ?_
            refine z_get (v := .ref 6) 7 rfl rfl inX4 (by decide) zw_142 rfl rfl dX4_lotValue_74 ?_
            refine z_iload_n 1 dX4_lotValue_77 rfl rfl ?_
            refine z_aload_n 0 dX4_lotValue_78 rfl rfl ?_
            refine z_get (v := .int (nI w)) 2 rfl rfl inX4 (by decide) zw_134 rfl rfl dX4_lotValue_79 ?_
            refine z_callV (N := mX4_cellsIn) 3 [.ref 6, .int i, .int (nI w)] [] lX4_cellsIn ⟨zw_292, zw_294, zw_5⟩ rfl rfl rfl rfl (Nat.le_of_ble_eq_true rfl) (by decide) ⟨zlt, zlt⟩ ⟨Nat.zero_le _, Nat.zero_le _⟩ (fun _ => rfl) (c_cellsIn6 hG hc hr hw hn i w (by omega)) dX4_lotValue_82 ?_
            exact z_iret rfl dX4_lotValue_85 (zo_i ho9 (by simp [zLv, zB, *])) (zo_h hh9 (by rfl)) (Nat.zero_le _) (Nat.zero_le _)
        · skip
          refine z_aload_n 0 dX4_lotValue_55 rfl rfl ?_
          refine z_get (v := .ref 12) 10 rfl rfl inX4 (by decide) zw_145 rfl rfl dX4_lotValue_56 ?_
          refine z_getN (v := .ref 19) 4 rfl rfl inX5 (by decide) (by decide) rfl rfl dX4_lotValue_59 ?_
          refine z_iload_n 1 dX4_lotValue_62 rfl rfl ?_
          refine z_callV (N := mX6_at) 1 [.int i] [] lX6_at ⟨zw_415, zw_416, zw_417⟩ rfl rfl rfl rfl (Nat.le_of_ble_eq_true rfl) (by decide) ⟨zlt, zlt⟩ ⟨Nat.zero_le _, Nat.zero_le _⟩ (fun _ => rfl) (c_nAt (g := 19) (v := 20) (n := 16) (f := sbt) (by omega) zlt rfl rfl i) dX4_lotValue_63 ?_
          exact z_iret rfl dX4_lotValue_66 (zo_i ho9 (by simp [zLv, zB, *])) (zo_h hh9 (by rfl)) (Nat.zero_le _) (Nat.zero_le _)
      · skip
        refine z_aload_n 0 dX4_lotValue_38 rfl rfl ?_
        refine z_get (v := .ref 12) 10 rfl rfl inX4 (by decide) zw_145 rfl rfl dX4_lotValue_39 ?_
        refine z_getN (v := .ref 17) 3 rfl rfl inX5 (by decide) (by decide) rfl rfl dX4_lotValue_42 ?_
        refine z_iload_n 1 dX4_lotValue_45 rfl rfl ?_
        refine z_callV (N := mX6_at) 1 [.int i] [] lX6_at ⟨zw_415, zw_416, zw_417⟩ rfl rfl rfl rfl (Nat.le_of_ble_eq_true rfl) (by decide) ⟨zlt, zlt⟩ ⟨Nat.zero_le _, Nat.zero_le _⟩ (fun _ => rfl) (c_nAt (g := 17) (v := 18) (n := 16) (f := lef) (by omega) zlt rfl rfl i) dX4_lotValue_46 ?_
        exact z_iret rfl dX4_lotValue_49 (zo_i ho9 (by simp [zLv, zB, *])) (zo_h hh9 (by rfl)) (Nat.zero_le _) (Nat.zero_le _)
    · skip
      refine z_aload_n 0 dX4_lotValue_21 rfl rfl ?_
      refine z_get (v := .ref 12) 10 rfl rfl inX4 (by decide) zw_145 rfl rfl dX4_lotValue_22 ?_
      refine z_getN (v := .ref 15) 2 rfl rfl inX5 (by decide) (by decide) rfl rfl dX4_lotValue_25 ?_
      refine z_iload_n 1 dX4_lotValue_28 rfl rfl ?_
      refine z_callV (N := mX6_at) 1 [.int i] [] lX6_at ⟨zw_415, zw_416, zw_417⟩ rfl rfl rfl rfl (Nat.le_of_ble_eq_true rfl) (by decide) ⟨zlt, zlt⟩ ⟨Nat.zero_le _, Nat.zero_le _⟩ (fun _ => rfl) (c_nAt (g := 15) (v := 16) (n := 16) (f := len) (by omega) zlt rfl rfl i) dX4_lotValue_29 ?_
      exact z_iret rfl dX4_lotValue_32 (zo_i ho9 (by simp [zLv, zB, *])) (zo_h hh9 (by rfl)) (Nat.zero_le _) (Nat.zero_le _)
  · skip
    refine z_aload_n 0 dX4_lotValue_4 rfl rfl ?_
    refine z_get (v := .ref 12) 10 rfl rfl inX4 (by decide) zw_145 rfl rfl dX4_lotValue_5 ?_
    refine z_getN (v := .ref 13) 1 rfl rfl inX5 (by decide) (by decide) rfl rfl dX4_lotValue_8 ?_
    refine z_iload_n 1 dX4_lotValue_11 rfl rfl ?_
    refine z_callV (N := mX6_at) 1 [.int i] [] lX6_at ⟨zw_415, zw_416, zw_417⟩ rfl rfl rfl rfl (Nat.le_of_ble_eq_true rfl) (by decide) ⟨zlt, zlt⟩ ⟨Nat.zero_le _, Nat.zero_le _⟩ (fun _ => rfl) (c_nAt (g := 13) (v := 14) (n := 16) (f := col) (by omega) zlt rfl rfl i) dX4_lotValue_12 ?_
    exact z_iret rfl dX4_lotValue_15 (zo_i ho9 (by simp [zLv, zB, *])) (zo_h hh9 (by rfl)) (Nat.zero_le _) (Nat.zero_le _)

set_option maxHeartbeats 4000000 in
set_option maxRecDepth 100000 in
theorem c_colorValue {G : zT} {c r w lim cnt : Nat} {tol : Int32} {cart wov lot sew mis col len lef sbt : Nat → Int32} {shd : Nat → UInt32} {X : zXr} {Y : zYr} {out : Nat → Int64} (hG : zAl G = false) (hc : c ≤ 20) (hr : r ≤ 16) (hw : w ≤ r) (hn : cnt ≤ 16) (v t : Int32) : zRun G mX4_colorValue 0 0 [.ref 1, .int v, .int t] (zHp (c, r, w, lim, tol, cart, wov, lot, sew, mis, cnt, col, len, lef, sbt, shd) X Y out) (.inr (some (.int (zCvl cart wov col lef c r w cnt v t)))) (zHp (c, r, w, lim, tol, cart, wov, lot, sew, mis, cnt, col, len, lef, sbt, shd) X Y out) := by
  refine zRun_of (by decide +kernel) rfl rfl (Nat.le_of_ble_eq_true rfl) ?_
  suffices hs : ∀ (o9 : zO) (h9 : zH), (Sum.inr (some (.int (zCvl cart wov col lef c r w cnt v t))) : zO) = o9 → (zHp (c, r, w, lim, tol, cart, wov, lot, sew, mis, cnt, col, len, lef, sbt, shd) X Y out) = h9 → zPW G mX4_colorValue 0 0 o9 h9 0 0 0 [(0, .ref 1), (1, .int v), (2, .int t)] [] (zHp (c, r, w, lim, tol, cart, wov, lot, sew, mis, cnt, col, len, lef, sbt, shd) X Y out) from hs _ _ rfl rfl
  intro o9 h9 ho9 hh9
  refine z_iload_n 2 dX4_colorValue_0 rfl rfl ?_
  refine z_if_ne (tgt := 18) dX4_colorValue_1 (by decide) (fun c_1 => ?_) (fun c_1 => ?_)
  · skip
    refine z_iload_n 2 dX4_colorValue_18 rfl rfl ?_
    refine z_iconst (v := 1) dX4_colorValue_19 (by decide) ?_
    refine z_icmp_ne (tgt := 37) dX4_colorValue_20 (by decide) (fun c_20 => ?_) (fun c_20 => ?_)
    · skip
      refine z_iload_n 2 dX4_colorValue_37 rfl rfl ?_
      refine z_iconst (v := 2) dX4_colorValue_38 (by decide) ?_
      refine z_icmp_ne (tgt := 51) dX4_colorValue_39 (by decide) (fun c_39 => ?_) (fun c_39 => ?_)
      · skip
        refine z_iload_n 2 dX4_colorValue_51 rfl rfl ?_
        refine z_iconst (v := 3) dX4_colorValue_52 (by decide) ?_
        refine z_icmp_ne (tgt := 65) dX4_colorValue_53 (by decide) (fun c_53 => ?_) (fun c_53 => ?_)
        · skip
          refine z_iload_n 2 dX4_colorValue_65 rfl rfl ?_
          refine z_iconst (v := 4) dX4_colorValue_66 (by decide) ?_
          refine z_icmp_ne (tgt := 76) dX4_colorValue_67 (by decide) (fun c_67 => ?_) (fun c_67 => ?_)
          · skip
            refine z_aload_n 0 dX4_colorValue_76 rfl rfl ?_
            refine z_iload_n 1 dX4_colorValue_77 rfl rfl ?_
            refine z_callV (N := mX4_unitsToCome) 1 [.int v] [] lX4_unitsToCome ⟨zw_448, zw_449, zw_450⟩ rfl rfl rfl rfl (Nat.le_of_ble_eq_true rfl) (by decide) ⟨zlt, zlt⟩ ⟨Nat.zero_le _, Nat.zero_le _⟩ (fun _ => rfl) (c_unitsToCome hG hc hr hw hn v) dX4_colorValue_78 ?_
            exact z_iret rfl dX4_colorValue_81 (zo_i ho9 (by simp [zCvl, *])) (zo_h hh9 (by rfl)) (Nat.zero_le _) (Nat.zero_le _)
          · skip
            refine z_aload_n 0 dX4_colorValue_70 rfl rfl ?_
            refine z_iload_n 1 dX4_colorValue_71 rfl rfl ?_
            refine z_callV (N := mX4_wovenRuns) 1 [.int v] [] lX4_wovenRuns ⟨zw_440, zw_442, zw_24⟩ rfl rfl rfl rfl (Nat.le_of_ble_eq_true rfl) (by decide) ⟨zlt, zlt⟩ ⟨Nat.zero_le _, Nat.zero_le _⟩ (fun _ => rfl) (c_wovenRuns hG hc hr hw hn v) dX4_colorValue_72 ?_
            exact z_iret rfl dX4_colorValue_75 (zo_i ho9 (by simp [zCvl, *])) (zo_h hh9 (by rfl)) (Nat.zero_le _) (Nat.zero_le _)
        · skip
          refine z_aload_n 0 dX4_colorValue_56 rfl rfl ?_
          refine z_get (v := .ref 12) 10 rfl rfl inX4 (by decide) zw_145 rfl rfl dX4_colorValue_57 ?_
          refine z_iload_n 1 dX4_colorValue_60 rfl rfl ?_
          refine z_callV (N := mX5_countOf) 1 [.int v] [] lX5_countOf ⟨zw_436, zw_437, zw_438⟩ rfl rfl rfl rfl (Nat.le_of_ble_eq_true rfl) (by decide) ⟨zlt, zlt⟩ ⟨Nat.zero_le _, Nat.zero_le _⟩ (fun _ => rfl) (c_lCount hG hc hr hw hn v) dX4_colorValue_61 ?_
          exact z_iret rfl dX4_colorValue_64 (zo_i ho9 (by simp [zCvl, *])) (zo_h hh9 (by rfl)) (Nat.zero_le _) (Nat.zero_le _)
      · skip
        refine z_aload_n 0 dX4_colorValue_42 rfl rfl ?_
        refine z_get (v := .ref 12) 10 rfl rfl inX4 (by decide) zw_145 rfl rfl dX4_colorValue_43 ?_
        refine z_iload_n 1 dX4_colorValue_46 rfl rfl ?_
        refine z_callV (N := mX5_leftOf) 1 [.int v] [] lX5_leftOf ⟨zw_432, zw_433, zw_434⟩ rfl rfl rfl rfl (Nat.le_of_ble_eq_true rfl) (by decide) ⟨zlt, zlt⟩ ⟨Nat.zero_le _, Nat.zero_le _⟩ (fun _ => rfl) (c_lLeft hG hc hr hw hn v) dX4_colorValue_47 ?_
        exact z_iret rfl dX4_colorValue_50 (zo_i ho9 (by simp [zCvl, *])) (zo_h hh9 (by rfl)) (Nat.zero_le _) (Nat.zero_le _)
    · skip
      refine z_aload_n 0 dX4_colorValue_23 rfl rfl ?_
      refine z_aload_n 0 dX4_colorValue_24 rfl rfl ?_
      refine z_get (v := .ref 4) 6 rfl rfl inX4 (by decide) zw_141 rfl rfl dX4_colorValue_25 ?_
      refine z_iload_n 1 dX4_colorValue_28 rfl rfl ?_
      refine z_aload_n 0 dX4_colorValue_29 rfl rfl ?_
      refine z_get (v := .int (nI w)) 2 rfl rfl inX4 (by decide) zw_134 rfl rfl dX4_colorValue_30 ?_
      refine z_callV (N := mX4_cellsIn) 3 [.ref 4, .int v, .int (nI w)] [] lX4_cellsIn ⟨zw_292, zw_294, zw_5⟩ rfl rfl rfl rfl (Nat.le_of_ble_eq_true rfl) (by decide) ⟨zlt, zlt⟩ ⟨Nat.zero_le _, Nat.zero_le _⟩ (fun _ => rfl) (c_cellsIn4 hG hc hr hw hn v w (by omega)) dX4_colorValue_33 ?_
      exact z_iret rfl dX4_colorValue_36 (zo_i ho9 (by simp [zCvl, *])) (zo_h hh9 (by rfl)) (Nat.zero_le _) (Nat.zero_le _)
  · skip
    refine z_aload_n 0 dX4_colorValue_4 rfl rfl ?_
    refine z_aload_n 0 dX4_colorValue_5 rfl rfl ?_
    refine z_get (v := .ref 2) 5 rfl rfl inX4 (by decide) zw_139 rfl rfl dX4_colorValue_6 ?_
    refine z_iload_n 1 dX4_colorValue_9 rfl rfl ?_
    refine z_aload_n 0 dX4_colorValue_10 rfl rfl ?_
    refine z_get (v := .int (nI r)) 1 rfl rfl inX4 (by decide) zw_132 rfl rfl dX4_colorValue_11 ?_
    refine z_callV (N := mX4_cellsIn) 3 [.ref 2, .int v, .int (nI r)] [] lX4_cellsIn ⟨zw_292, zw_294, zw_5⟩ rfl rfl rfl rfl (Nat.le_of_ble_eq_true rfl) (by decide) ⟨zlt, zlt⟩ ⟨Nat.zero_le _, Nat.zero_le _⟩ (fun _ => rfl) (c_cellsIn2 hG hc hr hw hn v r (by omega)) dX4_colorValue_14 ?_
    exact z_iret rfl dX4_colorValue_17 (zo_i ho9 (by simp [zCvl, *])) (zo_h hh9 (by rfl)) (Nat.zero_le _) (Nat.zero_le _)

set_option maxHeartbeats 4000000 in
set_option maxRecDepth 100000 in
theorem c_slitValue {G : zT} {c r w lim cnt : Nat} {tol : Int32} {cart wov lot sew mis col len lef sbt : Nat → Int32} {shd : Nat → UInt32} {X : zXr} {Y : zYr} {out : Nat → Int64} (hG : zAl G = false) (hc : c ≤ 20) (hr : r ≤ 16) (hw : w ≤ r) (hn : cnt ≤ 16) (b t : Int32) (a : Nat) (ha : a ≤ 16) : zRun G mX4_slitValue 0 0 [.ref 1, .int b, .int (nI a), .int t] (zHp (c, r, w, lim, tol, cart, wov, lot, sew, mis, cnt, col, len, lef, sbt, shd) X Y out) (.inr (some (.int (zSlv wov sew c w b a t)))) (zHp (c, r, w, lim, tol, cart, wov, lot, sew, mis, cnt, col, len, lef, sbt, shd) X Y out) := by
  refine zRun_of (by decide +kernel) rfl rfl (Nat.le_of_ble_eq_true rfl) ?_
  suffices hs : ∀ (o9 : zO) (h9 : zH), (Sum.inr (some (.int (zSlv wov sew c w b a t))) : zO) = o9 → (zHp (c, r, w, lim, tol, cart, wov, lot, sew, mis, cnt, col, len, lef, sbt, shd) X Y out) = h9 → zPW G mX4_slitValue 0 0 o9 h9 0 0 0 [(0, .ref 1), (1, .int b), (2, .int (nI a)), (3, .int t)] [] (zHp (c, r, w, lim, tol, cart, wov, lot, sew, mis, cnt, col, len, lef, sbt, shd) X Y out) from hs _ _ rfl rfl
  intro o9 h9 ho9 hh9
  refine z_iload_n 3 dX4_slitValue_0 rfl rfl ?_
  refine z_if_ne (tgt := 6) dX4_slitValue_1 (by decide) (fun c_1 => ?_) (fun c_1 => ?_)
  · skip
    refine z_iload_n 3 dX4_slitValue_6 rfl rfl ?_
    refine z_iconst (v := 1) dX4_slitValue_7 (by decide) ?_
    refine z_icmp_ne (tgt := 13) dX4_slitValue_8 (by decide) (fun c_8 => ?_) (fun c_8 => ?_)
    · skip
      refine z_iload_n 3 dX4_slitValue_13 rfl rfl ?_
      refine z_iconst (v := 2) dX4_slitValue_14 (by decide) ?_
      refine z_icmp_ne (tgt := 29) dX4_slitValue_15 (by decide) (fun c_15 => ?_) (fun c_15 => ?_)
      · skip
        refine z_aload_n 0 dX4_slitValue_29 rfl rfl ?_
        refine z_iload_n 1 dX4_slitValue_30 rfl rfl ?_
        refine z_iload_n 2 dX4_slitValue_31 rfl rfl ?_
        refine z_callV (N := mX4_isSewn) 2 [.int b, .int (nI a)] [] lX4_isSewn ⟨zw_305, zw_307, zw_7⟩ rfl rfl rfl rfl (Nat.le_of_ble_eq_true rfl) (by decide) ⟨zlt, zlt⟩ ⟨Nat.zero_le _, Nat.zero_le _⟩ (fun _ => rfl) (c_isSewn hG hc hr hw hn b (nI a)) dX4_slitValue_32 ?_
        refine z_if_eq (tgt := 42) dX4_slitValue_35 (by decide) (fun c_35 => ?_) (fun c_35 => ?_)
        · skip
          have b_35 := zB_0.mp c_35
          refine z_iconst (v := 0) dX4_slitValue_42 (by decide) ?_
          exact z_iret rfl dX4_slitValue_43 (zo_i ho9 (by simp [zSlv, zB, *])) (zo_h hh9 (by rfl)) (Nat.zero_le _) (Nat.zero_le _)
        · skip
          have b_35 := zB_tt c_35
          refine z_iconst (v := 1) dX4_slitValue_38 (by decide) ?_
          refine z_goto (tgt := 43) dX4_slitValue_39 (by decide) ?_
          exact z_iret rfl dX4_slitValue_43 (zo_i ho9 (by simp [zSlv, zB, *])) (zo_h hh9 (by rfl)) (Nat.zero_le _) (Nat.zero_le _)
      · skip
        refine z_iload_n 2 dX4_slitValue_18 rfl rfl ?_
        refine z_aload_n 0 dX4_slitValue_19 rfl rfl ?_
        refine z_iload_n 1 dX4_slitValue_20 rfl rfl ?_
        refine z_iload_n 2 dX4_slitValue_21 rfl rfl ?_
        refine z_callV (N := mX4_slitRows) 2 [.int b, .int (nI a)] [.int (nI a)] lX4_slitRows ⟨zw_280, zw_281, zw_282⟩ rfl rfl rfl rfl (Nat.le_of_ble_eq_true rfl) (by decide) ⟨zlt, zlt⟩ ⟨Nat.zero_le _, Nat.zero_le _⟩ (fun _ => rfl) (c_slitRows hG hc hr hw hn b a (by omega)) dX4_slitValue_22 ?_
        refine z_iadd dX4_slitValue_25 ?_
        refine z_iconst (v := 1) dX4_slitValue_26 (by decide) ?_
        refine z_isub dX4_slitValue_27 ?_
        exact z_iret rfl dX4_slitValue_28 (zo_i ho9 (by simp [zSlv, zB, *])) (zo_h hh9 (by rfl)) (Nat.zero_le _) (Nat.zero_le _)
    · skip
      refine z_iload_n 2 dX4_slitValue_11 rfl rfl ?_
      exact z_iret rfl dX4_slitValue_12 (zo_i ho9 (by simp [zSlv, zB, *])) (zo_h hh9 (by rfl)) (Nat.zero_le _) (Nat.zero_le _)
  · skip
    refine z_iload_n 1 dX4_slitValue_4 rfl rfl ?_
    exact z_iret rfl dX4_slitValue_5 (zo_i ho9 (by simp [zSlv, zB, *])) (zo_h hh9 (by rfl)) (Nat.zero_le _) (Nat.zero_le _)

