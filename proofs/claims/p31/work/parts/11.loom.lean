def zWo (wov : Nat → Int32) (c w : Nat) (b y : Int32) : Int32 := if nI c ≤ b then -1 else if nI w ≤ y then -1 else zAt wov b y
/-- different colors at b and b + 1 of a woven row -/
def zPa (wov : Nat → Int32) (c w : Nat) (b y : Int32) : Bool := !(decide (nI w ≤ y)) && (!(decide (nI c ≤ b + 1)) && !(zAt wov b y == zAt wov (b + 1) y))
/-- how many in a row, from a on -/
def zLn (p : Nat → Bool) : Nat → Nat → Nat
  | _, 0 => 0
  | a, d + 1 => if p a then zLn p (a + 1) d + 1 else 0
def zRl (wov : Nat → Int32) (c w : Nat) (b : Int32) (a : Nat) : Nat := if zPa wov c w b (nI a - 1) then 0 else zLn (fun y => zPa wov c w b (nI y)) a (w - a)
theorem zLn_le (p : Nat → Bool) : ∀ d a : Nat, zLn p a d ≤ d
  | 0, _ => Nat.le_refl 0
  | d + 1, a => by have := zLn_le p d (a + 1); unfold zLn; split <;> omega
theorem zRl_le {wov : Nat → Int32} {c w : Nat} {b : Int32} {a : Nat} : zRl wov c w b a ≤ w := by
  unfold zRl; split
  · omega
  · exact Nat.le_trans (zLn_le _ _ _) (by omega)
def zCv (cart wov lot : Nat → Int32) (c w : Nat) (x y t : Int32) : Int32 := if t = 0 then zAt cart (nI c - 1 - x) y else if t = 1 then zWo wov c w (nI c - 1 - x) y else if t = 2 then (if zIn y (nI w) then zAt lot (nI c - 1 - x) y else -1) else nI c - 1 - x
def zWr (wov cart : Nat → Int32) (b y : Int32) : Bool := !(zAt wov b y == zAt cart b y)
def zWc9 (wov cart : Nat → Int32) (y : Int32) (c : Nat) : Nat := zCt (fun b => zWr wov cart (nI b) y) c
theorem zWc9_le (wov cart : Nat → Int32) (y : Int32) (c : Nat) : zWc9 wov cart y c ≤ c := zCt_le _ _
/-- no cell of the run from a on has its color in the row before, too -/
def zNr (wov : Nat → Int32) (y v : Int32) : Nat → Nat → Bool
  | _, 0 => true
  | a, d + 1 => if zAt wov (nI a) y = v then (if zAt wov (nI a) (y - 1) = v then false else zNr wov y v (a + 1) d) else true
def zNs (wov : Nat → Int32) (y : Int32) (c : Nat) : Nat := zCt (fun b => zSt wov (nI b) y && zNr wov y (zAt wov (nI b) y) b (c - b)) c
def zLr (lot : Nat → Int32) (y : Int32) (c n : Nat) : Nat := zCt (fun l => decide (0 < zCe lot (nI l) y c)) n
/-- the first of the rows from a on with a wrong cell -/
def zFw (wov cart : Nat → Int32) (c : Nat) : Nat → Nat → Int32
  | _, 0 => -1
  | a, d + 1 => if 0 < zWc9 wov cart (nI a) c then nI a else zFw wov cart c (a + 1) d
def zCi (f : Nat → Int32) (v : Int32) (c n : Nat) : Nat := zSN (fun y => zCe f v (nI y) c) n
def zUn (f : Nat → Int32) (v : Int32) (c y : Nat) : Nat := zCe f v (nI y) c + zRo f v (nI y) c
/-- rows that the yarn of v allows, from row a on, with x left -/
def zRy (cart : Nat → Int32) (v : Int32) (c : Nat) : Nat → Nat → Int32 → Nat
  | _, 0, _ => 0
  | a, d + 1, x => if x - nI (zUn cart v c a) < 0 then 0 else zRy cart v c (a + 1) d (x - nI (zUn cart v c a)) + 1
theorem zRy_le (cart : Nat → Int32) (v : Int32) (c : Nat) : ∀ d a x, zRy cart v c a d x ≤ d
  | 0, _, _ => Nat.le_refl 0
  | d + 1, a, x => by have := zRy_le cart v c d (a + 1) (x - nI (zUn cart v c a)); unfold zRy; split <;> omega
theorem zCe_le (f : Nat → Int32) (v y : Int32) (c : Nat) : zCe f v y c ≤ c := zCt_le _ _
theorem zRo_le (f : Nat → Int32) (v y : Int32) (c : Nat) : zRo f v y c ≤ c := zCt_le _ _

set_option maxHeartbeats 4000000 in
set_option maxRecDepth 100000 in
theorem c_isSewn {G : zT} {c r w lim cnt : Nat} {tol : Int32} {cart wov lot sew mis col len lef sbt : Nat → Int32} {shd : Nat → UInt32} {X : zXr} {Y : zYr} {out : Nat → Int64} (hG : zAl G = false) (hc : c ≤ 20) (hr : r ≤ 16) (hw : w ≤ r) (hn : cnt ≤ 16) (b y : Int32) : zRun G mX4_isSewn 0 0 [.ref 1, .int b, .int y] (zHp (c, r, w, lim, tol, cart, wov, lot, sew, mis, cnt, col, len, lef, sbt, shd) X Y out) (.inr (some (.int (zB (zAt sew b y == 1))))) (zHp (c, r, w, lim, tol, cart, wov, lot, sew, mis, cnt, col, len, lef, sbt, shd) X Y out) := by
  refine zRun_of (by decide +kernel) rfl rfl (Nat.le_of_ble_eq_true rfl) ?_
  suffices hs : ∀ (o9 : zO) (h9 : zH), (Sum.inr (some (.int (zB (zAt sew b y == 1)))) : zO) = o9 → (zHp (c, r, w, lim, tol, cart, wov, lot, sew, mis, cnt, col, len, lef, sbt, shd) X Y out) = h9 → zPW G mX4_isSewn 0 0 o9 h9 0 0 0 [(0, .ref 1), (1, .int b), (2, .int y)] [] (zHp (c, r, w, lim, tol, cart, wov, lot, sew, mis, cnt, col, len, lef, sbt, shd) X Y out) from hs _ _ rfl rfl
  intro o9 h9 ho9 hh9
  refine z_aload_n 0 dX4_isSewn_0 rfl rfl ?_
  refine z_get (v := .ref 8) 8 rfl rfl inX4 (by decide) zw_143 rfl rfl dX4_isSewn_1 ?_
  refine z_iload_n 1 dX4_isSewn_4 rfl rfl ?_
  refine z_iload_n 2 dX4_isSewn_5 rfl rfl ?_
  refine z_callV (N := mX2_at) 2 [.int b, .int y] [] lX2_at ⟨zw_272, zw_273, zw_274⟩ rfl rfl rfl rfl (Nat.le_of_ble_eq_true rfl) (by decide) ⟨zlt, zlt⟩ ⟨Nat.zero_le _, Nat.zero_le _⟩ (fun _ => rfl) (c_gAt (g := 8) (v := 9) (f := sew) hG zlt rfl rfl b y) dX4_isSewn_6 ?_
  refine z_iconst (v := 1) dX4_isSewn_9 (by decide) ?_
  refine z_icmp_ne (tgt := 17) dX4_isSewn_10 (by decide) (fun c_10 => ?_) (fun c_10 => ?_)
  · skip
    refine z_iconst (v := 0) dX4_isSewn_17 (by decide) ?_
    exact z_zret rfl (by rfl) dX4_isSewn_18 (zo_i ho9 (by simp [zB, *])) (zo_h hh9 (by rfl)) (Nat.zero_le _) (Nat.zero_le _)
  · skip
    refine z_iconst (v := 1) dX4_isSewn_13 (by decide) ?_
    refine z_goto (tgt := 18) dX4_isSewn_14 (by decide) ?_
    exact z_zret rfl (by rfl) dX4_isSewn_18 (zo_i ho9 (by simp [zB, *])) (zo_h hh9 (by rfl)) (Nat.zero_le _) (Nat.zero_le _)

set_option maxHeartbeats 4000000 in
set_option maxRecDepth 100000 in
theorem c_parts {G : zT} {c r w lim cnt : Nat} {tol : Int32} {cart wov lot sew mis col len lef sbt : Nat → Int32} {shd : Nat → UInt32} {X : zXr} {Y : zYr} {out : Nat → Int64} (hG : zAl G = false) (hc : c ≤ 20) (hr : r ≤ 16) (hw : w ≤ r) (hn : cnt ≤ 16) (b y : Int32) : zRun G mX4_parts 0 0 [.ref 1, .int b, .int y] (zHp (c, r, w, lim, tol, cart, wov, lot, sew, mis, cnt, col, len, lef, sbt, shd) X Y out) (.inr (some (.int (zB (zPa wov c w b y))))) (zHp (c, r, w, lim, tol, cart, wov, lot, sew, mis, cnt, col, len, lef, sbt, shd) X Y out) := by
  refine zRun_of (by decide +kernel) rfl rfl (Nat.le_of_ble_eq_true rfl) ?_
  suffices hs : ∀ (o9 : zO) (h9 : zH), (Sum.inr (some (.int (zB (zPa wov c w b y)))) : zO) = o9 → (zHp (c, r, w, lim, tol, cart, wov, lot, sew, mis, cnt, col, len, lef, sbt, shd) X Y out) = h9 → zPW G mX4_parts 0 0 o9 h9 0 0 0 [(0, .ref 1), (1, .int b), (2, .int y)] [] (zHp (c, r, w, lim, tol, cart, wov, lot, sew, mis, cnt, col, len, lef, sbt, shd) X Y out) from hs _ _ rfl rfl
  intro o9 h9 ho9 hh9
  refine z_iload_n 2 dX4_parts_0 rfl rfl ?_
  refine z_aload_n 0 dX4_parts_1 rfl rfl ?_
  refine z_get (v := .int (nI w)) 2 rfl rfl inX4 (by decide) zw_134 rfl rfl dX4_parts_2 ?_
  refine z_icmp_ge (tgt := 45) dX4_parts_5 (by decide) (fun c_5 => ?_) (fun c_5 => ?_)
  · skip
    refine z_iconst (v := 0) dX4_parts_45 (by decide) ?_
    exact z_zret rfl (by rfl) dX4_parts_46 (zo_i ho9 (by simp [zB, zPa, *])) (zo_h hh9 (by rfl)) (Nat.zero_le _) (Nat.zero_le _)
  · skip
    refine z_iload_n 1 dX4_parts_8 rfl rfl ?_
    refine z_iconst (v := 1) dX4_parts_9 (by decide) ?_
    refine z_iadd dX4_parts_10 ?_
    refine z_aload_n 0 dX4_parts_11 rfl rfl ?_
    refine z_get (v := .int (nI c)) 0 rfl rfl inX4 (by decide) zw_130 rfl rfl dX4_parts_12 ?_
    refine z_icmp_ge (tgt := 45) dX4_parts_15 (by decide) (fun c_15 => ?_) (fun c_15 => ?_)
    · skip
      refine z_iconst (v := 0) dX4_parts_45 (by decide) ?_
      exact z_zret rfl (by rfl) dX4_parts_46 (zo_i ho9 (by simp [zB, zPa, *])) (zo_h hh9 (by rfl)) (Nat.zero_le _) (Nat.zero_le _)
    · skip
      refine z_aload_n 0 dX4_parts_18 rfl rfl ?_
      refine z_get (v := .ref 4) 6 rfl rfl inX4 (by decide) zw_141 rfl rfl dX4_parts_19 ?_
      refine z_iload_n 1 dX4_parts_22 rfl rfl ?_
      refine z_iload_n 2 dX4_parts_23 rfl rfl ?_
      refine z_callV (N := mX2_at) 2 [.int b, .int y] [] lX2_at ⟨zw_272, zw_273, zw_274⟩ rfl rfl rfl rfl (Nat.le_of_ble_eq_true rfl) (by decide) ⟨zlt, zlt⟩ ⟨Nat.zero_le _, Nat.zero_le _⟩ (fun _ => rfl) (c_gAt (g := 4) (v := 5) (f := wov) hG zlt rfl rfl b y) dX4_parts_24 ?_
      refine z_aload_n 0 dX4_parts_27 rfl rfl ?_
      refine z_get (v := .ref 4) 6 rfl rfl inX4 (by decide) zw_141 rfl rfl dX4_parts_28 ?_
      refine z_iload_n 1 dX4_parts_31 rfl rfl ?_
      refine z_iconst (v := 1) dX4_parts_32 (by decide) ?_
      refine z_iadd dX4_parts_33 ?_
      refine z_iload_n 2 dX4_parts_34 rfl rfl ?_
      refine z_callV (N := mX2_at) 2 [.int (b + 1), .int y] [.int (zAt wov b y)] lX2_at ⟨zw_272, zw_273, zw_274⟩ rfl rfl rfl rfl (Nat.le_of_ble_eq_true rfl) (by decide) ⟨zlt, zlt⟩ ⟨Nat.zero_le _, Nat.zero_le _⟩ (fun _ => rfl) (c_gAt (g := 4) (v := 5) (f := wov) hG zlt rfl rfl (b + 1) y) dX4_parts_35 ?_
      refine z_icmp_eq (tgt := 45) dX4_parts_38 (by decide) (fun c_38 => ?_) (fun c_38 => ?_)
      · skip
        refine z_iconst (v := 0) dX4_parts_45 (by decide) ?_
        exact z_zret rfl (by rfl) dX4_parts_46 (zo_i ho9 (by simp [zB, zPa, *])) (zo_h hh9 (by rfl)) (Nat.zero_le _) (Nat.zero_le _)
      · skip
        refine z_iconst (v := 1) dX4_parts_41 (by decide) ?_
        refine z_goto (tgt := 46) dX4_parts_42 (by decide) ?_
        exact z_zret rfl (by rfl) dX4_parts_46 (zo_i ho9 (by simp [zB, zPa, *])) (zo_h hh9 (by rfl)) (Nat.zero_le _) (Nat.zero_le _)

set_option maxHeartbeats 4000000 in
set_option maxRecDepth 100000 in
theorem c_slitRows {G : zT} {c r w lim cnt : Nat} {tol : Int32} {cart wov lot sew mis col len lef sbt : Nat → Int32} {shd : Nat → UInt32} {X : zXr} {Y : zYr} {out : Nat → Int64} (hG : zAl G = false) (hc : c ≤ 20) (hr : r ≤ 16) (hw : w ≤ r) (hn : cnt ≤ 16) (b : Int32) (a : Nat) (ha : a ≤ 16) : zRun G mX4_slitRows 0 0 [.ref 1, .int b, .int (nI a)] (zHp (c, r, w, lim, tol, cart, wov, lot, sew, mis, cnt, col, len, lef, sbt, shd) X Y out) (.inr (some (.int (nI (zRl wov c w b a))))) (zHp (c, r, w, lim, tol, cart, wov, lot, sew, mis, cnt, col, len, lef, sbt, shd) X Y out) := by
  refine zRun_of (by decide +kernel) rfl rfl (Nat.le_of_ble_eq_true rfl) ?_
  suffices hs : ∀ (o9 : zO) (h9 : zH), (Sum.inr (some (.int (nI (zRl wov c w b a)))) : zO) = o9 → (zHp (c, r, w, lim, tol, cart, wov, lot, sew, mis, cnt, col, len, lef, sbt, shd) X Y out) = h9 → zPW G mX4_slitRows 0 0 o9 h9 0 0 0 [(0, .ref 1), (1, .int b), (2, .int (nI a))] [] (zHp (c, r, w, lim, tol, cart, wov, lot, sew, mis, cnt, col, len, lef, sbt, shd) X Y out) from hs _ _ rfl rfl
  intro o9 h9 ho9 hh9
  refine z_aload_n 0 dX4_slitRows_0 rfl rfl ?_
  refine z_iload_n 1 dX4_slitRows_1 rfl rfl ?_
  refine z_iload_n 2 dX4_slitRows_2 rfl rfl ?_
  refine z_iconst (v := 1) dX4_slitRows_3 (by decide) ?_
  refine z_isub dX4_slitRows_4 ?_
  refine z_callV (N := mX4_parts) 2 [.int b, .int ((nI a) - 1)] [] lX4_parts ⟨zw_284, zw_286, zw_3⟩ rfl rfl rfl rfl (Nat.le_of_ble_eq_true rfl) (by decide) ⟨zlt, zlt⟩ ⟨Nat.zero_le _, Nat.zero_le _⟩ (fun _ => rfl) (c_parts hG hc hr hw hn b ((nI a) - 1)) dX4_slitRows_5 ?_
  refine z_if_eq (tgt := 13) dX4_slitRows_8 (by decide) (fun c_8 => ?_) (fun c_8 => ?_)
  · skip
    have b_8 := zB_0.mp c_8
    refine z_iconst (v := 0) dX4_slitRows_13 (by decide) ?_
    refine z_istore_n (lv' := [(3, .int 0), (0, .ref 1), (1, .int b), (2, .int (nI a))]) dX4_slitRows_14 rfl (by decide) rfl ?_
    refine z_iload_n 3 dX4_slitRows_15 rfl rfl ?_
    refine z_istore (lv' := [(4, .int (nI a)), (3, .int 0), (0, .ref 1), (1, .int b), (2, .int (nI a))]) dX4_slitRows_16 (by decide) rfl ?_
    have L18_1 : ∀ (d k : Nat), k ≤ 16 → 16 + 1 ≤ k + d → a ≤ k → zLn (fun y => zPa wov c w b (nI y)) a (w - a) = (k - a) + zLn (fun y => zPa wov c w b (nI y)) k (w - k) → zPW G mX4_slitRows 0 0 o9 h9 0 0 18 [(4, .int (nI k)), (3, .int (nI (k - a))), (0, .ref 1), (1, .int b), (2, .int (nI a))] [] (zHp (c, r, w, lim, tol, cart, wov, lot, sew, mis, cnt, col, len, lef, sbt, shd) X Y out) := by
      intro d
      induction d with
      | zero => intro k hk hd; exact absurd hd (by omega)
      | succ d ih =>
        intro k hk_k hd_k ha_k he_k
        have ih18 := ih
        clear ih
        refine z_iload 0 dX4_slitRows_18 rfl ?_
        refine z_aload_n 2 dX4_slitRows_20 rfl rfl ?_
        refine z_get (v := .int (nI w)) 2 rfl rfl inX4 (by decide) zw_134 rfl rfl dX4_slitRows_21 ?_
        refine z_icmp_ge (tgt := 46) dX4_slitRows_24 (by decide) (fun c_24 => ?_) (fun c_24 => ?_)
        · skip
          have hx_k : w ≤ k := (nI_leI (by omega) (by omega)).mp c_24
          refine z_iload_n 1 dX4_slitRows_46 rfl rfl ?_
          exact z_iret rfl dX4_slitRows_47 (zo_i ho9 (by rw [zRl, if_neg (by simp [*]), he_k]; first | (rw [show w - k = 0 by omega, zLn]; rfl) | (rw [show w - k = (w - (k + 1)) + 1 by omega, zLn, if_neg (by simp [*])]; rfl))) (zo_h hh9 (by rfl)) (Nat.zero_le _) (Nat.zero_le _)
        · skip
          have hx_k : k < w := by
            have : ¬ w ≤ k := fun q => c_24 ((nI_leI (by omega) (by omega)).mpr q)
            omega
          refine z_aload_n 2 dX4_slitRows_27 rfl rfl ?_
          refine z_iload_n 3 dX4_slitRows_28 rfl rfl ?_
          refine z_iload 0 dX4_slitRows_29 rfl ?_
          refine z_callV (N := mX4_parts) 2 [.int b, .int (nI k)] [] lX4_parts ⟨zw_284, zw_286, zw_3⟩ rfl rfl rfl rfl (Nat.le_of_ble_eq_true rfl) (by decide) ⟨zlt, zlt⟩ ⟨Nat.zero_le _, Nat.zero_le _⟩ (fun _ => rfl) (c_parts hG hc hr hw hn b (nI k)) dX4_slitRows_31 ?_
          refine z_if_eq (tgt := 46) dX4_slitRows_34 (by decide) (fun c_34 => ?_) (fun c_34 => ?_)
          · skip
            have b_34 := zB_0.mp c_34
            refine z_iload_n 1 dX4_slitRows_46 rfl rfl ?_
            exact z_iret rfl dX4_slitRows_47 (zo_i ho9 (by rw [zRl, if_neg (by simp [*]), he_k]; first | (rw [show w - k = 0 by omega, zLn]; rfl) | (rw [show w - k = (w - (k + 1)) + 1 by omega, zLn, if_neg (by simp [*])]; rfl))) (zo_h hh9 (by rfl)) (Nat.zero_le _) (Nat.zero_le _)
          · skip
            have b_34 := zB_tt c_34
            refine z_iinc (v := nI ((k - a) + 1)) (lv' := [(3, .int (nI ((k - a) + 1))), (4, .int (nI k)), (0, .ref 1), (1, .int b), (2, .int (nI a))]) 1 dX4_slitRows_37 rfl (nI_1 (k - a)) (by decide) rfl ?_
            refine z_iinc (v := nI (k + 1)) (lv' := [(4, .int (nI (k + 1))), (3, .int (nI ((k - a) + 1))), (0, .ref 1), (1, .int b), (2, .int (nI a))]) 1 dX4_slitRows_40 rfl (nI_1 k) (by decide) rfl ?_
            refine z_goto (tgt := 18) dX4_slitRows_43 (by decide) ?_
            refine z_sub [0, 1, 2, 3, 4] (lv' := [(4, .int (nI (k + 1))), (3, .int (nI ((k - a) + 1))), (0, .ref 1), (1, .int b), (2, .int (nI a))]) rfl ?_
            refine z_eqs (lv2 := [(4, .int (nI (k + 1))), (3, .int (nI ((k + 1) - a))), (0, .ref 1), (1, .int b), (2, .int (nI a))]) (h2 := (zHp (c, r, w, lim, tol, cart, wov, lot, sew, mis, cnt, col, len, lef, sbt, shd) X Y out)) (by rw [show k + 1 - a = k - a + 1 by omega]) (by rfl) ?_
            exact ih18 (k + 1) (by omega) (by omega) (by omega) (by rw [he_k, show w - k = (w - (k + 1)) + 1 by omega, zLn, if_pos (by assumption)]; omega)
    refine z_sub [0, 1, 2, 3, 4] (lv' := [(4, .int (nI a)), (3, .int 0), (0, .ref 1), (1, .int b), (2, .int (nI a))]) rfl ?_
    refine z_eqs (lv2 := [(4, .int (nI a)), (3, .int (nI (a - a))), (0, .ref 1), (1, .int b), (2, .int (nI a))]) (h2 := (zHp (c, r, w, lim, tol, cart, wov, lot, sew, mis, cnt, col, len, lef, sbt, shd) X Y out)) (by rw [Nat.sub_self]; rfl) (by rfl) ?_
    exact L18_1 (16 + 1) a ha (by omega) (Nat.le_refl _) (by rw [Nat.sub_self, Nat.zero_add])
  · skip
    have b_8 := zB_tt c_8
    refine z_iconst (v := 0) dX4_slitRows_11 (by decide) ?_
    exact z_iret rfl dX4_slitRows_12 (zo_i ho9 (by rw [zRl, if_pos (by simp [*])]; rfl)) (zo_h hh9 (by rfl)) (Nat.zero_le _) (Nat.zero_le _)

set_option maxHeartbeats 4000000 in
set_option maxRecDepth 100000 in
theorem c_hasCell {G : zT} {c r w lim cnt : Nat} {tol : Int32} {cart wov lot sew mis col len lef sbt : Nat → Int32} {shd : Nat → UInt32} {X : zXr} {Y : zYr} {out : Nat → Int64} (hG : zAl G = false) (hc : c ≤ 20) (hr : r ≤ 16) (hw : w ≤ r) (hn : cnt ≤ 16) (x y : Int32) : zRun G mX4_hasCell 0 0 [.ref 1, .int x, .int y] (zHp (c, r, w, lim, tol, cart, wov, lot, sew, mis, cnt, col, len, lef, sbt, shd) X Y out) (.inr (some (.int (zB (zFr 0 x (nI c - 1) && zFr 0 y (nI r - 1)))))) (zHp (c, r, w, lim, tol, cart, wov, lot, sew, mis, cnt, col, len, lef, sbt, shd) X Y out) := by
  refine zRun_of (by decide +kernel) rfl rfl (Nat.le_of_ble_eq_true rfl) ?_
  suffices hs : ∀ (o9 : zO) (h9 : zH), (Sum.inr (some (.int (zB (zFr 0 x (nI c - 1) && zFr 0 y (nI r - 1))))) : zO) = o9 → (zHp (c, r, w, lim, tol, cart, wov, lot, sew, mis, cnt, col, len, lef, sbt, shd) X Y out) = h9 → zPW G mX4_hasCell 0 0 o9 h9 0 0 0 [(0, .ref 1), (1, .int x), (2, .int y)] [] (zHp (c, r, w, lim, tol, cart, wov, lot, sew, mis, cnt, col, len, lef, sbt, shd) X Y out) from hs _ _ rfl rfl
  intro o9 h9 ho9 hh9
  refine z_iconst (v := 0) dX4_hasCell_0 (by decide) ?_
  refine z_iload_n 1 dX4_hasCell_1 rfl rfl ?_
  refine z_aload_n 0 dX4_hasCell_2 rfl rfl ?_
  refine z_get (v := .int (nI c)) 0 rfl rfl inX4 (by decide) zw_130 rfl rfl dX4_hasCell_3 ?_
  refine z_iconst (v := 1) dX4_hasCell_6 (by decide) ?_
  refine z_isub dX4_hasCell_7 ?_
  refine z_callSN (N := mX9_isFrom) 3 [.int 0, .int x, .int ((nI c) - 1)] [] lX9_isFrom ⟨by decide, zw_493⟩ rfl rfl (Nat.le_of_ble_eq_true rfl) (by decide) ⟨zlt, zlt⟩ hG ⟨Nat.zero_le _, Nat.zero_le _⟩ (c_isFrom hG zlt 0 x ((nI c) - 1)) dX4_hasCell_8 ?_
  refine z_if_eq (tgt := 32) dX4_hasCell_11 (by decide) (fun c_11 => ?_) (fun c_11 => ?_)
  · skip
    have b_11 := zB_0.mp c_11
    refine z_iconst (v := 0) dX4_hasCell_32 (by decide) ?_
    exact z_zret rfl (by rfl) dX4_hasCell_33 (zo_i ho9 (by simp [zB, *])) (zo_h hh9 (by rfl)) (Nat.zero_le _) (Nat.zero_le _)
  · skip
    have b_11 := zB_tt c_11
    refine z_iconst (v := 0) dX4_hasCell_14 (by decide) ?_
    refine z_iload_n 2 dX4_hasCell_15 rfl rfl ?_
    refine z_aload_n 0 dX4_hasCell_16 rfl rfl ?_
    refine z_get (v := .int (nI r)) 1 rfl rfl inX4 (by decide) zw_132 rfl rfl dX4_hasCell_17 ?_
    refine z_iconst (v := 1) dX4_hasCell_20 (by decide) ?_
    refine z_isub dX4_hasCell_21 ?_
    refine z_callSN (N := mX9_isFrom) 3 [.int 0, .int y, .int ((nI r) - 1)] [] lX9_isFrom ⟨by decide, zw_493⟩ rfl rfl (Nat.le_of_ble_eq_true rfl) (by decide) ⟨zlt, zlt⟩ hG ⟨Nat.zero_le _, Nat.zero_le _⟩ (c_isFrom hG zlt 0 y ((nI r) - 1)) dX4_hasCell_22 ?_
    refine z_if_eq (tgt := 32) dX4_hasCell_25 (by decide) (fun c_25 => ?_) (fun c_25 => ?_)
    · skip
      have b_25 := zB_0.mp c_25
      refine z_iconst (v := 0) dX4_hasCell_32 (by decide) ?_
      exact z_zret rfl (by rfl) dX4_hasCell_33 (zo_i ho9 (by simp [zB, *])) (zo_h hh9 (by rfl)) (Nat.zero_le _) (Nat.zero_le _)
    · skip
      have b_25 := zB_tt c_25
      refine z_iconst (v := 1) dX4_hasCell_28 (by decide) ?_
      refine z_goto (tgt := 33) dX4_hasCell_29 (by decide) ?_
      exact z_zret rfl (by rfl) dX4_hasCell_33 (zo_i ho9 (by simp [zB, *])) (zo_h hh9 (by rfl)) (Nat.zero_le _) (Nat.zero_le _)

set_option maxHeartbeats 4000000 in
set_option maxRecDepth 100000 in
theorem c_isWoven {G : zT} {c r w lim cnt : Nat} {tol : Int32} {cart wov lot sew mis col len lef sbt : Nat → Int32} {shd : Nat → UInt32} {X : zXr} {Y : zYr} {out : Nat → Int64} (hG : zAl G = false) (hc : c ≤ 20) (hr : r ≤ 16) (hw : w ≤ r) (hn : cnt ≤ 16) (y : Int32) : zRun G mX4_isWoven 0 0 [.ref 1, .int y] (zHp (c, r, w, lim, tol, cart, wov, lot, sew, mis, cnt, col, len, lef, sbt, shd) X Y out) (.inr (some (.int (zB (zIn y (nI w)))))) (zHp (c, r, w, lim, tol, cart, wov, lot, sew, mis, cnt, col, len, lef, sbt, shd) X Y out) := by
  refine zRun_of (by decide +kernel) rfl rfl (Nat.le_of_ble_eq_true rfl) ?_
  suffices hs : ∀ (o9 : zO) (h9 : zH), (Sum.inr (some (.int (zB (zIn y (nI w))))) : zO) = o9 → (zHp (c, r, w, lim, tol, cart, wov, lot, sew, mis, cnt, col, len, lef, sbt, shd) X Y out) = h9 → zPW G mX4_isWoven 0 0 o9 h9 0 0 0 [(0, .ref 1), (1, .int y)] [] (zHp (c, r, w, lim, tol, cart, wov, lot, sew, mis, cnt, col, len, lef, sbt, shd) X Y out) from hs _ _ rfl rfl
  intro o9 h9 ho9 hh9
  refine z_iload_n 1 dX4_isWoven_0 rfl rfl ?_
  refine z_if_lt (tgt := 16) dX4_isWoven_1 (by decide) (fun c_1 => ?_) (fun c_1 => ?_)
  · skip
    refine z_iconst (v := 0) dX4_isWoven_16 (by decide) ?_
    exact z_zret rfl (by rfl) dX4_isWoven_17 (zo_i ho9 (by simp [zB, zIn, *])) (zo_h hh9 (by rfl)) (Nat.zero_le _) (Nat.zero_le _)
  · skip
    refine z_iload_n 1 dX4_isWoven_4 rfl rfl ?_
    refine z_aload_n 0 dX4_isWoven_5 rfl rfl ?_
    refine z_get (v := .int (nI w)) 2 rfl rfl inX4 (by decide) zw_134 rfl rfl dX4_isWoven_6 ?_
    refine z_icmp_ge (tgt := 16) dX4_isWoven_9 (by decide) (fun c_9 => ?_) (fun c_9 => ?_)
    · skip
      refine z_iconst (v := 0) dX4_isWoven_16 (by decide) ?_
      exact z_zret rfl (by rfl) dX4_isWoven_17 (zo_i ho9 (by simp [zB, zIn, *])) (zo_h hh9 (by rfl)) (Nat.zero_le _) (Nat.zero_le _)
    · skip
      refine z_iconst (v := 1) dX4_isWoven_12 (by decide) ?_
      refine z_goto (tgt := 17) dX4_isWoven_13 (by decide) ?_
      exact z_zret rfl (by rfl) dX4_isWoven_17 (zo_i ho9 (by simp [zB, zIn, *])) (zo_h hh9 (by rfl)) (Nat.zero_le _) (Nat.zero_le _)

set_option maxHeartbeats 4000000 in
set_option maxRecDepth 100000 in
theorem c_mirror {G : zT} {c r w lim cnt : Nat} {tol : Int32} {cart wov lot sew mis col len lef sbt : Nat → Int32} {shd : Nat → UInt32} {X : zXr} {Y : zYr} {out : Nat → Int64} (hG : zAl G = false) (hc : c ≤ 20) (hr : r ≤ 16) (hw : w ≤ r) (hn : cnt ≤ 16) (x : Int32) : zRun G mX4_mirror 0 0 [.ref 1, .int x] (zHp (c, r, w, lim, tol, cart, wov, lot, sew, mis, cnt, col, len, lef, sbt, shd) X Y out) (.inr (some (.int (nI c - 1 - x)))) (zHp (c, r, w, lim, tol, cart, wov, lot, sew, mis, cnt, col, len, lef, sbt, shd) X Y out) := by
  refine zRun_of (by decide +kernel) rfl rfl (Nat.le_of_ble_eq_true rfl) ?_
  suffices hs : ∀ (o9 : zO) (h9 : zH), (Sum.inr (some (.int (nI c - 1 - x))) : zO) = o9 → (zHp (c, r, w, lim, tol, cart, wov, lot, sew, mis, cnt, col, len, lef, sbt, shd) X Y out) = h9 → zPW G mX4_mirror 0 0 o9 h9 0 0 0 [(0, .ref 1), (1, .int x)] [] (zHp (c, r, w, lim, tol, cart, wov, lot, sew, mis, cnt, col, len, lef, sbt, shd) X Y out) from hs _ _ rfl rfl
  intro o9 h9 ho9 hh9
  refine z_aload_n 0 dX4_mirror_0 rfl rfl ?_
  refine z_get (v := .int (nI c)) 0 rfl rfl inX4 (by decide) zw_130 rfl rfl dX4_mirror_1 ?_
  refine z_iconst (v := 1) dX4_mirror_4 (by decide) ?_
  refine z_isub dX4_mirror_5 ?_
  refine z_iload_n 1 dX4_mirror_6 rfl rfl ?_
  refine z_isub dX4_mirror_7 ?_
  exact z_iret rfl dX4_mirror_8 (zo_i ho9 (by rfl)) (zo_h hh9 (by rfl)) (Nat.zero_le _) (Nat.zero_le _)

set_option maxHeartbeats 4000000 in
set_option maxRecDepth 100000 in
theorem c_wovenColor {G : zT} {c r w lim cnt : Nat} {tol : Int32} {cart wov lot sew mis col len lef sbt : Nat → Int32} {shd : Nat → UInt32} {X : zXr} {Y : zYr} {out : Nat → Int64} (hG : zAl G = false) (hc : c ≤ 20) (hr : r ≤ 16) (hw : w ≤ r) (hn : cnt ≤ 16) (b y : Int32) : zRun G mX4_wovenColor 0 0 [.ref 1, .int b, .int y] (zHp (c, r, w, lim, tol, cart, wov, lot, sew, mis, cnt, col, len, lef, sbt, shd) X Y out) (.inr (some (.int (zWo wov c w b y)))) (zHp (c, r, w, lim, tol, cart, wov, lot, sew, mis, cnt, col, len, lef, sbt, shd) X Y out) := by
  refine zRun_of (by decide +kernel) rfl rfl (Nat.le_of_ble_eq_true rfl) ?_
  suffices hs : ∀ (o9 : zO) (h9 : zH), (Sum.inr (some (.int (zWo wov c w b y))) : zO) = o9 → (zHp (c, r, w, lim, tol, cart, wov, lot, sew, mis, cnt, col, len, lef, sbt, shd) X Y out) = h9 → zPW G mX4_wovenColor 0 0 o9 h9 0 0 0 [(0, .ref 1), (1, .int b), (2, .int y)] [] (zHp (c, r, w, lim, tol, cart, wov, lot, sew, mis, cnt, col, len, lef, sbt, shd) X Y out) from hs _ _ rfl rfl
  intro o9 h9 ho9 hh9
  refine z_iload_n 1 dX4_wovenColor_0 rfl rfl ?_
  refine z_aload_n 0 dX4_wovenColor_1 rfl rfl ?_
  refine z_get (v := .int (nI c)) 0 rfl rfl inX4 (by decide) zw_130 rfl rfl dX4_wovenColor_2 ?_
  refine z_icmp_ge (tgt := 28) dX4_wovenColor_5 (by decide) (fun c_5 => ?_) (fun c_5 => ?_)
  · skip
    refine z_iconst (v := (-1)) dX4_wovenColor_28 (by decide) ?_
    exact z_iret rfl dX4_wovenColor_29 (zo_i ho9 (by simp [zWo, *])) (zo_h hh9 (by rfl)) (Nat.zero_le _) (Nat.zero_le _)
  · skip
    refine z_iload_n 2 dX4_wovenColor_8 rfl rfl ?_
    refine z_aload_n 0 dX4_wovenColor_9 rfl rfl ?_
    refine z_get (v := .int (nI w)) 2 rfl rfl inX4 (by decide) zw_134 rfl rfl dX4_wovenColor_10 ?_
    refine z_icmp_ge (tgt := 28) dX4_wovenColor_13 (by decide) (fun c_13 => ?_) (fun c_13 => ?_)
    · skip
      refine z_iconst (v := (-1)) dX4_wovenColor_28 (by decide) ?_
      exact z_iret rfl dX4_wovenColor_29 (zo_i ho9 (by simp [zWo, *])) (zo_h hh9 (by rfl)) (Nat.zero_le _) (Nat.zero_le _)
    · skip
      refine z_aload_n 0 dX4_wovenColor_16 rfl rfl ?_
      refine z_get (v := .ref 4) 6 rfl rfl inX4 (by decide) zw_141 rfl rfl dX4_wovenColor_17 ?_
      refine z_iload_n 1 dX4_wovenColor_20 rfl rfl ?_
      refine z_iload_n 2 dX4_wovenColor_21 rfl rfl ?_
      refine z_callV (N := mX2_at) 2 [.int b, .int y] [] lX2_at ⟨zw_272, zw_273, zw_274⟩ rfl rfl rfl rfl (Nat.le_of_ble_eq_true rfl) (by decide) ⟨zlt, zlt⟩ ⟨Nat.zero_le _, Nat.zero_le _⟩ (fun _ => rfl) (c_gAt (g := 4) (v := 5) (f := wov) hG zlt rfl rfl b y) dX4_wovenColor_22 ?_
      refine z_goto (tgt := 29) dX4_wovenColor_25 (by decide) ?_
      exact z_iret rfl dX4_wovenColor_29 (zo_i ho9 (by simp [zWo, *])) (zo_h hh9 (by rfl)) (Nat.zero_le _) (Nat.zero_le _)

set_option maxHeartbeats 4000000 in
set_option maxRecDepth 100000 in
theorem c_shadeAt {G : zT} {c r w lim cnt : Nat} {tol : Int32} {cart wov lot sew mis col len lef sbt : Nat → Int32} {shd : Nat → UInt32} {X : zXr} {Y : zYr} {out : Nat → Int64} (hG : zAl G = false) (hc : c ≤ 20) (hr : r ≤ 16) (hw : w ≤ r) (hn : cnt ≤ 16) (b y : Int32) : zRun G mX4_shadeAt 0 0 [.ref 1, .int b, .int y] (zHp (c, r, w, lim, tol, cart, wov, lot, sew, mis, cnt, col, len, lef, sbt, shd) X Y out) (.inr (some (.float (zSh shd (zAt lot b y))))) (zHp (c, r, w, lim, tol, cart, wov, lot, sew, mis, cnt, col, len, lef, sbt, shd) X Y out) := by
  refine zRun_of (by decide +kernel) rfl rfl (Nat.le_of_ble_eq_true rfl) ?_
  suffices hs : ∀ (o9 : zO) (h9 : zH), (Sum.inr (some (.float (zSh shd (zAt lot b y)))) : zO) = o9 → (zHp (c, r, w, lim, tol, cart, wov, lot, sew, mis, cnt, col, len, lef, sbt, shd) X Y out) = h9 → zPW G mX4_shadeAt 0 0 o9 h9 0 0 0 [(0, .ref 1), (1, .int b), (2, .int y)] [] (zHp (c, r, w, lim, tol, cart, wov, lot, sew, mis, cnt, col, len, lef, sbt, shd) X Y out) from hs _ _ rfl rfl
  intro o9 h9 ho9 hh9
  refine z_aload_n 0 dX4_shadeAt_0 rfl rfl ?_
  refine z_get (v := .ref 12) 10 rfl rfl inX4 (by decide) zw_145 rfl rfl dX4_shadeAt_1 ?_
  refine z_aload_n 0 dX4_shadeAt_4 rfl rfl ?_
  refine z_get (v := .ref 6) 7 rfl rfl inX4 (by decide) zw_142 rfl rfl dX4_shadeAt_5 ?_
  refine z_iload_n 1 dX4_shadeAt_8 rfl rfl ?_
  refine z_iload_n 2 dX4_shadeAt_9 rfl rfl ?_
  refine z_callV (N := mX2_at) 2 [.int b, .int y] [.ref 12] lX2_at ⟨zw_272, zw_273, zw_274⟩ rfl rfl rfl rfl (Nat.le_of_ble_eq_true rfl) (by decide) ⟨zlt, zlt⟩ ⟨Nat.zero_le _, Nat.zero_le _⟩ (fun _ => rfl) (c_gAt (g := 6) (v := 7) (f := lot) hG zlt rfl rfl b y) dX4_shadeAt_10 ?_
  refine z_callV (N := mX5_shadeOf) 1 [.int (zAt lot b y)] [] lX5_shadeOf ⟨zw_334, zw_335, zw_336⟩ rfl rfl rfl rfl (Nat.le_of_ble_eq_true rfl) (by decide) ⟨zlt, zlt⟩ ⟨Nat.zero_le _, Nat.zero_le _⟩ (fun _ => rfl) (c_lShade (g := 12) (v := 21) (f := shd) zlt rfl rfl (zAt lot b y)) dX4_shadeAt_13 ?_
  exact z_fret rfl dX4_shadeAt_16 (zo_f ho9 (by rfl)) (zo_h hh9 (by rfl)) (Nat.zero_le _) (Nat.zero_le _)

set_option maxHeartbeats 4000000 in
set_option maxRecDepth 100000 in
theorem c_isWrong {G : zT} {c r w lim cnt : Nat} {tol : Int32} {cart wov lot sew mis col len lef sbt : Nat → Int32} {shd : Nat → UInt32} {X : zXr} {Y : zYr} {out : Nat → Int64} (hG : zAl G = false) (hc : c ≤ 20) (hr : r ≤ 16) (hw : w ≤ r) (hn : cnt ≤ 16) (b y : Int32) : zRun G mX4_isWrong 0 0 [.ref 1, .int b, .int y] (zHp (c, r, w, lim, tol, cart, wov, lot, sew, mis, cnt, col, len, lef, sbt, shd) X Y out) (.inr (some (.int (zB (zWr wov cart b y))))) (zHp (c, r, w, lim, tol, cart, wov, lot, sew, mis, cnt, col, len, lef, sbt, shd) X Y out) := by
  refine zRun_of (by decide +kernel) rfl rfl (Nat.le_of_ble_eq_true rfl) ?_
  suffices hs : ∀ (o9 : zO) (h9 : zH), (Sum.inr (some (.int (zB (zWr wov cart b y)))) : zO) = o9 → (zHp (c, r, w, lim, tol, cart, wov, lot, sew, mis, cnt, col, len, lef, sbt, shd) X Y out) = h9 → zPW G mX4_isWrong 0 0 o9 h9 0 0 0 [(0, .ref 1), (1, .int b), (2, .int y)] [] (zHp (c, r, w, lim, tol, cart, wov, lot, sew, mis, cnt, col, len, lef, sbt, shd) X Y out) from hs _ _ rfl rfl
  intro o9 h9 ho9 hh9
  refine z_aload_n 0 dX4_isWrong_0 rfl rfl ?_
  refine z_get (v := .ref 4) 6 rfl rfl inX4 (by decide) zw_141 rfl rfl dX4_isWrong_1 ?_
  refine z_iload_n 1 dX4_isWrong_4 rfl rfl ?_
  refine z_iload_n 2 dX4_isWrong_5 rfl rfl ?_
  refine z_callV (N := mX2_at) 2 [.int b, .int y] [] lX2_at ⟨zw_272, zw_273, zw_274⟩ rfl rfl rfl rfl (Nat.le_of_ble_eq_true rfl) (by decide) ⟨zlt, zlt⟩ ⟨Nat.zero_le _, Nat.zero_le _⟩ (fun _ => rfl) (c_gAt (g := 4) (v := 5) (f := wov) hG zlt rfl rfl b y) dX4_isWrong_6 ?_
  refine z_aload_n 0 dX4_isWrong_9 rfl rfl ?_
  refine z_get (v := .ref 2) 5 rfl rfl inX4 (by decide) zw_139 rfl rfl dX4_isWrong_10 ?_
  refine z_iload_n 1 dX4_isWrong_13 rfl rfl ?_
  refine z_iload_n 2 dX4_isWrong_14 rfl rfl ?_
  refine z_callV (N := mX2_at) 2 [.int b, .int y] [.int (zAt wov b y)] lX2_at ⟨zw_272, zw_273, zw_274⟩ rfl rfl rfl rfl (Nat.le_of_ble_eq_true rfl) (by decide) ⟨zlt, zlt⟩ ⟨Nat.zero_le _, Nat.zero_le _⟩ (fun _ => rfl) (c_gAt (g := 2) (v := 3) (f := cart) hG zlt rfl rfl b y) dX4_isWrong_15 ?_
  refine z_icmp_eq (tgt := 25) dX4_isWrong_18 (by decide) (fun c_18 => ?_) (fun c_18 => ?_)
  · skip
    refine z_iconst (v := 0) dX4_isWrong_25 (by decide) ?_
    exact z_zret rfl (by rfl) dX4_isWrong_26 (zo_i ho9 (by simp [zB, zWr, *])) (zo_h hh9 (by rfl)) (Nat.zero_le _) (Nat.zero_le _)
  · skip
    refine z_iconst (v := 1) dX4_isWrong_21 (by decide) ?_
    refine z_goto (tgt := 26) dX4_isWrong_22 (by decide) ?_
    exact z_zret rfl (by rfl) dX4_isWrong_26 (zo_i ho9 (by simp [zB, zWr, *])) (zo_h hh9 (by rfl)) (Nat.zero_le _) (Nat.zero_le _)

set_option maxHeartbeats 4000000 in
set_option maxRecDepth 100000 in
theorem c_cellValue {G : zT} {c r w lim cnt : Nat} {tol : Int32} {cart wov lot sew mis col len lef sbt : Nat → Int32} {shd : Nat → UInt32} {X : zXr} {Y : zYr} {out : Nat → Int64} (hG : zAl G = false) (hc : c ≤ 20) (hr : r ≤ 16) (hw : w ≤ r) (hn : cnt ≤ 16) (x y t : Int32) : zRun G mX4_cellValue 0 0 [.ref 1, .int x, .int y, .int t] (zHp (c, r, w, lim, tol, cart, wov, lot, sew, mis, cnt, col, len, lef, sbt, shd) X Y out) (.inr (some (.int (zCv cart wov lot c w x y t)))) (zHp (c, r, w, lim, tol, cart, wov, lot, sew, mis, cnt, col, len, lef, sbt, shd) X Y out) := by
  refine zRun_of (by decide +kernel) rfl rfl (Nat.le_of_ble_eq_true rfl) ?_
  suffices hs : ∀ (o9 : zO) (h9 : zH), (Sum.inr (some (.int (zCv cart wov lot c w x y t))) : zO) = o9 → (zHp (c, r, w, lim, tol, cart, wov, lot, sew, mis, cnt, col, len, lef, sbt, shd) X Y out) = h9 → zPW G mX4_cellValue 0 0 o9 h9 0 0 0 [(0, .ref 1), (1, .int x), (2, .int y), (3, .int t)] [] (zHp (c, r, w, lim, tol, cart, wov, lot, sew, mis, cnt, col, len, lef, sbt, shd) X Y out) from hs _ _ rfl rfl
  intro o9 h9 ho9 hh9
  refine z_aload_n 0 dX4_cellValue_0 rfl rfl ?_
  refine z_iload_n 1 dX4_cellValue_1 rfl rfl ?_
  refine z_callV (N := mX4_mirror) 1 [.int x] [] lX4_mirror ⟨zw_379, zw_381, zw_19⟩ rfl rfl rfl rfl (Nat.le_of_ble_eq_true rfl) (by decide) ⟨zlt, zlt⟩ ⟨Nat.zero_le _, Nat.zero_le _⟩ (fun _ => rfl) (c_mirror hG hc hr hw hn x) dX4_cellValue_2 ?_
  refine z_istore (lv' := [(4, .int (nI c - 1 - x)), (0, .ref 1), (1, .int x), (2, .int y), (3, .int t)]) dX4_cellValue_5 (by decide) rfl ?_
  refine z_iload_n 4 dX4_cellValue_7 rfl rfl ?_
  refine z_if_ne (tgt := 22) dX4_cellValue_8 (by decide) (fun c_8 => ?_) (fun c_8 => ?_)
  · skip
    refine z_iload_n 4 dX4_cellValue_22 rfl rfl ?_
    refine z_iconst (v := 1) dX4_cellValue_23 (by decide) ?_
    refine z_icmp_ne (tgt := 35) dX4_cellValue_24 (by decide) (fun c_24 => ?_) (fun c_24 => ?_)
    · skip
      refine z_iload_n 4 dX4_cellValue_35 rfl rfl ?_
      refine z_iconst (v := 2) dX4_cellValue_36 (by decide) ?_
      refine z_icmp_ne (tgt := 63) dX4_cellValue_37 (by decide) (fun c_37 => ?_) (fun c_37 => ?_)
      · skip
        refine z_iload 0 dX4_cellValue_63 rfl ?_
        exact z_iret rfl dX4_cellValue_65 (zo_i ho9 (by simp [zCv, *])) (zo_h hh9 (by rfl)) (Nat.zero_le _) (Nat.zero_le _)
      · skip
        refine z_aload_n 1 dX4_cellValue_40 rfl rfl ?_
        refine z_iload_n 3 dX4_cellValue_41 rfl rfl ?_
        refine z_callV (N := mX4_isWoven) 1 [.int y] [] lX4_isWoven ⟨zw_383, zw_384, zw_385⟩ rfl rfl rfl rfl (Nat.le_of_ble_eq_true rfl) (by decide) ⟨zlt, zlt⟩ ⟨Nat.zero_le _, Nat.zero_le _⟩ (fun _ => rfl) (c_isWoven hG hc hr hw hn y) dX4_cellValue_42 ?_
        refine z_if_eq (tgt := 61) dX4_cellValue_45 (by decide) (fun c_45 => ?_) (fun c_45 => ?_)
        · skip
          have b_45 := zB_0.mp c_45
          refine z_iconst (v := (-1)) dX4_cellValue_61 (by decide) ?_
          exact z_iret rfl dX4_cellValue_62 (zo_i ho9 (by simp [zCv, *])) (zo_h hh9 (by rfl)) (Nat.zero_le _) (Nat.zero_le _)
        · skip
          have b_45 := zB_tt c_45
          refine z_aload_n 1 dX4_cellValue_48 rfl rfl ?_
          refine z_get (v := .ref 6) 7 rfl rfl inX4 (by decide) zw_142 rfl rfl dX4_cellValue_49 ?_
          refine z_iload 0 dX4_cellValue_52 rfl ?_
          refine z_iload_n 3 dX4_cellValue_54 rfl rfl ?_
          refine z_callV (N := mX2_at) 2 [.int (nI c - 1 - x), .int y] [] lX2_at ⟨zw_272, zw_273, zw_274⟩ rfl rfl rfl rfl (Nat.le_of_ble_eq_true rfl) (by decide) ⟨zlt, zlt⟩ ⟨Nat.zero_le _, Nat.zero_le _⟩ (fun _ => rfl) (c_gAt (g := 6) (v := 7) (f := lot) hG zlt rfl rfl (nI c - 1 - x) y) dX4_cellValue_55 ?_
          refine z_goto (tgt := 62) dX4_cellValue_58 (by decide) ?_
          exact z_iret rfl dX4_cellValue_62 (zo_i ho9 (by simp [zCv, *])) (zo_h hh9 (by rfl)) (Nat.zero_le _) (Nat.zero_le _)
    · skip
      refine z_aload_n 1 dX4_cellValue_27 rfl rfl ?_
      refine z_iload 0 dX4_cellValue_28 rfl ?_
      refine z_iload_n 3 dX4_cellValue_30 rfl rfl ?_
      refine z_callV (N := mX4_wovenColor) 2 [.int (nI c - 1 - x), .int y] [] lX4_wovenColor ⟨zw_322, zw_324, zw_11⟩ rfl rfl rfl rfl (Nat.le_of_ble_eq_true rfl) (by decide) ⟨zlt, zlt⟩ ⟨Nat.zero_le _, Nat.zero_le _⟩ (fun _ => rfl) (c_wovenColor hG hc hr hw hn (nI c - 1 - x) y) dX4_cellValue_31 ?_
      exact z_iret rfl dX4_cellValue_34 (zo_i ho9 (by simp [zCv, *])) (zo_h hh9 (by rfl)) (Nat.zero_le _) (Nat.zero_le _)
  · skip
    refine z_aload_n 1 dX4_cellValue_11 rfl rfl ?_
    refine z_get (v := .ref 2) 5 rfl rfl inX4 (by decide) zw_139 rfl rfl dX4_cellValue_12 ?_
    refine z_iload 0 dX4_cellValue_15 rfl ?_
    refine z_iload_n 3 dX4_cellValue_17 rfl rfl ?_
    refine z_callV (N := mX2_at) 2 [.int (nI c - 1 - x), .int y] [] lX2_at ⟨zw_272, zw_273, zw_274⟩ rfl rfl rfl rfl (Nat.le_of_ble_eq_true rfl) (by decide) ⟨zlt, zlt⟩ ⟨Nat.zero_le _, Nat.zero_le _⟩ (fun _ => rfl) (c_gAt (g := 2) (v := 3) (f := cart) hG zlt rfl rfl (nI c - 1 - x) y) dX4_cellValue_18 ?_
    exact z_iret rfl dX4_cellValue_21 (zo_i ho9 (by simp [zCv, *])) (zo_h hh9 (by rfl)) (Nat.zero_le _) (Nat.zero_le _)

set_option maxHeartbeats 4000000 in
set_option maxRecDepth 100000 in
theorem c_wrongCells {G : zT} {c r w lim cnt : Nat} {tol : Int32} {cart wov lot sew mis col len lef sbt : Nat → Int32} {shd : Nat → UInt32} {X : zXr} {Y : zYr} {out : Nat → Int64} (hG : zAl G = false) (hc : c ≤ 20) (hr : r ≤ 16) (hw : w ≤ r) (hn : cnt ≤ 16) (y : Int32) : zRun G mX4_wrongCells 0 0 [.ref 1, .int y] (zHp (c, r, w, lim, tol, cart, wov, lot, sew, mis, cnt, col, len, lef, sbt, shd) X Y out) (.inr (some (.int (nI (zWc9 wov cart y c))))) (zHp (c, r, w, lim, tol, cart, wov, lot, sew, mis, cnt, col, len, lef, sbt, shd) X Y out) := by
  refine zRun_of (by decide +kernel) rfl rfl (Nat.le_of_ble_eq_true rfl) ?_
  suffices hs : ∀ (o9 : zO) (h9 : zH), (Sum.inr (some (.int (nI (zWc9 wov cart y c)))) : zO) = o9 → (zHp (c, r, w, lim, tol, cart, wov, lot, sew, mis, cnt, col, len, lef, sbt, shd) X Y out) = h9 → zPW G mX4_wrongCells 0 0 o9 h9 0 0 0 [(0, .ref 1), (1, .int y)] [] (zHp (c, r, w, lim, tol, cart, wov, lot, sew, mis, cnt, col, len, lef, sbt, shd) X Y out) from hs _ _ rfl rfl
  intro o9 h9 ho9 hh9
  refine z_iconst (v := 0) dX4_wrongCells_0 (by decide) ?_
  refine z_istore_n (lv' := [(2, .int 0), (0, .ref 1), (1, .int y)]) dX4_wrongCells_1 rfl (by decide) rfl ?_
  refine z_iconst (v := 0) dX4_wrongCells_2 (by decide) ?_
  refine z_istore_n (lv' := [(3, .int 0), (2, .int 0), (0, .ref 1), (1, .int y)]) dX4_wrongCells_3 rfl (by decide) rfl ?_
  have L4_1 : ∀ (d k : Nat), k ≤ c → c + 1 ≤ k + d → zPW G mX4_wrongCells 0 0 o9 h9 0 0 4 [(3, .int (nI k)), (2, .int (nI (zCt (fun b => zWr wov cart (nI b) y) k))), (0, .ref 1), (1, .int y)] [] (zHp (c, r, w, lim, tol, cart, wov, lot, sew, mis, cnt, col, len, lef, sbt, shd) X Y out) := by
    intro d
    induction d with
    | zero => intro k hk hd; exact absurd hd (by omega)
    | succ d ih =>
      intro k hk_k hd_k
      have ih4 := ih
      clear ih
      refine z_iload_n 0 dX4_wrongCells_4 rfl rfl ?_
      refine z_aload_n 2 dX4_wrongCells_5 rfl rfl ?_
      refine z_get (v := .int (nI c)) 0 rfl rfl inX4 (by decide) zw_130 rfl rfl dX4_wrongCells_6 ?_
      refine z_icmp_ge (tgt := 35) dX4_wrongCells_9 (by decide) (fun c_9 => ?_) (fun c_9 => ?_)
      · skip
        have hx_k := zge (by omega) hk_k c_9
        refine z_iload_n 1 dX4_wrongCells_35 rfl rfl ?_
        exact z_iret rfl dX4_wrongCells_36 (zo_i ho9 (by rw [zWc9, hx_k])) (zo_h hh9 (by rfl)) (Nat.zero_le _) (Nat.zero_le _)
      · skip
        have hx_k := zlt' (by omega) hk_k c_9
        refine z_iload_n 1 dX4_wrongCells_12 rfl rfl ?_
        refine z_aload_n 2 dX4_wrongCells_13 rfl rfl ?_
        refine z_iload_n 0 dX4_wrongCells_14 rfl rfl ?_
        refine z_iload_n 3 dX4_wrongCells_15 rfl rfl ?_
        refine z_callV (N := mX4_isWrong) 2 [.int (nI k), .int y] [.int (nI (zCt (fun b => zWr wov cart (nI b) y) k))] lX4_isWrong ⟨zw_268, zw_270, zw_2⟩ rfl rfl rfl rfl (Nat.le_of_ble_eq_true rfl) (by decide) ⟨zlt, zlt⟩ ⟨Nat.zero_le _, Nat.zero_le _⟩ (fun _ => rfl) (c_isWrong hG hc hr hw hn (nI k) y) dX4_wrongCells_16 ?_
        refine z_if_eq (tgt := 26) dX4_wrongCells_19 (by decide) (fun c_19 => ?_) (fun c_19 => ?_)
        · skip
          have b_19 := zB_0.mp c_19
          refine z_iconst (v := 0) dX4_wrongCells_26 (by decide) ?_
          refine z_iadd dX4_wrongCells_27 ?_
          refine z_istore_n (lv' := [(2, .int ((nI (zCt (fun b => zWr wov cart (nI b) y) k)) + 0)), (3, .int (nI k)), (0, .ref 1), (1, .int y)]) dX4_wrongCells_28 rfl (by decide) rfl ?_
          refine z_iinc (v := nI (k + 1)) (lv' := [(3, .int (nI (k + 1))), (2, .int ((nI (zCt (fun b => zWr wov cart (nI b) y) k)) + 0)), (0, .ref 1), (1, .int y)]) 1 dX4_wrongCells_29 rfl (nI_1 k) (by decide) rfl ?_
          refine z_goto (tgt := 4) dX4_wrongCells_32 (by decide) ?_
          refine z_sub [0, 1, 2, 3] (lv' := [(3, .int (nI (k + 1))), (2, .int ((nI (zCt (fun b => zWr wov cart (nI b) y) k)) + 0)), (0, .ref 1), (1, .int y)]) rfl ?_
          refine z_eqs (lv2 := [(3, .int (nI (k + 1))), (2, .int (nI (zCt (fun b => zWr wov cart (nI b) y) (k + 1)))), (0, .ref 1), (1, .int y)]) (h2 := (zHp (c, r, w, lim, tol, cart, wov, lot, sew, mis, cnt, col, len, lef, sbt, shd) X Y out)) (by first | rw [zCt_t (p := (fun b => zWr wov cart (nI b) y)) (by assumption)] | rw [zCt_f (p := (fun b => zWr wov cart (nI b) y)) (by assumption)]) (by rfl) ?_
          exact ih4 (k + 1) (by omega) (by omega)
        · skip
          have b_19 := zB_tt c_19
          refine z_iconst (v := 1) dX4_wrongCells_22 (by decide) ?_
          refine z_goto (tgt := 27) dX4_wrongCells_23 (by decide) ?_
          refine z_iadd dX4_wrongCells_27 ?_
          refine z_istore_n (lv' := [(2, .int ((nI (zCt (fun b => zWr wov cart (nI b) y) k)) + 1)), (3, .int (nI k)), (0, .ref 1), (1, .int y)]) dX4_wrongCells_28 rfl (by decide) rfl ?_
          refine z_iinc (v := nI (k + 1)) (lv' := [(3, .int (nI (k + 1))), (2, .int ((nI (zCt (fun b => zWr wov cart (nI b) y) k)) + 1)), (0, .ref 1), (1, .int y)]) 1 dX4_wrongCells_29 rfl (nI_1 k) (by decide) rfl ?_
          refine z_goto (tgt := 4) dX4_wrongCells_32 (by decide) ?_
          refine z_sub [0, 1, 2, 3] (lv' := [(3, .int (nI (k + 1))), (2, .int ((nI (zCt (fun b => zWr wov cart (nI b) y) k)) + 1)), (0, .ref 1), (1, .int y)]) rfl ?_
          refine z_eqs (lv2 := [(3, .int (nI (k + 1))), (2, .int (nI (zCt (fun b => zWr wov cart (nI b) y) (k + 1)))), (0, .ref 1), (1, .int y)]) (h2 := (zHp (c, r, w, lim, tol, cart, wov, lot, sew, mis, cnt, col, len, lef, sbt, shd) X Y out)) (by first | rw [zCt_t (p := (fun b => zWr wov cart (nI b) y)) (by assumption)] | rw [zCt_f (p := (fun b => zWr wov cart (nI b) y)) (by assumption)]) (by rfl) ?_
          exact ih4 (k + 1) (by omega) (by omega)
  refine z_sub [0, 1, 2, 3] (lv' := [(3, .int 0), (2, .int 0), (0, .ref 1), (1, .int y)]) rfl ?_
  refine z_eqs (lv2 := [(3, .int (nI 0)), (2, .int (nI (zCt (fun b => zWr wov cart (nI b) y) 0))), (0, .ref 1), (1, .int y)]) (h2 := (zHp (c, r, w, lim, tol, cart, wov, lot, sew, mis, cnt, col, len, lef, sbt, shd) X Y out)) (by rfl) (by rfl) ?_
  exact L4_1 (c + 1) 0 (Nat.zero_le _) (by omega)

set_option maxHeartbeats 4000000 in
set_option maxRecDepth 100000 in
theorem c_isNewRun {G : zT} {c r w lim cnt : Nat} {tol : Int32} {cart wov lot sew mis col len lef sbt : Nat → Int32} {shd : Nat → UInt32} {X : zXr} {Y : zYr} {out : Nat → Int64} (hG : zAl G = false) (hc : c ≤ 20) (hr : r ≤ 16) (hw : w ≤ r) (hn : cnt ≤ 16) (y : Int32) (a : Nat) (ha : a ≤ c) : zRun G mX4_isNewRun 0 0 [.ref 1, .int (nI a), .int y] (zHp (c, r, w, lim, tol, cart, wov, lot, sew, mis, cnt, col, len, lef, sbt, shd) X Y out) (.inr (some (.int (zB (zNr wov y (zAt wov (nI a) y) a (c - a)))))) (zHp (c, r, w, lim, tol, cart, wov, lot, sew, mis, cnt, col, len, lef, sbt, shd) X Y out) := by
  refine zRun_of (by decide +kernel) rfl rfl (Nat.le_of_ble_eq_true rfl) ?_
  suffices hs : ∀ (o9 : zO) (h9 : zH), (Sum.inr (some (.int (zB (zNr wov y (zAt wov (nI a) y) a (c - a))))) : zO) = o9 → (zHp (c, r, w, lim, tol, cart, wov, lot, sew, mis, cnt, col, len, lef, sbt, shd) X Y out) = h9 → zPW G mX4_isNewRun 0 0 o9 h9 0 0 0 [(0, .ref 1), (1, .int (nI a)), (2, .int y)] [] (zHp (c, r, w, lim, tol, cart, wov, lot, sew, mis, cnt, col, len, lef, sbt, shd) X Y out) from hs _ _ rfl rfl
  intro o9 h9 ho9 hh9
  refine z_aload_n 0 dX4_isNewRun_0 rfl rfl ?_
  refine z_get (v := .ref 4) 6 rfl rfl inX4 (by decide) zw_141 rfl rfl dX4_isNewRun_1 ?_
  refine z_iload_n 1 dX4_isNewRun_4 rfl rfl ?_
  refine z_iload_n 2 dX4_isNewRun_5 rfl rfl ?_
  refine z_callV (N := mX2_at) 2 [.int (nI a), .int y] [] lX2_at ⟨zw_272, zw_273, zw_274⟩ rfl rfl rfl rfl (Nat.le_of_ble_eq_true rfl) (by decide) ⟨zlt, zlt⟩ ⟨Nat.zero_le _, Nat.zero_le _⟩ (fun _ => rfl) (c_gAt (g := 4) (v := 5) (f := wov) hG zlt rfl rfl (nI a) y) dX4_isNewRun_6 ?_
  refine z_istore_n (lv' := [(3, .int (zAt wov (nI a) y)), (0, .ref 1), (1, .int (nI a)), (2, .int y)]) dX4_isNewRun_9 rfl (by decide) rfl ?_
  refine z_iload_n 2 dX4_isNewRun_10 rfl rfl ?_
  refine z_istore (lv' := [(4, .int (nI a)), (3, .int (zAt wov (nI a) y)), (0, .ref 1), (1, .int (nI a)), (2, .int y)]) dX4_isNewRun_11 (by decide) rfl ?_
  have L13_1 : ∀ (d k : Nat), k ≤ c → c + 1 ≤ k + d → zNr wov y (zAt wov (nI a) y) a (c - a) = zNr wov y (zAt wov (nI a) y) k (c - k) → zPW G mX4_isNewRun 0 0 o9 h9 0 0 13 [(4, .int (nI k)), (3, .int (zAt wov (nI a) y)), (0, .ref 1), (1, .int (nI a)), (2, .int y)] [] (zHp (c, r, w, lim, tol, cart, wov, lot, sew, mis, cnt, col, len, lef, sbt, shd) X Y out) := by
    intro d
    induction d with
    | zero => intro k hk hd; exact absurd hd (by omega)
    | succ d ih =>
      intro k hk_k hd_k he_k
      have ih13 := ih
      clear ih
      refine z_iload 0 dX4_isNewRun_13 rfl ?_
      refine z_aload_n 2 dX4_isNewRun_15 rfl rfl ?_
      refine z_get (v := .int (nI c)) 0 rfl rfl inX4 (by decide) zw_130 rfl rfl dX4_isNewRun_16 ?_
      refine z_icmp_ge (tgt := 60) dX4_isNewRun_19 (by decide) (fun c_19 => ?_) (fun c_19 => ?_)
      · skip
        have hx_k := zge (by omega) hk_k c_19
        refine z_iconst (v := 1) dX4_isNewRun_60 (by decide) ?_
        exact z_zret rfl (by rfl) dX4_isNewRun_61 (zo_i ho9 (by rw [he_k]; first | (rw [hx_k, Nat.sub_self, zNr]; rfl) | (rw [show c - k = (c - (k + 1)) + 1 by omega, zNr]; simp [zB, *]))) (zo_h hh9 (by rfl)) (Nat.zero_le _) (Nat.zero_le _)
      · skip
        have hx_k := zlt' (by omega) hk_k c_19
        refine z_aload_n 2 dX4_isNewRun_22 rfl rfl ?_
        refine z_get (v := .ref 4) 6 rfl rfl inX4 (by decide) zw_141 rfl rfl dX4_isNewRun_23 ?_
        refine z_iload 0 dX4_isNewRun_26 rfl ?_
        refine z_iload_n 4 dX4_isNewRun_28 rfl rfl ?_
        refine z_callV (N := mX2_at) 2 [.int (nI k), .int y] [] lX2_at ⟨zw_272, zw_273, zw_274⟩ rfl rfl rfl rfl (Nat.le_of_ble_eq_true rfl) (by decide) ⟨zlt, zlt⟩ ⟨Nat.zero_le _, Nat.zero_le _⟩ (fun _ => rfl) (c_gAt (g := 4) (v := 5) (f := wov) hG zlt rfl rfl (nI k) y) dX4_isNewRun_29 ?_
        refine z_iload_n 1 dX4_isNewRun_32 rfl rfl ?_
        refine z_icmp_ne (tgt := 60) dX4_isNewRun_33 (by decide) (fun c_33 => ?_) (fun c_33 => ?_)
        · skip
          refine z_iconst (v := 1) dX4_isNewRun_60 (by decide) ?_
          exact z_zret rfl (by rfl) dX4_isNewRun_61 (zo_i ho9 (by rw [he_k]; first | (rw [hx_k, Nat.sub_self, zNr]; rfl) | (rw [show c - k = (c - (k + 1)) + 1 by omega, zNr]; simp [zB, *]))) (zo_h hh9 (by rfl)) (Nat.zero_le _) (Nat.zero_le _)
        · skip
          refine z_aload_n 2 dX4_isNewRun_36 rfl rfl ?_
          refine z_get (v := .ref 4) 6 rfl rfl inX4 (by decide) zw_141 rfl rfl dX4_isNewRun_37 ?_
          refine z_iload 0 dX4_isNewRun_40 rfl ?_
          refine z_iload_n 4 dX4_isNewRun_42 rfl rfl ?_
          refine z_iconst (v := 1) dX4_isNewRun_43 (by decide) ?_
          refine z_isub dX4_isNewRun_44 ?_
          refine z_callV (N := mX2_at) 2 [.int (nI k), .int (y - 1)] [] lX2_at ⟨zw_272, zw_273, zw_274⟩ rfl rfl rfl rfl (Nat.le_of_ble_eq_true rfl) (by decide) ⟨zlt, zlt⟩ ⟨Nat.zero_le _, Nat.zero_le _⟩ (fun _ => rfl) (c_gAt (g := 4) (v := 5) (f := wov) hG zlt rfl rfl (nI k) (y - 1)) dX4_isNewRun_45 ?_
          refine z_iload_n 1 dX4_isNewRun_48 rfl rfl ?_
          refine z_icmp_ne (tgt := 54) dX4_isNewRun_49 (by decide) (fun c_49 => ?_) (fun c_49 => ?_)
          · skip
            refine z_iinc (v := nI (k + 1)) (lv' := [(4, .int (nI (k + 1))), (3, .int (zAt wov (nI a) y)), (0, .ref 1), (1, .int (nI a)), (2, .int y)]) 0 dX4_isNewRun_54 rfl (nI_1 k) (by decide) rfl ?_
            refine z_goto (tgt := 13) dX4_isNewRun_57 (by decide) ?_
            refine z_sub [0, 1, 2, 3, 4] (lv' := [(4, .int (nI (k + 1))), (3, .int (zAt wov (nI a) y)), (0, .ref 1), (1, .int (nI a)), (2, .int y)]) rfl ?_
            refine z_eqs (lv2 := [(4, .int (nI (k + 1))), (3, .int (zAt wov (nI a) y)), (0, .ref 1), (1, .int (nI a)), (2, .int y)]) (h2 := (zHp (c, r, w, lim, tol, cart, wov, lot, sew, mis, cnt, col, len, lef, sbt, shd) X Y out)) (by rfl) (by rfl) ?_
            exact ih13 (k + 1) (by omega) (by omega) (by rw [he_k, show c - k = (c - (k + 1)) + 1 by omega, zNr, if_pos (by assumption), if_neg (by assumption)])
          · skip
            refine z_iconst (v := 0) dX4_isNewRun_52 (by decide) ?_
            exact z_zret rfl (by rfl) dX4_isNewRun_53 (zo_i ho9 (by rw [he_k]; first | (rw [hx_k, Nat.sub_self, zNr]; rfl) | (rw [show c - k = (c - (k + 1)) + 1 by omega, zNr]; simp [zB, *]))) (zo_h hh9 (by rfl)) (Nat.zero_le _) (Nat.zero_le _)
  refine z_sub [0, 1, 2, 3, 4] (lv' := [(4, .int (nI a)), (3, .int (zAt wov (nI a) y)), (0, .ref 1), (1, .int (nI a)), (2, .int y)]) rfl ?_
  refine z_eqs (lv2 := [(4, .int (nI a)), (3, .int (zAt wov (nI a) y)), (0, .ref 1), (1, .int (nI a)), (2, .int y)]) (h2 := (zHp (c, r, w, lim, tol, cart, wov, lot, sew, mis, cnt, col, len, lef, sbt, shd) X Y out)) (by rfl) (by rfl) ?_
  exact L13_1 (c + 1) a ha (by omega) rfl

set_option maxHeartbeats 4000000 in
set_option maxRecDepth 100000 in
theorem c_newShuttles {G : zT} {c r w lim cnt : Nat} {tol : Int32} {cart wov lot sew mis col len lef sbt : Nat → Int32} {shd : Nat → UInt32} {X : zXr} {Y : zYr} {out : Nat → Int64} (hG : zAl G = false) (hc : c ≤ 20) (hr : r ≤ 16) (hw : w ≤ r) (hn : cnt ≤ 16) (y : Int32) : zRun G mX4_newShuttles 0 0 [.ref 1, .int y] (zHp (c, r, w, lim, tol, cart, wov, lot, sew, mis, cnt, col, len, lef, sbt, shd) X Y out) (.inr (some (.int (nI (zNs wov y c))))) (zHp (c, r, w, lim, tol, cart, wov, lot, sew, mis, cnt, col, len, lef, sbt, shd) X Y out) := by
  refine zRun_of (by decide +kernel) rfl rfl (Nat.le_of_ble_eq_true rfl) ?_
  suffices hs : ∀ (o9 : zO) (h9 : zH), (Sum.inr (some (.int (nI (zNs wov y c)))) : zO) = o9 → (zHp (c, r, w, lim, tol, cart, wov, lot, sew, mis, cnt, col, len, lef, sbt, shd) X Y out) = h9 → zPW G mX4_newShuttles 0 0 o9 h9 0 0 0 [(0, .ref 1), (1, .int y)] [] (zHp (c, r, w, lim, tol, cart, wov, lot, sew, mis, cnt, col, len, lef, sbt, shd) X Y out) from hs _ _ rfl rfl
  intro o9 h9 ho9 hh9
  refine z_iconst (v := 0) dX4_newShuttles_0 (by decide) ?_
  refine z_istore_n (lv' := [(2, .int 0), (0, .ref 1), (1, .int y)]) dX4_newShuttles_1 rfl (by decide) rfl ?_
  refine z_iconst (v := 0) dX4_newShuttles_2 (by decide) ?_
  refine z_istore_n (lv' := [(3, .int 0), (2, .int 0), (0, .ref 1), (1, .int y)]) dX4_newShuttles_3 rfl (by decide) rfl ?_
  have L4_1 : ∀ (d k : Nat), k ≤ c → c + 1 ≤ k + d → zPW G mX4_newShuttles 0 0 o9 h9 0 0 4 [(3, .int (nI k)), (2, .int (nI (zCt (fun b => zSt wov (nI b) y && zNr wov y (zAt wov (nI b) y) b (c - b)) k))), (0, .ref 1), (1, .int y)] [] (zHp (c, r, w, lim, tol, cart, wov, lot, sew, mis, cnt, col, len, lef, sbt, shd) X Y out) := by
    intro d
    induction d with
    | zero => intro k hk hd; exact absurd hd (by omega)
    | succ d ih =>
      intro k hk_k hd_k
      have ih4 := ih
      clear ih
      refine z_iload_n 0 dX4_newShuttles_4 rfl rfl ?_
      refine z_aload_n 2 dX4_newShuttles_5 rfl rfl ?_
      refine z_get (v := .int (nI c)) 0 rfl rfl inX4 (by decide) zw_130 rfl rfl dX4_newShuttles_6 ?_
      refine z_icmp_ge (tgt := 47) dX4_newShuttles_9 (by decide) (fun c_9 => ?_) (fun c_9 => ?_)
      · skip
        have hx_k := zge (by omega) hk_k c_9
        refine z_iload_n 1 dX4_newShuttles_47 rfl rfl ?_
        exact z_iret rfl dX4_newShuttles_48 (zo_i ho9 (by rw [zNs, hx_k])) (zo_h hh9 (by rfl)) (Nat.zero_le _) (Nat.zero_le _)
      · skip
        have hx_k := zlt' (by omega) hk_k c_9
        refine z_iload_n 1 dX4_newShuttles_12 rfl rfl ?_
        refine z_aload_n 2 dX4_newShuttles_13 rfl rfl ?_
        refine z_get (v := .ref 4) 6 rfl rfl inX4 (by decide) zw_141 rfl rfl dX4_newShuttles_14 ?_
        refine z_iload_n 0 dX4_newShuttles_17 rfl rfl ?_
        refine z_iload_n 3 dX4_newShuttles_18 rfl rfl ?_
        refine z_callV (N := mX2_startsRun) 2 [.int (nI k), .int y] [.int (nI (zCt (fun b => zSt wov (nI b) y && zNr wov y (zAt wov (nI b) y) b (c - b)) k))] lX2_startsRun ⟨zw_366, zw_354, zw_355⟩ rfl rfl rfl rfl (Nat.le_of_ble_eq_true rfl) (by decide) ⟨zlt, zlt⟩ ⟨Nat.zero_le _, Nat.zero_le _⟩ (fun _ => rfl) (c_gStarts (g := 4) (v := 5) (f := wov) hG zlt rfl rfl (nI k) y) dX4_newShuttles_19 ?_
        refine z_if_eq (tgt := 38) dX4_newShuttles_22 (by decide) (fun c_22 => ?_) (fun c_22 => ?_)
        · skip
          have b_22 := zB_0.mp c_22
          refine z_iconst (v := 0) dX4_newShuttles_38 (by decide) ?_
          refine z_iadd dX4_newShuttles_39 ?_
          refine z_istore_n (lv' := [(2, .int ((nI (zCt (fun b => zSt wov (nI b) y && zNr wov y (zAt wov (nI b) y) b (c - b)) k)) + 0)), (3, .int (nI k)), (0, .ref 1), (1, .int y)]) dX4_newShuttles_40 rfl (by decide) rfl ?_
          refine z_iinc (v := nI (k + 1)) (lv' := [(3, .int (nI (k + 1))), (2, .int ((nI (zCt (fun b => zSt wov (nI b) y && zNr wov y (zAt wov (nI b) y) b (c - b)) k)) + 0)), (0, .ref 1), (1, .int y)]) 1 dX4_newShuttles_41 rfl (nI_1 k) (by decide) rfl ?_
          refine z_goto (tgt := 4) dX4_newShuttles_44 (by decide) ?_
          refine z_sub [0, 1, 2, 3] (lv' := [(3, .int (nI (k + 1))), (2, .int ((nI (zCt (fun b => zSt wov (nI b) y && zNr wov y (zAt wov (nI b) y) b (c - b)) k)) + 0)), (0, .ref 1), (1, .int y)]) rfl ?_
          refine z_eqs (lv2 := [(3, .int (nI (k + 1))), (2, .int (nI (zCt (fun b => zSt wov (nI b) y && zNr wov y (zAt wov (nI b) y) b (c - b)) (k + 1)))), (0, .ref 1), (1, .int y)]) (h2 := (zHp (c, r, w, lim, tol, cart, wov, lot, sew, mis, cnt, col, len, lef, sbt, shd) X Y out)) (by first | rw [zCt_t (p := (fun b => zSt wov (nI b) y && zNr wov y (zAt wov (nI b) y) b (c - b))) (by simp [*])] | rw [zCt_f (p := (fun b => zSt wov (nI b) y && zNr wov y (zAt wov (nI b) y) b (c - b))) (by simp [*])]) (by rfl) ?_
          exact ih4 (k + 1) (by omega) (by omega)
        · skip
          have b_22 := zB_tt c_22
          refine z_aload_n 2 dX4_newShuttles_25 rfl rfl ?_
          refine z_iload_n 0 dX4_newShuttles_26 rfl rfl ?_
          refine z_iload_n 3 dX4_newShuttles_27 rfl rfl ?_
          refine z_callV (N := mX4_isNewRun) 2 [.int (nI k), .int y] [.int (nI (zCt (fun b => zSt wov (nI b) y && zNr wov y (zAt wov (nI b) y) b (c - b)) k))] lX4_isNewRun ⟨zw_367, zw_369, zw_17⟩ rfl rfl rfl rfl (Nat.le_of_ble_eq_true rfl) (by decide) ⟨zlt, zlt⟩ ⟨Nat.zero_le _, Nat.zero_le _⟩ (fun _ => rfl) (c_isNewRun hG hc hr hw hn y k (by omega)) dX4_newShuttles_28 ?_
          refine z_if_eq (tgt := 38) dX4_newShuttles_31 (by decide) (fun c_31 => ?_) (fun c_31 => ?_)
          · skip
            have b_31 := zB_0.mp c_31
            refine z_iconst (v := 0) dX4_newShuttles_38 (by decide) ?_
            refine z_iadd dX4_newShuttles_39 ?_
            refine z_istore_n (lv' := [(2, .int ((nI (zCt (fun b => zSt wov (nI b) y && zNr wov y (zAt wov (nI b) y) b (c - b)) k)) + 0)), (3, .int (nI k)), (0, .ref 1), (1, .int y)]) dX4_newShuttles_40 rfl (by decide) rfl ?_
            refine z_iinc (v := nI (k + 1)) (lv' := [(3, .int (nI (k + 1))), (2, .int ((nI (zCt (fun b => zSt wov (nI b) y && zNr wov y (zAt wov (nI b) y) b (c - b)) k)) + 0)), (0, .ref 1), (1, .int y)]) 1 dX4_newShuttles_41 rfl (nI_1 k) (by decide) rfl ?_
            refine z_goto (tgt := 4) dX4_newShuttles_44 (by decide) ?_
            refine z_sub [0, 1, 2, 3] (lv' := [(3, .int (nI (k + 1))), (2, .int ((nI (zCt (fun b => zSt wov (nI b) y && zNr wov y (zAt wov (nI b) y) b (c - b)) k)) + 0)), (0, .ref 1), (1, .int y)]) rfl ?_
            refine z_eqs (lv2 := [(3, .int (nI (k + 1))), (2, .int (nI (zCt (fun b => zSt wov (nI b) y && zNr wov y (zAt wov (nI b) y) b (c - b)) (k + 1)))), (0, .ref 1), (1, .int y)]) (h2 := (zHp (c, r, w, lim, tol, cart, wov, lot, sew, mis, cnt, col, len, lef, sbt, shd) X Y out)) (by first | rw [zCt_t (p := (fun b => zSt wov (nI b) y && zNr wov y (zAt wov (nI b) y) b (c - b))) (by simp [*])] | rw [zCt_f (p := (fun b => zSt wov (nI b) y && zNr wov y (zAt wov (nI b) y) b (c - b))) (by simp [*])]) (by rfl) ?_
            exact ih4 (k + 1) (by omega) (by omega)
          · skip
            have b_31 := zB_tt c_31
            refine z_iconst (v := 1) dX4_newShuttles_34 (by decide) ?_
            refine z_goto (tgt := 39) dX4_newShuttles_35 (by decide) ?_
            refine z_iadd dX4_newShuttles_39 ?_
            refine z_istore_n (lv' := [(2, .int ((nI (zCt (fun b => zSt wov (nI b) y && zNr wov y (zAt wov (nI b) y) b (c - b)) k)) + 1)), (3, .int (nI k)), (0, .ref 1), (1, .int y)]) dX4_newShuttles_40 rfl (by decide) rfl ?_
            refine z_iinc (v := nI (k + 1)) (lv' := [(3, .int (nI (k + 1))), (2, .int ((nI (zCt (fun b => zSt wov (nI b) y && zNr wov y (zAt wov (nI b) y) b (c - b)) k)) + 1)), (0, .ref 1), (1, .int y)]) 1 dX4_newShuttles_41 rfl (nI_1 k) (by decide) rfl ?_
            refine z_goto (tgt := 4) dX4_newShuttles_44 (by decide) ?_
            refine z_sub [0, 1, 2, 3] (lv' := [(3, .int (nI (k + 1))), (2, .int ((nI (zCt (fun b => zSt wov (nI b) y && zNr wov y (zAt wov (nI b) y) b (c - b)) k)) + 1)), (0, .ref 1), (1, .int y)]) rfl ?_
            refine z_eqs (lv2 := [(3, .int (nI (k + 1))), (2, .int (nI (zCt (fun b => zSt wov (nI b) y && zNr wov y (zAt wov (nI b) y) b (c - b)) (k + 1)))), (0, .ref 1), (1, .int y)]) (h2 := (zHp (c, r, w, lim, tol, cart, wov, lot, sew, mis, cnt, col, len, lef, sbt, shd) X Y out)) (by first | rw [zCt_t (p := (fun b => zSt wov (nI b) y && zNr wov y (zAt wov (nI b) y) b (c - b))) (by simp [*])] | rw [zCt_f (p := (fun b => zSt wov (nI b) y && zNr wov y (zAt wov (nI b) y) b (c - b))) (by simp [*])]) (by rfl) ?_
            exact ih4 (k + 1) (by omega) (by omega)
  refine z_sub [0, 1, 2, 3] (lv' := [(3, .int 0), (2, .int 0), (0, .ref 1), (1, .int y)]) rfl ?_
  refine z_eqs (lv2 := [(3, .int (nI 0)), (2, .int (nI (zCt (fun b => zSt wov (nI b) y && zNr wov y (zAt wov (nI b) y) b (c - b)) 0))), (0, .ref 1), (1, .int y)]) (h2 := (zHp (c, r, w, lim, tol, cart, wov, lot, sew, mis, cnt, col, len, lef, sbt, shd) X Y out)) (by rfl) (by rfl) ?_
  exact L4_1 (c + 1) 0 (Nat.zero_le _) (by omega)

set_option maxHeartbeats 4000000 in
set_option maxRecDepth 100000 in
theorem c_firstWrongRow {G : zT} {c r w lim cnt : Nat} {tol : Int32} {cart wov lot sew mis col len lef sbt : Nat → Int32} {shd : Nat → UInt32} {X : zXr} {Y : zYr} {out : Nat → Int64} (hG : zAl G = false) (hc : c ≤ 20) (hr : r ≤ 16) (hw : w ≤ r) (hn : cnt ≤ 16)  : zRun G mX4_firstWrongRow 0 0 [.ref 1] (zHp (c, r, w, lim, tol, cart, wov, lot, sew, mis, cnt, col, len, lef, sbt, shd) X Y out) (.inr (some (.int (zFw wov cart c 0 w)))) (zHp (c, r, w, lim, tol, cart, wov, lot, sew, mis, cnt, col, len, lef, sbt, shd) X Y out) := by
  refine zRun_of (by decide +kernel) rfl rfl (Nat.le_of_ble_eq_true rfl) ?_
  suffices hs : ∀ (o9 : zO) (h9 : zH), (Sum.inr (some (.int (zFw wov cart c 0 w))) : zO) = o9 → (zHp (c, r, w, lim, tol, cart, wov, lot, sew, mis, cnt, col, len, lef, sbt, shd) X Y out) = h9 → zPW G mX4_firstWrongRow 0 0 o9 h9 0 0 0 [(0, .ref 1)] [] (zHp (c, r, w, lim, tol, cart, wov, lot, sew, mis, cnt, col, len, lef, sbt, shd) X Y out) from hs _ _ rfl rfl
  intro o9 h9 ho9 hh9
  refine z_iconst (v := 0) dX4_firstWrongRow_0 (by decide) ?_
  refine z_istore_n (lv' := [(1, .int 0), (0, .ref 1)]) dX4_firstWrongRow_1 rfl (by decide) rfl ?_
  have L2_1 : ∀ (d k : Nat), k ≤ w → w + 1 ≤ k + d → zFw wov cart c 0 w = zFw wov cart c k (w - k) → zPW G mX4_firstWrongRow 0 0 o9 h9 0 0 2 [(1, .int (nI k)), (0, .ref 1)] [] (zHp (c, r, w, lim, tol, cart, wov, lot, sew, mis, cnt, col, len, lef, sbt, shd) X Y out) := by
    intro d
    induction d with
    | zero => intro k hk hd; exact absurd hd (by omega)
    | succ d ih =>
      intro k hk_k hd_k he_k
      have ih2 := ih
      clear ih
      refine z_iload_n 0 dX4_firstWrongRow_2 rfl rfl ?_
      refine z_aload_n 1 dX4_firstWrongRow_3 rfl rfl ?_
      refine z_get (v := .int (nI w)) 2 rfl rfl inX4 (by decide) zw_134 rfl rfl dX4_firstWrongRow_4 ?_
      refine z_icmp_ge (tgt := 26) dX4_firstWrongRow_7 (by decide) (fun c_7 => ?_) (fun c_7 => ?_)
      · skip
        have hx_k := zge (by omega) hk_k c_7
        refine z_iconst (v := (-1)) dX4_firstWrongRow_26 (by decide) ?_
        exact z_iret rfl dX4_firstWrongRow_27 (zo_i ho9 (by rw [he_k]; first | rw [hx_k, Nat.sub_self, zFw] | rw [show w - k = (w - (k + 1)) + 1 by omega, zFw, if_pos (Nat.pos_of_ne_zero fun q => c_15 (by rw [q]; decide))])) (zo_h hh9 (by rfl)) (Nat.zero_le _) (Nat.zero_le _)
      · skip
        have hx_k := zlt' (by omega) hk_k c_7
        refine z_aload_n 1 dX4_firstWrongRow_10 rfl rfl ?_
        refine z_iload_n 0 dX4_firstWrongRow_11 rfl rfl ?_
        refine z_callV (N := mX4_wrongCells) 1 [.int (nI k)] [] lX4_wrongCells ⟨zw_264, zw_266, zw_1⟩ rfl rfl rfl rfl (Nat.le_of_ble_eq_true rfl) (by decide) ⟨zlt, zlt⟩ ⟨Nat.zero_le _, Nat.zero_le _⟩ (fun _ => rfl) (c_wrongCells hG hc hr hw hn (nI k)) dX4_firstWrongRow_12 ?_
        refine z_if_le (tgt := 20) dX4_firstWrongRow_15 (by decide) (fun c_15 => ?_) (fun c_15 => ?_)
        · skip
          refine z_iinc (v := nI (k + 1)) (lv' := [(1, .int (nI (k + 1))), (0, .ref 1)]) 0 dX4_firstWrongRow_20 rfl (nI_1 k) (by decide) rfl ?_
          refine z_goto (tgt := 2) dX4_firstWrongRow_23 (by decide) ?_
          refine z_sub [0, 1] (lv' := [(1, .int (nI (k + 1))), (0, .ref 1)]) rfl ?_
          refine z_eqs (lv2 := [(1, .int (nI (k + 1))), (0, .ref 1)]) (h2 := (zHp (c, r, w, lim, tol, cart, wov, lot, sew, mis, cnt, col, len, lef, sbt, shd) X Y out)) (by rfl) (by rfl) ?_
          exact ih2 (k + 1) (by omega) (by omega) (by rw [he_k, show w - k = (w - (k + 1)) + 1 by omega, zFw, if_neg (fun q => nI_nle q (Nat.lt_of_le_of_lt (zWc9_le _ _ _ _) (by omega)) c_15)])
        · skip
          refine z_iload_n 0 dX4_firstWrongRow_18 rfl rfl ?_
          exact z_iret rfl dX4_firstWrongRow_19 (zo_i ho9 (by rw [he_k]; first | rw [hx_k, Nat.sub_self, zFw] | rw [show w - k = (w - (k + 1)) + 1 by omega, zFw, if_pos (Nat.pos_of_ne_zero fun q => c_15 (by rw [q]; decide))])) (zo_h hh9 (by rfl)) (Nat.zero_le _) (Nat.zero_le _)
  refine z_sub [0, 1] (lv' := [(1, .int 0), (0, .ref 1)]) rfl ?_
  refine z_eqs (lv2 := [(1, .int (nI 0)), (0, .ref 1)]) (h2 := (zHp (c, r, w, lim, tol, cart, wov, lot, sew, mis, cnt, col, len, lef, sbt, shd) X Y out)) (by rfl) (by rfl) ?_
  exact L2_1 (w + 1) 0 (Nat.zero_le _) (by omega) rfl

set_option maxHeartbeats 4000000 in
set_option maxRecDepth 100000 in
theorem c_cellsIn2 {G : zT} {c r w lim cnt : Nat} {tol : Int32} {cart wov lot sew mis col len lef sbt : Nat → Int32} {shd : Nat → UInt32} {X : zXr} {Y : zYr} {out : Nat → Int64} (hG : zAl G = false) (hc : c ≤ 20) (hr : r ≤ 16) (hw : w ≤ r) (hn : cnt ≤ 16) (v : Int32) (n : Nat) (hn9 : n ≤ 16) : zRun G mX4_cellsIn 0 0 [.ref 1, .ref 2, .int v, .int (nI n)] (zHp (c, r, w, lim, tol, cart, wov, lot, sew, mis, cnt, col, len, lef, sbt, shd) X Y out) (.inr (some (.int (nI (zCi cart v c n))))) (zHp (c, r, w, lim, tol, cart, wov, lot, sew, mis, cnt, col, len, lef, sbt, shd) X Y out) := by
  refine zRun_of (by decide +kernel) rfl rfl (Nat.le_of_ble_eq_true rfl) ?_
  suffices hs : ∀ (o9 : zO) (h9 : zH), (Sum.inr (some (.int (nI (zCi cart v c n)))) : zO) = o9 → (zHp (c, r, w, lim, tol, cart, wov, lot, sew, mis, cnt, col, len, lef, sbt, shd) X Y out) = h9 → zPW G mX4_cellsIn 0 0 o9 h9 0 0 0 [(0, .ref 1), (1, .ref 2), (2, .int v), (3, .int (nI n))] [] (zHp (c, r, w, lim, tol, cart, wov, lot, sew, mis, cnt, col, len, lef, sbt, shd) X Y out) from hs _ _ rfl rfl
  intro o9 h9 ho9 hh9
  refine z_iconst (v := 0) dX4_cellsIn_0 (by decide) ?_
  refine z_istore (lv' := [(4, .int 0), (0, .ref 1), (1, .ref 2), (2, .int v), (3, .int (nI n))]) dX4_cellsIn_1 (by decide) rfl ?_
  refine z_iconst (v := 0) dX4_cellsIn_3 (by decide) ?_
  refine z_istore (lv' := [(5, .int 0), (4, .int 0), (0, .ref 1), (1, .ref 2), (2, .int v), (3, .int (nI n))]) dX4_cellsIn_4 (by decide) rfl ?_
  have L6_1 : ∀ (d k : Nat), k ≤ n → n + 1 ≤ k + d → zPW G mX4_cellsIn 0 0 o9 h9 0 0 6 [(5, .int (nI k)), (4, .int (nI (zSN (fun y => zCe cart v (nI y) c) k))), (0, .ref 1), (1, .ref 2), (2, .int v), (3, .int (nI n))] [] (zHp (c, r, w, lim, tol, cart, wov, lot, sew, mis, cnt, col, len, lef, sbt, shd) X Y out) := by
    intro d
    induction d with
    | zero => intro k hk hd; exact absurd hd (by omega)
    | succ d ih =>
      intro k hk_k hd_k
      have ih6 := ih
      clear ih
      refine z_iload 0 dX4_cellsIn_6 rfl ?_
      refine z_iload_n 5 dX4_cellsIn_8 rfl rfl ?_
      refine z_icmp_ge (tgt := 34) dX4_cellsIn_9 (by decide) (fun c_9 => ?_) (fun c_9 => ?_)
      · skip
        have hx_k := zge (by omega) hk_k c_9
        refine z_iload 1 dX4_cellsIn_34 rfl ?_
        exact z_iret rfl dX4_cellsIn_36 (zo_i ho9 (by rw [zCi, hx_k])) (zo_h hh9 (by rfl)) (Nat.zero_le _) (Nat.zero_le _)
      · skip
        have hx_k := zlt' (by omega) hk_k c_9
        refine z_iload 1 dX4_cellsIn_12 rfl ?_
        refine z_aload_n 3 dX4_cellsIn_14 rfl rfl ?_
        refine z_iload_n 4 dX4_cellsIn_15 rfl rfl ?_
        refine z_iload 0 dX4_cellsIn_16 rfl ?_
        refine z_aload_n 2 dX4_cellsIn_18 rfl rfl ?_
        refine z_get (v := .int (nI c)) 0 rfl rfl inX4 (by decide) zw_130 rfl rfl dX4_cellsIn_19 ?_
        refine z_callV (N := mX2_cellsOf) 3 [.int v, .int (nI k), .int (nI c)] [.int (nI (zSN (fun y => zCe cart v (nI y) c) k))] lX2_cellsOf ⟨zw_296, zw_297, zw_298⟩ rfl rfl rfl rfl (Nat.le_of_ble_eq_true rfl) (by decide) ⟨zlt, zlt⟩ ⟨Nat.zero_le _, Nat.zero_le _⟩ (fun _ => rfl) (c_gCells (g := 2) (v := 3) (f := cart) hG zlt rfl rfl v (nI k) (c := c) (by omega)) dX4_cellsIn_22 ?_
        refine z_iadd dX4_cellsIn_25 ?_
        refine z_istore (lv' := [(4, .int ((nI (zSN (fun y => zCe cart v (nI y) c) k)) + (nI (zCe cart v (nI k) c)))), (5, .int (nI k)), (0, .ref 1), (1, .ref 2), (2, .int v), (3, .int (nI n))]) dX4_cellsIn_26 (by decide) rfl ?_
        refine z_iinc (v := nI (k + 1)) (lv' := [(5, .int (nI (k + 1))), (4, .int ((nI (zSN (fun y => zCe cart v (nI y) c) k)) + (nI (zCe cart v (nI k) c)))), (0, .ref 1), (1, .ref 2), (2, .int v), (3, .int (nI n))]) 1 dX4_cellsIn_28 rfl (nI_1 k) (by decide) rfl ?_
        refine z_goto (tgt := 6) dX4_cellsIn_31 (by decide) ?_
        refine z_sub [0, 1, 2, 3, 4, 5] (lv' := [(5, .int (nI (k + 1))), (4, .int ((nI (zSN (fun y => zCe cart v (nI y) c) k)) + (nI (zCe cart v (nI k) c)))), (0, .ref 1), (1, .ref 2), (2, .int v), (3, .int (nI n))]) rfl ?_
        refine z_eqs (lv2 := [(5, .int (nI (k + 1))), (4, .int (nI (zSN (fun y => zCe cart v (nI y) c) (k + 1)))), (0, .ref 1), (1, .ref 2), (2, .int v), (3, .int (nI n))]) (h2 := (zHp (c, r, w, lim, tol, cart, wov, lot, sew, mis, cnt, col, len, lef, sbt, shd) X Y out)) (by rw [← zSN_s (fun y => zCe cart v (nI y) c) k]) (by rfl) ?_
        exact ih6 (k + 1) (by omega) (by omega)
  refine z_sub [0, 1, 2, 3, 4, 5] (lv' := [(5, .int 0), (4, .int 0), (0, .ref 1), (1, .ref 2), (2, .int v), (3, .int (nI n))]) rfl ?_
  refine z_eqs (lv2 := [(5, .int (nI 0)), (4, .int (nI (zSN (fun y => zCe cart v (nI y) c) 0))), (0, .ref 1), (1, .ref 2), (2, .int v), (3, .int (nI n))]) (h2 := (zHp (c, r, w, lim, tol, cart, wov, lot, sew, mis, cnt, col, len, lef, sbt, shd) X Y out)) (by rfl) (by rfl) ?_
  exact L6_1 (n + 1) 0 (Nat.zero_le _) (by omega)

set_option maxHeartbeats 4000000 in
set_option maxRecDepth 100000 in
theorem c_cellsIn4 {G : zT} {c r w lim cnt : Nat} {tol : Int32} {cart wov lot sew mis col len lef sbt : Nat → Int32} {shd : Nat → UInt32} {X : zXr} {Y : zYr} {out : Nat → Int64} (hG : zAl G = false) (hc : c ≤ 20) (hr : r ≤ 16) (hw : w ≤ r) (hn : cnt ≤ 16) (v : Int32) (n : Nat) (hn9 : n ≤ 16) : zRun G mX4_cellsIn 0 0 [.ref 1, .ref 4, .int v, .int (nI n)] (zHp (c, r, w, lim, tol, cart, wov, lot, sew, mis, cnt, col, len, lef, sbt, shd) X Y out) (.inr (some (.int (nI (zCi wov v c n))))) (zHp (c, r, w, lim, tol, cart, wov, lot, sew, mis, cnt, col, len, lef, sbt, shd) X Y out) := by
  refine zRun_of (by decide +kernel) rfl rfl (Nat.le_of_ble_eq_true rfl) ?_
  suffices hs : ∀ (o9 : zO) (h9 : zH), (Sum.inr (some (.int (nI (zCi wov v c n)))) : zO) = o9 → (zHp (c, r, w, lim, tol, cart, wov, lot, sew, mis, cnt, col, len, lef, sbt, shd) X Y out) = h9 → zPW G mX4_cellsIn 0 0 o9 h9 0 0 0 [(0, .ref 1), (1, .ref 4), (2, .int v), (3, .int (nI n))] [] (zHp (c, r, w, lim, tol, cart, wov, lot, sew, mis, cnt, col, len, lef, sbt, shd) X Y out) from hs _ _ rfl rfl
  intro o9 h9 ho9 hh9
  refine z_iconst (v := 0) dX4_cellsIn_0 (by decide) ?_
  refine z_istore (lv' := [(4, .int 0), (0, .ref 1), (1, .ref 4), (2, .int v), (3, .int (nI n))]) dX4_cellsIn_1 (by decide) rfl ?_
  refine z_iconst (v := 0) dX4_cellsIn_3 (by decide) ?_
  refine z_istore (lv' := [(5, .int 0), (4, .int 0), (0, .ref 1), (1, .ref 4), (2, .int v), (3, .int (nI n))]) dX4_cellsIn_4 (by decide) rfl ?_
  have L6_1 : ∀ (d k : Nat), k ≤ n → n + 1 ≤ k + d → zPW G mX4_cellsIn 0 0 o9 h9 0 0 6 [(5, .int (nI k)), (4, .int (nI (zSN (fun y => zCe wov v (nI y) c) k))), (0, .ref 1), (1, .ref 4), (2, .int v), (3, .int (nI n))] [] (zHp (c, r, w, lim, tol, cart, wov, lot, sew, mis, cnt, col, len, lef, sbt, shd) X Y out) := by
    intro d
    induction d with
    | zero => intro k hk hd; exact absurd hd (by omega)
    | succ d ih =>
      intro k hk_k hd_k
      have ih6 := ih
      clear ih
      refine z_iload 0 dX4_cellsIn_6 rfl ?_
      refine z_iload_n 5 dX4_cellsIn_8 rfl rfl ?_
      refine z_icmp_ge (tgt := 34) dX4_cellsIn_9 (by decide) (fun c_9 => ?_) (fun c_9 => ?_)
      · skip
        have hx_k := zge (by omega) hk_k c_9
        refine z_iload 1 dX4_cellsIn_34 rfl ?_
        exact z_iret rfl dX4_cellsIn_36 (zo_i ho9 (by rw [zCi, hx_k])) (zo_h hh9 (by rfl)) (Nat.zero_le _) (Nat.zero_le _)
      · skip
        have hx_k := zlt' (by omega) hk_k c_9
        refine z_iload 1 dX4_cellsIn_12 rfl ?_
        refine z_aload_n 3 dX4_cellsIn_14 rfl rfl ?_
        refine z_iload_n 4 dX4_cellsIn_15 rfl rfl ?_
        refine z_iload 0 dX4_cellsIn_16 rfl ?_
        refine z_aload_n 2 dX4_cellsIn_18 rfl rfl ?_
        refine z_get (v := .int (nI c)) 0 rfl rfl inX4 (by decide) zw_130 rfl rfl dX4_cellsIn_19 ?_
        refine z_callV (N := mX2_cellsOf) 3 [.int v, .int (nI k), .int (nI c)] [.int (nI (zSN (fun y => zCe wov v (nI y) c) k))] lX2_cellsOf ⟨zw_296, zw_297, zw_298⟩ rfl rfl rfl rfl (Nat.le_of_ble_eq_true rfl) (by decide) ⟨zlt, zlt⟩ ⟨Nat.zero_le _, Nat.zero_le _⟩ (fun _ => rfl) (c_gCells (g := 4) (v := 5) (f := wov) hG zlt rfl rfl v (nI k) (c := c) (by omega)) dX4_cellsIn_22 ?_
        refine z_iadd dX4_cellsIn_25 ?_
        refine z_istore (lv' := [(4, .int ((nI (zSN (fun y => zCe wov v (nI y) c) k)) + (nI (zCe wov v (nI k) c)))), (5, .int (nI k)), (0, .ref 1), (1, .ref 4), (2, .int v), (3, .int (nI n))]) dX4_cellsIn_26 (by decide) rfl ?_
        refine z_iinc (v := nI (k + 1)) (lv' := [(5, .int (nI (k + 1))), (4, .int ((nI (zSN (fun y => zCe wov v (nI y) c) k)) + (nI (zCe wov v (nI k) c)))), (0, .ref 1), (1, .ref 4), (2, .int v), (3, .int (nI n))]) 1 dX4_cellsIn_28 rfl (nI_1 k) (by decide) rfl ?_
        refine z_goto (tgt := 6) dX4_cellsIn_31 (by decide) ?_
        refine z_sub [0, 1, 2, 3, 4, 5] (lv' := [(5, .int (nI (k + 1))), (4, .int ((nI (zSN (fun y => zCe wov v (nI y) c) k)) + (nI (zCe wov v (nI k) c)))), (0, .ref 1), (1, .ref 4), (2, .int v), (3, .int (nI n))]) rfl ?_
        refine z_eqs (lv2 := [(5, .int (nI (k + 1))), (4, .int (nI (zSN (fun y => zCe wov v (nI y) c) (k + 1)))), (0, .ref 1), (1, .ref 4), (2, .int v), (3, .int (nI n))]) (h2 := (zHp (c, r, w, lim, tol, cart, wov, lot, sew, mis, cnt, col, len, lef, sbt, shd) X Y out)) (by rw [← zSN_s (fun y => zCe wov v (nI y) c) k]) (by rfl) ?_
        exact ih6 (k + 1) (by omega) (by omega)
  refine z_sub [0, 1, 2, 3, 4, 5] (lv' := [(5, .int 0), (4, .int 0), (0, .ref 1), (1, .ref 4), (2, .int v), (3, .int (nI n))]) rfl ?_
  refine z_eqs (lv2 := [(5, .int (nI 0)), (4, .int (nI (zSN (fun y => zCe wov v (nI y) c) 0))), (0, .ref 1), (1, .ref 4), (2, .int v), (3, .int (nI n))]) (h2 := (zHp (c, r, w, lim, tol, cart, wov, lot, sew, mis, cnt, col, len, lef, sbt, shd) X Y out)) (by rfl) (by rfl) ?_
  exact L6_1 (n + 1) 0 (Nat.zero_le _) (by omega)

set_option maxHeartbeats 4000000 in
set_option maxRecDepth 100000 in
theorem c_cellsIn6 {G : zT} {c r w lim cnt : Nat} {tol : Int32} {cart wov lot sew mis col len lef sbt : Nat → Int32} {shd : Nat → UInt32} {X : zXr} {Y : zYr} {out : Nat → Int64} (hG : zAl G = false) (hc : c ≤ 20) (hr : r ≤ 16) (hw : w ≤ r) (hn : cnt ≤ 16) (v : Int32) (n : Nat) (hn9 : n ≤ 16) : zRun G mX4_cellsIn 0 0 [.ref 1, .ref 6, .int v, .int (nI n)] (zHp (c, r, w, lim, tol, cart, wov, lot, sew, mis, cnt, col, len, lef, sbt, shd) X Y out) (.inr (some (.int (nI (zCi lot v c n))))) (zHp (c, r, w, lim, tol, cart, wov, lot, sew, mis, cnt, col, len, lef, sbt, shd) X Y out) := by
  refine zRun_of (by decide +kernel) rfl rfl (Nat.le_of_ble_eq_true rfl) ?_
  suffices hs : ∀ (o9 : zO) (h9 : zH), (Sum.inr (some (.int (nI (zCi lot v c n)))) : zO) = o9 → (zHp (c, r, w, lim, tol, cart, wov, lot, sew, mis, cnt, col, len, lef, sbt, shd) X Y out) = h9 → zPW G mX4_cellsIn 0 0 o9 h9 0 0 0 [(0, .ref 1), (1, .ref 6), (2, .int v), (3, .int (nI n))] [] (zHp (c, r, w, lim, tol, cart, wov, lot, sew, mis, cnt, col, len, lef, sbt, shd) X Y out) from hs _ _ rfl rfl
  intro o9 h9 ho9 hh9
  refine z_iconst (v := 0) dX4_cellsIn_0 (by decide) ?_
  refine z_istore (lv' := [(4, .int 0), (0, .ref 1), (1, .ref 6), (2, .int v), (3, .int (nI n))]) dX4_cellsIn_1 (by decide) rfl ?_
  refine z_iconst (v := 0) dX4_cellsIn_3 (by decide) ?_
  refine z_istore (lv' := [(5, .int 0), (4, .int 0), (0, .ref 1), (1, .ref 6), (2, .int v), (3, .int (nI n))]) dX4_cellsIn_4 (by decide) rfl ?_
  have L6_1 : ∀ (d k : Nat), k ≤ n → n + 1 ≤ k + d → zPW G mX4_cellsIn 0 0 o9 h9 0 0 6 [(5, .int (nI k)), (4, .int (nI (zSN (fun y => zCe lot v (nI y) c) k))), (0, .ref 1), (1, .ref 6), (2, .int v), (3, .int (nI n))] [] (zHp (c, r, w, lim, tol, cart, wov, lot, sew, mis, cnt, col, len, lef, sbt, shd) X Y out) := by
    intro d
    induction d with
    | zero => intro k hk hd; exact absurd hd (by omega)
    | succ d ih =>
      intro k hk_k hd_k
      have ih6 := ih
      clear ih
      refine z_iload 0 dX4_cellsIn_6 rfl ?_
      refine z_iload_n 5 dX4_cellsIn_8 rfl rfl ?_
      refine z_icmp_ge (tgt := 34) dX4_cellsIn_9 (by decide) (fun c_9 => ?_) (fun c_9 => ?_)
      · skip
        have hx_k := zge (by omega) hk_k c_9
        refine z_iload 1 dX4_cellsIn_34 rfl ?_
        exact z_iret rfl dX4_cellsIn_36 (zo_i ho9 (by rw [zCi, hx_k])) (zo_h hh9 (by rfl)) (Nat.zero_le _) (Nat.zero_le _)
      · skip
        have hx_k := zlt' (by omega) hk_k c_9
        refine z_iload 1 dX4_cellsIn_12 rfl ?_
        refine z_aload_n 3 dX4_cellsIn_14 rfl rfl ?_
        refine z_iload_n 4 dX4_cellsIn_15 rfl rfl ?_
        refine z_iload 0 dX4_cellsIn_16 rfl ?_
        refine z_aload_n 2 dX4_cellsIn_18 rfl rfl ?_
        refine z_get (v := .int (nI c)) 0 rfl rfl inX4 (by decide) zw_130 rfl rfl dX4_cellsIn_19 ?_
        refine z_callV (N := mX2_cellsOf) 3 [.int v, .int (nI k), .int (nI c)] [.int (nI (zSN (fun y => zCe lot v (nI y) c) k))] lX2_cellsOf ⟨zw_296, zw_297, zw_298⟩ rfl rfl rfl rfl (Nat.le_of_ble_eq_true rfl) (by decide) ⟨zlt, zlt⟩ ⟨Nat.zero_le _, Nat.zero_le _⟩ (fun _ => rfl) (c_gCells (g := 6) (v := 7) (f := lot) hG zlt rfl rfl v (nI k) (c := c) (by omega)) dX4_cellsIn_22 ?_
        refine z_iadd dX4_cellsIn_25 ?_
        refine z_istore (lv' := [(4, .int ((nI (zSN (fun y => zCe lot v (nI y) c) k)) + (nI (zCe lot v (nI k) c)))), (5, .int (nI k)), (0, .ref 1), (1, .ref 6), (2, .int v), (3, .int (nI n))]) dX4_cellsIn_26 (by decide) rfl ?_
        refine z_iinc (v := nI (k + 1)) (lv' := [(5, .int (nI (k + 1))), (4, .int ((nI (zSN (fun y => zCe lot v (nI y) c) k)) + (nI (zCe lot v (nI k) c)))), (0, .ref 1), (1, .ref 6), (2, .int v), (3, .int (nI n))]) 1 dX4_cellsIn_28 rfl (nI_1 k) (by decide) rfl ?_
        refine z_goto (tgt := 6) dX4_cellsIn_31 (by decide) ?_
        refine z_sub [0, 1, 2, 3, 4, 5] (lv' := [(5, .int (nI (k + 1))), (4, .int ((nI (zSN (fun y => zCe lot v (nI y) c) k)) + (nI (zCe lot v (nI k) c)))), (0, .ref 1), (1, .ref 6), (2, .int v), (3, .int (nI n))]) rfl ?_
        refine z_eqs (lv2 := [(5, .int (nI (k + 1))), (4, .int (nI (zSN (fun y => zCe lot v (nI y) c) (k + 1)))), (0, .ref 1), (1, .ref 6), (2, .int v), (3, .int (nI n))]) (h2 := (zHp (c, r, w, lim, tol, cart, wov, lot, sew, mis, cnt, col, len, lef, sbt, shd) X Y out)) (by rw [← zSN_s (fun y => zCe lot v (nI y) c) k]) (by rfl) ?_
        exact ih6 (k + 1) (by omega) (by omega)
  refine z_sub [0, 1, 2, 3, 4, 5] (lv' := [(5, .int 0), (4, .int 0), (0, .ref 1), (1, .ref 6), (2, .int v), (3, .int (nI n))]) rfl ?_
  refine z_eqs (lv2 := [(5, .int (nI 0)), (4, .int (nI (zSN (fun y => zCe lot v (nI y) c) 0))), (0, .ref 1), (1, .ref 6), (2, .int v), (3, .int (nI n))]) (h2 := (zHp (c, r, w, lim, tol, cart, wov, lot, sew, mis, cnt, col, len, lef, sbt, shd) X Y out)) (by rfl) (by rfl) ?_
  exact L6_1 (n + 1) 0 (Nat.zero_le _) (by omega)

set_option maxHeartbeats 4000000 in
set_option maxRecDepth 100000 in
theorem c_cellsIn8 {G : zT} {c r w lim cnt : Nat} {tol : Int32} {cart wov lot sew mis col len lef sbt : Nat → Int32} {shd : Nat → UInt32} {X : zXr} {Y : zYr} {out : Nat → Int64} (hG : zAl G = false) (hc : c ≤ 20) (hr : r ≤ 16) (hw : w ≤ r) (hn : cnt ≤ 16) (v : Int32) (n : Nat) (hn9 : n ≤ 16) : zRun G mX4_cellsIn 0 0 [.ref 1, .ref 8, .int v, .int (nI n)] (zHp (c, r, w, lim, tol, cart, wov, lot, sew, mis, cnt, col, len, lef, sbt, shd) X Y out) (.inr (some (.int (nI (zCi sew v c n))))) (zHp (c, r, w, lim, tol, cart, wov, lot, sew, mis, cnt, col, len, lef, sbt, shd) X Y out) := by
  refine zRun_of (by decide +kernel) rfl rfl (Nat.le_of_ble_eq_true rfl) ?_
  suffices hs : ∀ (o9 : zO) (h9 : zH), (Sum.inr (some (.int (nI (zCi sew v c n)))) : zO) = o9 → (zHp (c, r, w, lim, tol, cart, wov, lot, sew, mis, cnt, col, len, lef, sbt, shd) X Y out) = h9 → zPW G mX4_cellsIn 0 0 o9 h9 0 0 0 [(0, .ref 1), (1, .ref 8), (2, .int v), (3, .int (nI n))] [] (zHp (c, r, w, lim, tol, cart, wov, lot, sew, mis, cnt, col, len, lef, sbt, shd) X Y out) from hs _ _ rfl rfl
  intro o9 h9 ho9 hh9
  refine z_iconst (v := 0) dX4_cellsIn_0 (by decide) ?_
  refine z_istore (lv' := [(4, .int 0), (0, .ref 1), (1, .ref 8), (2, .int v), (3, .int (nI n))]) dX4_cellsIn_1 (by decide) rfl ?_
  refine z_iconst (v := 0) dX4_cellsIn_3 (by decide) ?_
  refine z_istore (lv' := [(5, .int 0), (4, .int 0), (0, .ref 1), (1, .ref 8), (2, .int v), (3, .int (nI n))]) dX4_cellsIn_4 (by decide) rfl ?_
  have L6_1 : ∀ (d k : Nat), k ≤ n → n + 1 ≤ k + d → zPW G mX4_cellsIn 0 0 o9 h9 0 0 6 [(5, .int (nI k)), (4, .int (nI (zSN (fun y => zCe sew v (nI y) c) k))), (0, .ref 1), (1, .ref 8), (2, .int v), (3, .int (nI n))] [] (zHp (c, r, w, lim, tol, cart, wov, lot, sew, mis, cnt, col, len, lef, sbt, shd) X Y out) := by
    intro d
    induction d with
    | zero => intro k hk hd; exact absurd hd (by omega)
    | succ d ih =>
      intro k hk_k hd_k
      have ih6 := ih
      clear ih
      refine z_iload 0 dX4_cellsIn_6 rfl ?_
      refine z_iload_n 5 dX4_cellsIn_8 rfl rfl ?_
      refine z_icmp_ge (tgt := 34) dX4_cellsIn_9 (by decide) (fun c_9 => ?_) (fun c_9 => ?_)
      · skip
        have hx_k := zge (by omega) hk_k c_9
        refine z_iload 1 dX4_cellsIn_34 rfl ?_
        exact z_iret rfl dX4_cellsIn_36 (zo_i ho9 (by rw [zCi, hx_k])) (zo_h hh9 (by rfl)) (Nat.zero_le _) (Nat.zero_le _)
      · skip
        have hx_k := zlt' (by omega) hk_k c_9
        refine z_iload 1 dX4_cellsIn_12 rfl ?_
        refine z_aload_n 3 dX4_cellsIn_14 rfl rfl ?_
        refine z_iload_n 4 dX4_cellsIn_15 rfl rfl ?_
        refine z_iload 0 dX4_cellsIn_16 rfl ?_
        refine z_aload_n 2 dX4_cellsIn_18 rfl rfl ?_
        refine z_get (v := .int (nI c)) 0 rfl rfl inX4 (by decide) zw_130 rfl rfl dX4_cellsIn_19 ?_
        refine z_callV (N := mX2_cellsOf) 3 [.int v, .int (nI k), .int (nI c)] [.int (nI (zSN (fun y => zCe sew v (nI y) c) k))] lX2_cellsOf ⟨zw_296, zw_297, zw_298⟩ rfl rfl rfl rfl (Nat.le_of_ble_eq_true rfl) (by decide) ⟨zlt, zlt⟩ ⟨Nat.zero_le _, Nat.zero_le _⟩ (fun _ => rfl) (c_gCells (g := 8) (v := 9) (f := sew) hG zlt rfl rfl v (nI k) (c := c) (by omega)) dX4_cellsIn_22 ?_
        refine z_iadd dX4_cellsIn_25 ?_
        refine z_istore (lv' := [(4, .int ((nI (zSN (fun y => zCe sew v (nI y) c) k)) + (nI (zCe sew v (nI k) c)))), (5, .int (nI k)), (0, .ref 1), (1, .ref 8), (2, .int v), (3, .int (nI n))]) dX4_cellsIn_26 (by decide) rfl ?_
        refine z_iinc (v := nI (k + 1)) (lv' := [(5, .int (nI (k + 1))), (4, .int ((nI (zSN (fun y => zCe sew v (nI y) c) k)) + (nI (zCe sew v (nI k) c)))), (0, .ref 1), (1, .ref 8), (2, .int v), (3, .int (nI n))]) 1 dX4_cellsIn_28 rfl (nI_1 k) (by decide) rfl ?_
        refine z_goto (tgt := 6) dX4_cellsIn_31 (by decide) ?_
        refine z_sub [0, 1, 2, 3, 4, 5] (lv' := [(5, .int (nI (k + 1))), (4, .int ((nI (zSN (fun y => zCe sew v (nI y) c) k)) + (nI (zCe sew v (nI k) c)))), (0, .ref 1), (1, .ref 8), (2, .int v), (3, .int (nI n))]) rfl ?_
        refine z_eqs (lv2 := [(5, .int (nI (k + 1))), (4, .int (nI (zSN (fun y => zCe sew v (nI y) c) (k + 1)))), (0, .ref 1), (1, .ref 8), (2, .int v), (3, .int (nI n))]) (h2 := (zHp (c, r, w, lim, tol, cart, wov, lot, sew, mis, cnt, col, len, lef, sbt, shd) X Y out)) (by rw [← zSN_s (fun y => zCe sew v (nI y) c) k]) (by rfl) ?_
        exact ih6 (k + 1) (by omega) (by omega)
  refine z_sub [0, 1, 2, 3, 4, 5] (lv' := [(5, .int 0), (4, .int 0), (0, .ref 1), (1, .ref 8), (2, .int v), (3, .int (nI n))]) rfl ?_
  refine z_eqs (lv2 := [(5, .int (nI 0)), (4, .int (nI (zSN (fun y => zCe sew v (nI y) c) 0))), (0, .ref 1), (1, .ref 8), (2, .int v), (3, .int (nI n))]) (h2 := (zHp (c, r, w, lim, tol, cart, wov, lot, sew, mis, cnt, col, len, lef, sbt, shd) X Y out)) (by rfl) (by rfl) ?_
  exact L6_1 (n + 1) 0 (Nat.zero_le _) (by omega)

set_option maxHeartbeats 4000000 in
set_option maxRecDepth 100000 in
theorem c_lotsInRow {G : zT} {c r w lim cnt : Nat} {tol : Int32} {cart wov lot sew mis col len lef sbt : Nat → Int32} {shd : Nat → UInt32} {X : zXr} {Y : zYr} {out : Nat → Int64} (hG : zAl G = false) (hc : c ≤ 20) (hr : r ≤ 16) (hw : w ≤ r) (hn : cnt ≤ 16) (y : Int32) : zRun G mX4_lotsInRow 0 0 [.ref 1, .int y] (zHp (c, r, w, lim, tol, cart, wov, lot, sew, mis, cnt, col, len, lef, sbt, shd) X Y out) (.inr (some (.int (nI (zLr lot y c cnt))))) (zHp (c, r, w, lim, tol, cart, wov, lot, sew, mis, cnt, col, len, lef, sbt, shd) X Y out) := by
  refine zRun_of (by decide +kernel) rfl rfl (Nat.le_of_ble_eq_true rfl) ?_
  suffices hs : ∀ (o9 : zO) (h9 : zH), (Sum.inr (some (.int (nI (zLr lot y c cnt)))) : zO) = o9 → (zHp (c, r, w, lim, tol, cart, wov, lot, sew, mis, cnt, col, len, lef, sbt, shd) X Y out) = h9 → zPW G mX4_lotsInRow 0 0 o9 h9 0 0 0 [(0, .ref 1), (1, .int y)] [] (zHp (c, r, w, lim, tol, cart, wov, lot, sew, mis, cnt, col, len, lef, sbt, shd) X Y out) from hs _ _ rfl rfl
  intro o9 h9 ho9 hh9
  refine z_iconst (v := 0) dX4_lotsInRow_0 (by decide) ?_
  refine z_istore_n (lv' := [(2, .int 0), (0, .ref 1), (1, .int y)]) dX4_lotsInRow_1 rfl (by decide) rfl ?_
  refine z_iconst (v := 0) dX4_lotsInRow_2 (by decide) ?_
  refine z_istore_n (lv' := [(3, .int 0), (2, .int 0), (0, .ref 1), (1, .int y)]) dX4_lotsInRow_3 rfl (by decide) rfl ?_
  have L4_1 : ∀ (d k : Nat), k ≤ cnt → cnt + 1 ≤ k + d → zPW G mX4_lotsInRow 0 0 o9 h9 0 0 4 [(3, .int (nI k)), (2, .int (nI (zCt (fun l => decide (0 < zCe lot (nI l) y c)) k))), (0, .ref 1), (1, .int y)] [] (zHp (c, r, w, lim, tol, cart, wov, lot, sew, mis, cnt, col, len, lef, sbt, shd) X Y out) := by
    intro d
    induction d with
    | zero => intro k hk hd; exact absurd hd (by omega)
    | succ d ih =>
      intro k hk_k hd_k
      have ih4 := ih
      clear ih
      refine z_iload_n 0 dX4_lotsInRow_4 rfl rfl ?_
      refine z_aload_n 2 dX4_lotsInRow_5 rfl rfl ?_
      refine z_get (v := .ref 12) 10 rfl rfl inX4 (by decide) zw_145 rfl rfl dX4_lotsInRow_6 ?_
      refine z_getN (v := .int (nI cnt)) 0 rfl rfl inX5 (by decide) (by decide) rfl rfl dX4_lotsInRow_9 ?_
      refine z_icmp_ge (tgt := 45) dX4_lotsInRow_12 (by decide) (fun c_12 => ?_) (fun c_12 => ?_)
      · skip
        have hx_k := zge (by omega) hk_k c_12
        refine z_iload_n 1 dX4_lotsInRow_45 rfl rfl ?_
        exact z_iret rfl dX4_lotsInRow_46 (zo_i ho9 (by rw [zLr, hx_k])) (zo_h hh9 (by rfl)) (Nat.zero_le _) (Nat.zero_le _)
      · skip
        have hx_k := zlt' (by omega) hk_k c_12
        refine z_iload_n 1 dX4_lotsInRow_15 rfl rfl ?_
        refine z_aload_n 2 dX4_lotsInRow_16 rfl rfl ?_
        refine z_get (v := .ref 6) 7 rfl rfl inX4 (by decide) zw_142 rfl rfl dX4_lotsInRow_17 ?_
        refine z_iload_n 0 dX4_lotsInRow_20 rfl rfl ?_
        refine z_iload_n 3 dX4_lotsInRow_21 rfl rfl ?_
        refine z_aload_n 2 dX4_lotsInRow_22 rfl rfl ?_
        refine z_get (v := .int (nI c)) 0 rfl rfl inX4 (by decide) zw_130 rfl rfl dX4_lotsInRow_23 ?_
        refine z_callV (N := mX2_cellsOf) 3 [.int (nI k), .int y, .int (nI c)] [.int (nI (zCt (fun l => decide (0 < zCe lot (nI l) y c)) k))] lX2_cellsOf ⟨zw_296, zw_297, zw_298⟩ rfl rfl rfl rfl (Nat.le_of_ble_eq_true rfl) (by decide) ⟨zlt, zlt⟩ ⟨Nat.zero_le _, Nat.zero_le _⟩ (fun _ => rfl) (c_gCells (g := 6) (v := 7) (f := lot) hG zlt rfl rfl (nI k) y (c := c) (by omega)) dX4_lotsInRow_26 ?_
        refine z_if_le (tgt := 36) dX4_lotsInRow_29 (by decide) (fun c_29 => ?_) (fun c_29 => ?_)
        · skip
          refine z_iconst (v := 0) dX4_lotsInRow_36 (by decide) ?_
          refine z_iadd dX4_lotsInRow_37 ?_
          refine z_istore_n (lv' := [(2, .int ((nI (zCt (fun l => decide (0 < zCe lot (nI l) y c)) k)) + 0)), (3, .int (nI k)), (0, .ref 1), (1, .int y)]) dX4_lotsInRow_38 rfl (by decide) rfl ?_
          refine z_iinc (v := nI (k + 1)) (lv' := [(3, .int (nI (k + 1))), (2, .int ((nI (zCt (fun l => decide (0 < zCe lot (nI l) y c)) k)) + 0)), (0, .ref 1), (1, .int y)]) 1 dX4_lotsInRow_39 rfl (nI_1 k) (by decide) rfl ?_
          refine z_goto (tgt := 4) dX4_lotsInRow_42 (by decide) ?_
          refine z_sub [0, 1, 2, 3] (lv' := [(3, .int (nI (k + 1))), (2, .int ((nI (zCt (fun l => decide (0 < zCe lot (nI l) y c)) k)) + 0)), (0, .ref 1), (1, .int y)]) rfl ?_
          refine z_eqs (lv2 := [(3, .int (nI (k + 1))), (2, .int (nI (zCt (fun l => decide (0 < zCe lot (nI l) y c)) (k + 1)))), (0, .ref 1), (1, .int y)]) (h2 := (zHp (c, r, w, lim, tol, cart, wov, lot, sew, mis, cnt, col, len, lef, sbt, shd) X Y out)) (by first | rw [zCt_t (p := (fun l => decide (0 < zCe lot (nI l) y c))) (decide_eq_true (Nat.pos_of_ne_zero fun q => c_29 (by rw [q]; decide)))] | rw [zCt_f (p := (fun l => decide (0 < zCe lot (nI l) y c))) (decide_eq_false fun q => nI_nle q (Nat.lt_of_le_of_lt (zCe_le _ _ _ _) (by omega)) c_29)]) (by rfl) ?_
          exact ih4 (k + 1) (by omega) (by omega)
        · skip
          refine z_iconst (v := 1) dX4_lotsInRow_32 (by decide) ?_
          refine z_goto (tgt := 37) dX4_lotsInRow_33 (by decide) ?_
          refine z_iadd dX4_lotsInRow_37 ?_
          refine z_istore_n (lv' := [(2, .int ((nI (zCt (fun l => decide (0 < zCe lot (nI l) y c)) k)) + 1)), (3, .int (nI k)), (0, .ref 1), (1, .int y)]) dX4_lotsInRow_38 rfl (by decide) rfl ?_
          refine z_iinc (v := nI (k + 1)) (lv' := [(3, .int (nI (k + 1))), (2, .int ((nI (zCt (fun l => decide (0 < zCe lot (nI l) y c)) k)) + 1)), (0, .ref 1), (1, .int y)]) 1 dX4_lotsInRow_39 rfl (nI_1 k) (by decide) rfl ?_
          refine z_goto (tgt := 4) dX4_lotsInRow_42 (by decide) ?_
          refine z_sub [0, 1, 2, 3] (lv' := [(3, .int (nI (k + 1))), (2, .int ((nI (zCt (fun l => decide (0 < zCe lot (nI l) y c)) k)) + 1)), (0, .ref 1), (1, .int y)]) rfl ?_
          refine z_eqs (lv2 := [(3, .int (nI (k + 1))), (2, .int (nI (zCt (fun l => decide (0 < zCe lot (nI l) y c)) (k + 1)))), (0, .ref 1), (1, .int y)]) (h2 := (zHp (c, r, w, lim, tol, cart, wov, lot, sew, mis, cnt, col, len, lef, sbt, shd) X Y out)) (by first | rw [zCt_t (p := (fun l => decide (0 < zCe lot (nI l) y c))) (decide_eq_true (Nat.pos_of_ne_zero fun q => c_29 (by rw [q]; decide)))] | rw [zCt_f (p := (fun l => decide (0 < zCe lot (nI l) y c))) (decide_eq_false fun q => nI_nle q (Nat.lt_of_le_of_lt (zCe_le _ _ _ _) (by omega)) c_29)]) (by rfl) ?_
          exact ih4 (k + 1) (by omega) (by omega)
  refine z_sub [0, 1, 2, 3] (lv' := [(3, .int 0), (2, .int 0), (0, .ref 1), (1, .int y)]) rfl ?_
  refine z_eqs (lv2 := [(3, .int (nI 0)), (2, .int (nI (zCt (fun l => decide (0 < zCe lot (nI l) y c)) 0))), (0, .ref 1), (1, .int y)]) (h2 := (zHp (c, r, w, lim, tol, cart, wov, lot, sew, mis, cnt, col, len, lef, sbt, shd) X Y out)) (by rfl) (by rfl) ?_
  exact L4_1 (cnt + 1) 0 (Nat.zero_le _) (by omega)

set_option maxHeartbeats 4000000 in
set_option maxRecDepth 100000 in
theorem c_wovenRuns {G : zT} {c r w lim cnt : Nat} {tol : Int32} {cart wov lot sew mis col len lef sbt : Nat → Int32} {shd : Nat → UInt32} {X : zXr} {Y : zYr} {out : Nat → Int64} (hG : zAl G = false) (hc : c ≤ 20) (hr : r ≤ 16) (hw : w ≤ r) (hn : cnt ≤ 16) (v : Int32) : zRun G mX4_wovenRuns 0 0 [.ref 1, .int v] (zHp (c, r, w, lim, tol, cart, wov, lot, sew, mis, cnt, col, len, lef, sbt, shd) X Y out) (.inr (some (.int (nI (zSN (fun y => zRo wov v (nI y) c) w))))) (zHp (c, r, w, lim, tol, cart, wov, lot, sew, mis, cnt, col, len, lef, sbt, shd) X Y out) := by
  refine zRun_of (by decide +kernel) rfl rfl (Nat.le_of_ble_eq_true rfl) ?_
  suffices hs : ∀ (o9 : zO) (h9 : zH), (Sum.inr (some (.int (nI (zSN (fun y => zRo wov v (nI y) c) w)))) : zO) = o9 → (zHp (c, r, w, lim, tol, cart, wov, lot, sew, mis, cnt, col, len, lef, sbt, shd) X Y out) = h9 → zPW G mX4_wovenRuns 0 0 o9 h9 0 0 0 [(0, .ref 1), (1, .int v)] [] (zHp (c, r, w, lim, tol, cart, wov, lot, sew, mis, cnt, col, len, lef, sbt, shd) X Y out) from hs _ _ rfl rfl
  intro o9 h9 ho9 hh9
  refine z_iconst (v := 0) dX4_wovenRuns_0 (by decide) ?_
  refine z_istore_n (lv' := [(2, .int 0), (0, .ref 1), (1, .int v)]) dX4_wovenRuns_1 rfl (by decide) rfl ?_
  refine z_iconst (v := 0) dX4_wovenRuns_2 (by decide) ?_
  refine z_istore_n (lv' := [(3, .int 0), (2, .int 0), (0, .ref 1), (1, .int v)]) dX4_wovenRuns_3 rfl (by decide) rfl ?_
  have L4_1 : ∀ (d k : Nat), k ≤ w → w + 1 ≤ k + d → zPW G mX4_wovenRuns 0 0 o9 h9 0 0 4 [(3, .int (nI k)), (2, .int (nI (zSN (fun y => zRo wov v (nI y) c) k))), (0, .ref 1), (1, .int v)] [] (zHp (c, r, w, lim, tol, cart, wov, lot, sew, mis, cnt, col, len, lef, sbt, shd) X Y out) := by
    intro d
    induction d with
    | zero => intro k hk hd; exact absurd hd (by omega)
    | succ d ih =>
      intro k hk_k hd_k
      have ih4 := ih
      clear ih
      refine z_iload_n 0 dX4_wovenRuns_4 rfl rfl ?_
      refine z_aload_n 2 dX4_wovenRuns_5 rfl rfl ?_
      refine z_get (v := .int (nI w)) 2 rfl rfl inX4 (by decide) zw_134 rfl rfl dX4_wovenRuns_6 ?_
      refine z_icmp_ge (tgt := 34) dX4_wovenRuns_9 (by decide) (fun c_9 => ?_) (fun c_9 => ?_)
      · skip
        have hx_k := zge (by omega) hk_k c_9
        refine z_iload_n 1 dX4_wovenRuns_34 rfl rfl ?_
        exact z_iret rfl dX4_wovenRuns_35 (zo_i ho9 (by rw [hx_k])) (zo_h hh9 (by rfl)) (Nat.zero_le _) (Nat.zero_le _)
      · skip
        have hx_k := zlt' (by omega) hk_k c_9
        refine z_iload_n 1 dX4_wovenRuns_12 rfl rfl ?_
        refine z_aload_n 2 dX4_wovenRuns_13 rfl rfl ?_
        refine z_get (v := .ref 4) 6 rfl rfl inX4 (by decide) zw_141 rfl rfl dX4_wovenRuns_14 ?_
        refine z_iload_n 3 dX4_wovenRuns_17 rfl rfl ?_
        refine z_iload_n 0 dX4_wovenRuns_18 rfl rfl ?_
        refine z_aload_n 2 dX4_wovenRuns_19 rfl rfl ?_
        refine z_get (v := .int (nI c)) 0 rfl rfl inX4 (by decide) zw_130 rfl rfl dX4_wovenRuns_20 ?_
        refine z_callV (N := mX2_runsOf) 3 [.int v, .int (nI k), .int (nI c)] [.int (nI (zSN (fun y => zRo wov v (nI y) c) k))] lX2_runsOf ⟨zw_444, zw_445, zw_446⟩ rfl rfl rfl rfl (Nat.le_of_ble_eq_true rfl) (by decide) ⟨zlt, zlt⟩ ⟨Nat.zero_le _, Nat.zero_le _⟩ (fun _ => rfl) (c_gRunsOf (g := 4) (v := 5) (f := wov) hG zlt rfl rfl v (nI k) (c := c) (by omega)) dX4_wovenRuns_23 ?_
        refine z_iadd dX4_wovenRuns_26 ?_
        refine z_istore_n (lv' := [(2, .int ((nI (zSN (fun y => zRo wov v (nI y) c) k)) + (nI (zRo wov v (nI k) c)))), (3, .int (nI k)), (0, .ref 1), (1, .int v)]) dX4_wovenRuns_27 rfl (by decide) rfl ?_
        refine z_iinc (v := nI (k + 1)) (lv' := [(3, .int (nI (k + 1))), (2, .int ((nI (zSN (fun y => zRo wov v (nI y) c) k)) + (nI (zRo wov v (nI k) c)))), (0, .ref 1), (1, .int v)]) 1 dX4_wovenRuns_28 rfl (nI_1 k) (by decide) rfl ?_
        refine z_goto (tgt := 4) dX4_wovenRuns_31 (by decide) ?_
        refine z_sub [0, 1, 2, 3] (lv' := [(3, .int (nI (k + 1))), (2, .int ((nI (zSN (fun y => zRo wov v (nI y) c) k)) + (nI (zRo wov v (nI k) c)))), (0, .ref 1), (1, .int v)]) rfl ?_
        refine z_eqs (lv2 := [(3, .int (nI (k + 1))), (2, .int (nI (zSN (fun y => zRo wov v (nI y) c) (k + 1)))), (0, .ref 1), (1, .int v)]) (h2 := (zHp (c, r, w, lim, tol, cart, wov, lot, sew, mis, cnt, col, len, lef, sbt, shd) X Y out)) (by rw [← zSN_s (fun y => zRo wov v (nI y) c) k]) (by rfl) ?_
        exact ih4 (k + 1) (by omega) (by omega)
  refine z_sub [0, 1, 2, 3] (lv' := [(3, .int 0), (2, .int 0), (0, .ref 1), (1, .int v)]) rfl ?_
  refine z_eqs (lv2 := [(3, .int (nI 0)), (2, .int (nI (zSN (fun y => zRo wov v (nI y) c) 0))), (0, .ref 1), (1, .int v)]) (h2 := (zHp (c, r, w, lim, tol, cart, wov, lot, sew, mis, cnt, col, len, lef, sbt, shd) X Y out)) (by rfl) (by rfl) ?_
  exact L4_1 (w + 1) 0 (Nat.zero_le _) (by omega)

/-- units that the rows a .. a + d - 1 need -/
def zUc (cart : Nat → Int32) (v : Int32) (c : Nat) (a : Nat) (d : Nat) : Nat := zSN (fun j => zUn cart v c (a + j)) d

set_option maxHeartbeats 4000000 in
set_option maxRecDepth 100000 in
theorem c_unitsToCome {G : zT} {c r w lim cnt : Nat} {tol : Int32} {cart wov lot sew mis col len lef sbt : Nat → Int32} {shd : Nat → UInt32} {X : zXr} {Y : zYr} {out : Nat → Int64} (hG : zAl G = false) (hc : c ≤ 20) (hr : r ≤ 16) (hw : w ≤ r) (hn : cnt ≤ 16) (v : Int32) : zRun G mX4_unitsToCome 0 0 [.ref 1, .int v] (zHp (c, r, w, lim, tol, cart, wov, lot, sew, mis, cnt, col, len, lef, sbt, shd) X Y out) (.inr (some (.int (nI (zUc cart v c w (r - w)))))) (zHp (c, r, w, lim, tol, cart, wov, lot, sew, mis, cnt, col, len, lef, sbt, shd) X Y out) := by
  refine zRun_of (by decide +kernel) rfl rfl (Nat.le_of_ble_eq_true rfl) ?_
  suffices hs : ∀ (o9 : zO) (h9 : zH), (Sum.inr (some (.int (nI (zUc cart v c w (r - w))))) : zO) = o9 → (zHp (c, r, w, lim, tol, cart, wov, lot, sew, mis, cnt, col, len, lef, sbt, shd) X Y out) = h9 → zPW G mX4_unitsToCome 0 0 o9 h9 0 0 0 [(0, .ref 1), (1, .int v)] [] (zHp (c, r, w, lim, tol, cart, wov, lot, sew, mis, cnt, col, len, lef, sbt, shd) X Y out) from hs _ _ rfl rfl
  intro o9 h9 ho9 hh9
  refine z_iconst (v := 0) dX4_unitsToCome_0 (by decide) ?_
  refine z_istore_n (lv' := [(2, .int 0), (0, .ref 1), (1, .int v)]) dX4_unitsToCome_1 rfl (by decide) rfl ?_
  refine z_aload_n 1 dX4_unitsToCome_2 rfl rfl ?_
  refine z_get (v := .int (nI w)) 2 rfl rfl inX4 (by decide) zw_134 rfl rfl dX4_unitsToCome_3 ?_
  refine z_istore_n (lv' := [(3, .int (nI w)), (2, .int 0), (0, .ref 1), (1, .int v)]) dX4_unitsToCome_6 rfl (by decide) rfl ?_
  have L7_1 : ∀ (d k : Nat), k ≤ r → r + 1 ≤ k + d → w ≤ k → zPW G mX4_unitsToCome 0 0 o9 h9 0 0 7 [(3, .int (nI k)), (2, .int (nI (zSN (fun j => zUn cart v c (w + j)) (k - w)))), (0, .ref 1), (1, .int v)] [] (zHp (c, r, w, lim, tol, cart, wov, lot, sew, mis, cnt, col, len, lef, sbt, shd) X Y out) := by
    intro d
    induction d with
    | zero => intro k hk hd; exact absurd hd (by omega)
    | succ d ih =>
      intro k hk_k hd_k hw_k
      have ih7 := ih
      clear ih
      refine z_iload_n 0 dX4_unitsToCome_7 rfl rfl ?_
      refine z_aload_n 2 dX4_unitsToCome_8 rfl rfl ?_
      refine z_get (v := .int (nI r)) 1 rfl rfl inX4 (by decide) zw_132 rfl rfl dX4_unitsToCome_9 ?_
      refine z_icmp_ge (tgt := 37) dX4_unitsToCome_12 (by decide) (fun c_12 => ?_) (fun c_12 => ?_)
      · skip
        have hx_k := zge (by omega) hk_k c_12
        refine z_iload_n 1 dX4_unitsToCome_37 rfl rfl ?_
        exact z_iret rfl dX4_unitsToCome_38 (zo_i ho9 (by rw [zUc, hx_k])) (zo_h hh9 (by rfl)) (Nat.zero_le _) (Nat.zero_le _)
      · skip
        have hx_k := zlt' (by omega) hk_k c_12
        refine z_iload_n 1 dX4_unitsToCome_15 rfl rfl ?_
        refine z_aload_n 2 dX4_unitsToCome_16 rfl rfl ?_
        refine z_get (v := .ref 2) 5 rfl rfl inX4 (by decide) zw_139 rfl rfl dX4_unitsToCome_17 ?_
        refine z_iload_n 3 dX4_unitsToCome_20 rfl rfl ?_
        refine z_iload_n 0 dX4_unitsToCome_21 rfl rfl ?_
        refine z_aload_n 2 dX4_unitsToCome_22 rfl rfl ?_
        refine z_get (v := .int (nI c)) 0 rfl rfl inX4 (by decide) zw_130 rfl rfl dX4_unitsToCome_23 ?_
        refine z_callV (N := mX2_unitsOf) 3 [.int v, .int (nI k), .int (nI c)] [.int (nI (zSN (fun j => zUn cart v c (w + j)) (k - w)))] lX2_unitsOf ⟨zw_452, zw_453, zw_454⟩ rfl rfl rfl rfl (Nat.le_of_ble_eq_true rfl) (by decide) ⟨zlt, zlt⟩ ⟨Nat.zero_le _, Nat.zero_le _⟩ (fun _ => rfl) (c_gUnits (g := 2) (v := 3) (f := cart) hG zlt rfl rfl v (nI k) (c := c) (by omega)) dX4_unitsToCome_26 ?_
        refine z_iadd dX4_unitsToCome_29 ?_
        refine z_istore_n (lv' := [(2, .int ((nI (zSN (fun j => zUn cart v c (w + j)) (k - w))) + (nI (zCe cart v (nI k) c + zRo cart v (nI k) c)))), (3, .int (nI k)), (0, .ref 1), (1, .int v)]) dX4_unitsToCome_30 rfl (by decide) rfl ?_
        refine z_iinc (v := nI (k + 1)) (lv' := [(3, .int (nI (k + 1))), (2, .int ((nI (zSN (fun j => zUn cart v c (w + j)) (k - w))) + (nI (zCe cart v (nI k) c + zRo cart v (nI k) c)))), (0, .ref 1), (1, .int v)]) 1 dX4_unitsToCome_31 rfl (nI_1 k) (by decide) rfl ?_
        refine z_goto (tgt := 7) dX4_unitsToCome_34 (by decide) ?_
        refine z_sub [0, 1, 2, 3] (lv' := [(3, .int (nI (k + 1))), (2, .int ((nI (zSN (fun j => zUn cart v c (w + j)) (k - w))) + (nI (zCe cart v (nI k) c + zRo cart v (nI k) c)))), (0, .ref 1), (1, .int v)]) rfl ?_
        refine z_eqs (lv2 := [(3, .int (nI (k + 1))), (2, .int (nI (zSN (fun j => zUn cart v c (w + j)) ((k + 1) - w)))), (0, .ref 1), (1, .int v)]) (h2 := (zHp (c, r, w, lim, tol, cart, wov, lot, sew, mis, cnt, col, len, lef, sbt, shd) X Y out)) (by rw [show k + 1 - w = (k - w) + 1 by omega, ← zSN_s (fun j => zUn cart v c (w + j)) (k - w), zUn, show w + (k - w) = k by omega]) (by rfl) ?_
        exact ih7 (k + 1) (by omega) (by omega) (by omega)
  refine z_sub [0, 1, 2, 3] (lv' := [(3, .int (nI w)), (2, .int 0), (0, .ref 1), (1, .int v)]) rfl ?_
  refine z_eqs (lv2 := [(3, .int (nI w)), (2, .int (nI (zSN (fun j => zUn cart v c (w + j)) (w - w)))), (0, .ref 1), (1, .int v)]) (h2 := (zHp (c, r, w, lim, tol, cart, wov, lot, sew, mis, cnt, col, len, lef, sbt, shd) X Y out)) (by rw [Nat.sub_self]; rfl) (by rfl) ?_
  exact L7_1 (r + 1) w hw (by omega) (Nat.le_refl _)

set_option maxHeartbeats 4000000 in
set_option maxRecDepth 100000 in
theorem c_rowsWithYarn {G : zT} {c r w lim cnt : Nat} {tol : Int32} {cart wov lot sew mis col len lef sbt : Nat → Int32} {shd : Nat → UInt32} {X : zXr} {Y : zYr} {out : Nat → Int64} (hG : zAl G = false) (hc : c ≤ 20) (hr : r ≤ 16) (hw : w ≤ r) (hn : cnt ≤ 16) (v : Int32) : zRun G mX4_rowsWithYarnOf 0 0 [.ref 1, .int v] (zHp (c, r, w, lim, tol, cart, wov, lot, sew, mis, cnt, col, len, lef, sbt, shd) X Y out) (.inr (some (.int (nI (zRy cart v c w (r - w) (zLf col lef v cnt)))))) (zHp (c, r, w, lim, tol, cart, wov, lot, sew, mis, cnt, col, len, lef, sbt, shd) X Y out) := by
  refine zRun_of (by decide +kernel) rfl rfl (Nat.le_of_ble_eq_true rfl) ?_
  suffices hs : ∀ (o9 : zO) (h9 : zH), (Sum.inr (some (.int (nI (zRy cart v c w (r - w) (zLf col lef v cnt))))) : zO) = o9 → (zHp (c, r, w, lim, tol, cart, wov, lot, sew, mis, cnt, col, len, lef, sbt, shd) X Y out) = h9 → zPW G mX4_rowsWithYarnOf 0 0 o9 h9 0 0 0 [(0, .ref 1), (1, .int v)] [] (zHp (c, r, w, lim, tol, cart, wov, lot, sew, mis, cnt, col, len, lef, sbt, shd) X Y out) from hs _ _ rfl rfl
  intro o9 h9 ho9 hh9
  refine z_aload_n 0 dX4_rowsWithYarnOf_0 rfl rfl ?_
  refine z_get (v := .ref 12) 10 rfl rfl inX4 (by decide) zw_145 rfl rfl dX4_rowsWithYarnOf_1 ?_
  refine z_iload_n 1 dX4_rowsWithYarnOf_4 rfl rfl ?_
  refine z_callV (N := mX5_leftOf) 1 [.int v] [] lX5_leftOf ⟨zw_432, zw_433, zw_434⟩ rfl rfl rfl rfl (Nat.le_of_ble_eq_true rfl) (by decide) ⟨zlt, zlt⟩ ⟨Nat.zero_le _, Nat.zero_le _⟩ (fun _ => rfl) (c_lLeft hG hc hr hw hn v) dX4_rowsWithYarnOf_5 ?_
  refine z_istore_n (lv' := [(2, .int (zLf col lef v cnt)), (0, .ref 1), (1, .int v)]) dX4_rowsWithYarnOf_8 rfl (by decide) rfl ?_
  refine z_aload_n 1 dX4_rowsWithYarnOf_9 rfl rfl ?_
  refine z_get (v := .int (nI w)) 2 rfl rfl inX4 (by decide) zw_134 rfl rfl dX4_rowsWithYarnOf_10 ?_
  refine z_istore_n (lv' := [(3, .int (nI w)), (2, .int (zLf col lef v cnt)), (0, .ref 1), (1, .int v)]) dX4_rowsWithYarnOf_13 rfl (by decide) rfl ?_
  have L14_1 : ∀ (d k : Nat) (x : Int32), k ≤ r → r + 1 ≤ k + d → w ≤ k → zRy cart v c w (r - w) (zLf col lef v cnt) = (k - w) + zRy cart v c k (r - k) x → zPW G mX4_rowsWithYarnOf 0 0 o9 h9 0 0 14 [(3, .int (nI k)), (2, .int x), (0, .ref 1), (1, .int v)] [] (zHp (c, r, w, lim, tol, cart, wov, lot, sew, mis, cnt, col, len, lef, sbt, shd) X Y out) := by
    intro d
    induction d with
    | zero => intro k x hk hd; exact absurd hd (by omega)
    | succ d ih =>
      intro k x hk_k hd_k hw_k he_k
      have ih14 := ih
      clear ih
      refine z_iload_n 0 dX4_rowsWithYarnOf_14 rfl rfl ?_
      refine z_aload_n 2 dX4_rowsWithYarnOf_15 rfl rfl ?_
      refine z_get (v := .int (nI r)) 1 rfl rfl inX4 (by decide) zw_132 rfl rfl dX4_rowsWithYarnOf_16 ?_
      refine z_icmp_ge (tgt := 55) dX4_rowsWithYarnOf_19 (by decide) (fun c_19 => ?_) (fun c_19 => ?_)
      · skip
        have hx_k := zge (by omega) hk_k c_19
        refine z_aload_n 2 dX4_rowsWithYarnOf_55 rfl rfl ?_
        refine z_get (v := .int (nI r)) 1 rfl rfl inX4 (by decide) zw_132 rfl rfl dX4_rowsWithYarnOf_56 ?_
        refine z_aload_n 2 dX4_rowsWithYarnOf_59 rfl rfl ?_
        refine z_get (v := .int (nI w)) 2 rfl rfl inX4 (by decide) zw_134 rfl rfl dX4_rowsWithYarnOf_60 ?_
        refine z_isub dX4_rowsWithYarnOf_63 ?_
        exact z_iret rfl dX4_rowsWithYarnOf_64 (zo_i ho9 (by rw [he_k, hx_k, Nat.sub_self, zRy, Nat.add_zero, pk_sub hw])) (zo_h hh9 (by rfl)) (Nat.zero_le _) (Nat.zero_le _)
      · skip
        have hx_k := zlt' (by omega) hk_k c_19
        refine z_iload_n 1 dX4_rowsWithYarnOf_22 rfl rfl ?_
        refine z_aload_n 2 dX4_rowsWithYarnOf_23 rfl rfl ?_
        refine z_get (v := .ref 2) 5 rfl rfl inX4 (by decide) zw_139 rfl rfl dX4_rowsWithYarnOf_24 ?_
        refine z_iload_n 3 dX4_rowsWithYarnOf_27 rfl rfl ?_
        refine z_iload_n 0 dX4_rowsWithYarnOf_28 rfl rfl ?_
        refine z_aload_n 2 dX4_rowsWithYarnOf_29 rfl rfl ?_
        refine z_get (v := .int (nI c)) 0 rfl rfl inX4 (by decide) zw_130 rfl rfl dX4_rowsWithYarnOf_30 ?_
        refine z_callV (N := mX2_unitsOf) 3 [.int v, .int (nI k), .int (nI c)] [.int x] lX2_unitsOf ⟨zw_452, zw_453, zw_454⟩ rfl rfl rfl rfl (Nat.le_of_ble_eq_true rfl) (by decide) ⟨zlt, zlt⟩ ⟨Nat.zero_le _, Nat.zero_le _⟩ (fun _ => rfl) (c_gUnits (g := 2) (v := 3) (f := cart) hG zlt rfl rfl v (nI k) (c := c) (by omega)) dX4_rowsWithYarnOf_33 ?_
        refine z_top (v2 := .int (nI (zUn cart v c k))) (by rfl) ?_
        refine z_isub dX4_rowsWithYarnOf_36 ?_
        refine z_istore_n (lv' := [(2, .int (x - (nI (zUn cart v c k)))), (3, .int (nI k)), (0, .ref 1), (1, .int v)]) dX4_rowsWithYarnOf_37 rfl (by decide) rfl ?_
        refine z_iload_n 0 dX4_rowsWithYarnOf_38 rfl rfl ?_
        refine z_if_ge (tgt := 49) dX4_rowsWithYarnOf_39 (by decide) (fun c_39 => ?_) (fun c_39 => ?_)
        · skip
          refine z_iinc (v := nI (k + 1)) (lv' := [(3, .int (nI (k + 1))), (2, .int (x - (nI (zUn cart v c k)))), (0, .ref 1), (1, .int v)]) 1 dX4_rowsWithYarnOf_49 rfl (nI_1 k) (by decide) rfl ?_
          refine z_goto (tgt := 14) dX4_rowsWithYarnOf_52 (by decide) ?_
          refine z_sub [0, 1, 2, 3] (lv' := [(3, .int (nI (k + 1))), (2, .int (x - (nI (zUn cart v c k)))), (0, .ref 1), (1, .int v)]) rfl ?_
          refine z_eqs (lv2 := [(3, .int (nI (k + 1))), (2, .int (x - nI (zUn cart v c k))), (0, .ref 1), (1, .int v)]) (h2 := (zHp (c, r, w, lim, tol, cart, wov, lot, sew, mis, cnt, col, len, lef, sbt, shd) X Y out)) (by rfl) (by rfl) ?_
          exact ih14 (k + 1) (x - nI (zUn cart v c k)) (by omega) (by omega) (by omega) (by rw [he_k, show r - k = (r - (k + 1)) + 1 by omega, zRy, if_neg (fun q => Int32.not_lt.mpr c_39 q)]; omega)
        · skip
          refine z_iload_n 1 dX4_rowsWithYarnOf_42 rfl rfl ?_
          refine z_aload_n 2 dX4_rowsWithYarnOf_43 rfl rfl ?_
          refine z_get (v := .int (nI w)) 2 rfl rfl inX4 (by decide) zw_134 rfl rfl dX4_rowsWithYarnOf_44 ?_
          refine z_isub dX4_rowsWithYarnOf_47 ?_
          exact z_iret rfl dX4_rowsWithYarnOf_48 (zo_i ho9 (by rw [he_k, show r - k = (r - (k + 1)) + 1 by omega, zRy, if_pos (Int32.not_le.mp c_39), Nat.add_zero, pk_sub hw_k])) (zo_h hh9 (by rfl)) (Nat.zero_le _) (Nat.zero_le _)
  refine z_sub [0, 1, 2, 3] (lv' := [(3, .int (nI w)), (2, .int (zLf col lef v cnt)), (0, .ref 1), (1, .int v)]) rfl ?_
  refine z_eqs (lv2 := [(3, .int (nI w)), (2, .int (zLf col lef v cnt)), (0, .ref 1), (1, .int v)]) (h2 := (zHp (c, r, w, lim, tol, cart, wov, lot, sew, mis, cnt, col, len, lef, sbt, shd) X Y out)) (by rfl) (by rfl) ?_
  exact L14_1 (r + 1) w (zLf col lef v cnt) hw (by omega) (Nat.le_refl _) (by omega)

/-- the least of what the colors v .. 7 allow, and m -/
def zPr (f : Nat → Nat) : Nat → Nat → Nat
  | 0, m => m
  | n + 1, m => min (zPr f n m) (f n)

