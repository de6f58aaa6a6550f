def zLt0 (x y : UInt32) : Bool := decide (¬ 0 ≤ Op.cmpValue (FP.fcmp x y) .g)
/-- (exponent, mantissa) where the loop ends, from exponent d + 1 on -/
def zBl : Nat → UInt32 → Nat × UInt32
  | 0, m => (1, m)
  | d + 1, m => if zLt0 m 1258291200 then zBl d (FP.fmul m FP.fconst2) else (d + 2, m)
def zBo (v : UInt32) : Int32 := if zGt v FP.fconst0 then ((nI (zBl 149 v).1 - 1) <<< (nI 23 &&& 31)) + FP.f2i (zBl 149 v).2 else 0

set_option maxHeartbeats 4000000 in
set_option maxRecDepth 100000 in
theorem c_bitsOf {G : zT} {h : zH} (hG : zAl G = false) (hlen : h.length < 1000) (v : UInt32) (hv : zPos v) : zRun G mX7_bitsOf 0 0 [.float v] h (.inr (some (.int (zBo v)))) h := by
  refine zRun_of (by decide +kernel) rfl rfl (Nat.le_of_ble_eq_true rfl) ?_
  suffices hs : ∀ (o9 : zO) (h9 : zH), (Sum.inr (some (.int (zBo v))) : zO) = o9 → h = h9 → zPW G mX7_bitsOf 0 0 o9 h9 0 0 0 [(0, .float v)] [] h from hs _ _ rfl rfl
  intro o9 h9 ho9 hh9
  refine z_fload_n 0 dX7_bitsOf_0 rfl rfl ?_
  refine z_fconst0 dX7_bitsOf_1 ?_
  refine z_fcmp dX7_bitsOf_2 ?_
  refine z_if_gt (tgt := 8) dX7_bitsOf_3 (by decide) (fun c_3 => ?_) (fun c_3 => ?_)
  · skip
    have g1 : zGt v FP.fconst0 = true := decide_eq_true c_3
    refine z_sipush (v := nI 150) dX7_bitsOf_8 (by decide) ?_
    refine z_istore_n (lv' := [(1, .int (nI 150)), (0, .float v)]) dX7_bitsOf_11 rfl (by decide) rfl ?_
    refine z_fload_n 1 dX7_bitsOf_12 rfl rfl ?_
    refine z_fstore_n (lv' := [(2, .float v), (1, .int (nI 150)), (0, .float v)]) dX7_bitsOf_13 rfl (by decide) rfl ?_
    have L14_1 : ∀ (d k : Nat) (m : UInt32), k ≤ 149 → 149 + 1 ≤ k + d → zPos m → zGt v FP.fconst0 = true → zBl 149 v = zBl (149 - k) m → zPW G mX7_bitsOf 0 0 o9 h9 0 0 14 [(1, .int (nI (150 - k))), (2, .float m), (0, .float v)] [] h := by
      intro d
      induction d with
      | zero => intro k m hk hd; exact absurd hd (by omega)
      | succ d ih =>
        intro k m hk_k hd_k hm g1 he_k
        have ih14 := ih
        clear ih
        refine z_iload_n 0 dX7_bitsOf_14 rfl rfl ?_
        refine z_iconst (v := 1) dX7_bitsOf_15 (by decide) ?_
        refine z_icmp_le (tgt := 36) dX7_bitsOf_16 (by decide) (fun c_16 => ?_) (fun c_16 => ?_)
        · skip
          have hk1 : k = 149 := by
            have := (nI_leI (a := 150 - k) (b := 1) (by omega) (by omega)).mp c_16
            omega
          refine z_iload_n 0 dX7_bitsOf_36 rfl rfl ?_
          refine z_iconst (v := 1) dX7_bitsOf_37 (by decide) ?_
          refine z_isub dX7_bitsOf_38 ?_
          refine z_bipush (v := nI 23) dX7_bitsOf_39 (by decide) ?_
          refine z_ishl dX7_bitsOf_41 ?_
          refine z_fload_n 1 dX7_bitsOf_42 rfl rfl ?_
          refine z_f2i dX7_bitsOf_43 ?_
          refine z_iadd dX7_bitsOf_44 ?_
          exact z_iret rfl dX7_bitsOf_45 (zo_i ho9 (by rw [zBo, if_pos g1, he_k]; first | (rw [hk1, Nat.sub_self, zBl]; done) | (rw [show 149 - k = (149 - (k + 1)) + 1 by omega, zBl, if_neg (by intro q; exact (of_decide_eq_true q) c_23), show 149 - (k + 1) + 2 = 150 - k by omega]))) (zo_h hh9 (by rfl)) (Nat.zero_le _) (Nat.zero_le _)
        · skip
          have hk1 : k < 149 := Nat.not_le.mp fun q => c_16 ((nI_leI (a := 150 - k) (b := 1) (by omega) (by omega)).mpr (by omega))
          refine z_fload_n 1 dX7_bitsOf_19 rfl rfl ?_
          refine z_ldcf zw_406 dX7_bitsOf_20 ?_
          refine z_fcmp dX7_bitsOf_22 ?_
          refine z_if_ge (tgt := 36) dX7_bitsOf_23 (by decide) (fun c_23 => ?_) (fun c_23 => ?_)
          · skip
            refine z_iload_n 0 dX7_bitsOf_36 rfl rfl ?_
            refine z_iconst (v := 1) dX7_bitsOf_37 (by decide) ?_
            refine z_isub dX7_bitsOf_38 ?_
            refine z_bipush (v := nI 23) dX7_bitsOf_39 (by decide) ?_
            refine z_ishl dX7_bitsOf_41 ?_
            refine z_fload_n 1 dX7_bitsOf_42 rfl rfl ?_
            refine z_f2i dX7_bitsOf_43 ?_
            refine z_iadd dX7_bitsOf_44 ?_
            exact z_iret rfl dX7_bitsOf_45 (zo_i ho9 (by rw [zBo, if_pos g1, he_k]; first | (rw [hk1, Nat.sub_self, zBl]; done) | (rw [show 149 - k = (149 - (k + 1)) + 1 by omega, zBl, if_neg (by intro q; exact (of_decide_eq_true q) c_23), show 149 - (k + 1) + 2 = 150 - k by omega]))) (zo_h hh9 (by rfl)) (Nat.zero_le _) (Nat.zero_le _)
          · skip
            refine z_fload_n 1 dX7_bitsOf_26 rfl rfl ?_
            refine z_fconst2 dX7_bitsOf_27 ?_
            refine z_fmul dX7_bitsOf_28 (by exact (fp_dbl hm).1) ?_
            refine z_fstore_n (lv' := [(2, .float (FP.fmul m FP.fconst2)), (1, .int (nI (150 - k))), (0, .float v)]) dX7_bitsOf_29 rfl (by decide) rfl ?_
            refine z_iinc (v := (nI (150 - k)) + (-1)) (lv' := [(1, .int ((nI (150 - k)) + (-1))), (2, .float (FP.fmul m FP.fconst2)), (0, .float v)]) 1 dX7_bitsOf_30 rfl rfl (by decide) rfl ?_
            refine z_goto (tgt := 14) dX7_bitsOf_33 (by decide) ?_
            refine z_sub [0, 1, 2] (lv' := [(1, .int ((nI (150 - k)) + (-1))), (2, .float (FP.fmul m FP.fconst2)), (0, .float v)]) rfl ?_
            refine z_eqs (lv2 := [(1, .int (nI (150 - (k + 1)))), (2, .float (FP.fmul m FP.fconst2)), (0, .float v)]) (h2 := h) (by rw [show nI (150 - k) + (-1) = nI (150 - (k + 1)) from by rw [show (-1 : Int32) = -(nI 1) from rfl, ← Int32.sub_eq_add_neg, pk_sub (by omega), Nat.sub_sub]]) (by rfl) ?_
            exact ih14 (k + 1) (FP.fmul m FP.fconst2) (by omega) (by omega) (fp_dbl hm).2 g1 (by rw [he_k, show 149 - k = (149 - (k + 1)) + 1 by omega, zBl, if_pos (show zLt0 m 1258291200 = true from decide_eq_true c_23)])
    refine z_sub [1, 0, 2] (lv' := [(1, .int (nI 150)), (2, .float v), (0, .float v)]) rfl ?_
    refine z_eqs (lv2 := [(1, .int (nI (150 - 0))), (2, .float v), (0, .float v)]) (h2 := h) (by rfl) (by rfl) ?_
    exact L14_1 (149 + 1) 0 v (Nat.zero_le _) (by omega) hv g1 rfl
  · skip
    have g1 := zGt_f (Int32.not_lt.mp c_3)
    refine z_iconst (v := 0) dX7_bitsOf_6 (by decide) ?_
    exact z_iret rfl dX7_bitsOf_7 (zo_i ho9 (by rw [zBo, if_neg (by rw [g1]; exact Bool.false_ne_true)])) (zo_h hh9 (by rfl)) (Nat.zero_le _) (Nat.zero_le _)

def zWh (c r w lim : Nat) (tol : Int32) (cart wov lot sew mis : Nat → Int32) (cnt : Nat) (shd : Nat → UInt32) (tx : Int32) (t : Nat) : Int32 := match t with
  | 0 => nI c
  | 1 => nI r
  | 2 => nI w
  | 3 => nI cnt
  | 4 => nI (zOth 20 mis (-1))
  | 5 => nI (zSN (fun y => zWc9 wov cart (nI y) c) w)
  | 6 => nI (zSc wov c w lim)
  | 7 => nI (zCi sew 1 c r)
  | 8 => nI (zSr wov sew c w)
  | 9 => nI (zGa wov lot shd c w 3212836864)
  | 10 => nI (zGa wov lot shd c w (zFb tol))
  | 11 => nI (zMx (fun y => zRu wov (nI y) c) w)
  | 12 => nI (zSN (fun y => zNs wov (nI y) c) w)
  | 13 => nI lim
  | _ => tx

set_option maxHeartbeats 4000000 in
set_option maxRecDepth 100000 in
theorem c_wholeValue {G : zT} {c r w lim cnt : Nat} {tol : Int32} {cart wov lot sew mis col len lef sbt : Nat → Int32} {shd : Nat → UInt32} {X : zXr} {Y : zYr} {out : Nat → Int64} (hG : zAl G = false) (hc : c ≤ 20) (hr : r ≤ 16) (hw : w ≤ r) (hn : cnt ≤ 16) (hl : lim ≤ 16) (hs : ∀ j, zFinS (shd j)) (tx : Int32) (t : Nat) (ht : t ≤ 14) : zRun G mX4_wholeValueOf 0 0 [.ref 1, .int (nI t), .int tx] (zHp (c, r, w, lim, tol, cart, wov, lot, sew, mis, cnt, col, len, lef, sbt, shd) X Y out) (.inr (some (.int (zWh c r w lim tol cart wov lot sew mis cnt shd tx t)))) (zHp (c, r, w, lim, tol, cart, wov, lot, sew, mis, cnt, col, len, lef, sbt, shd) X Y out) := by
  refine zRun_of (by decide +kernel) rfl rfl (Nat.le_of_ble_eq_true rfl) ?_
  suffices hs : ∀ (o9 : zO) (h9 : zH), (Sum.inr (some (.int (zWh c r w lim tol cart wov lot sew mis cnt shd tx t))) : zO) = o9 → (zHp (c, r, w, lim, tol, cart, wov, lot, sew, mis, cnt, col, len, lef, sbt, shd) X Y out) = h9 → zPW G mX4_wholeValueOf 0 0 o9 h9 0 0 0 [(0, .ref 1), (1, .int (nI t)), (2, .int tx)] [] (zHp (c, r, w, lim, tol, cart, wov, lot, sew, mis, cnt, col, len, lef, sbt, shd) X Y out) from hs _ _ rfl rfl
  intro o9 h9 ho9 hh9
  refine z_iload_n 1 dX4_wholeValueOf_0 rfl rfl ?_
  rcases (show t = 0 ∨ t = 1 ∨ t = 2 ∨ t = 3 ∨ t = 4 ∨ t = 5 ∨ t = 6 ∨ t = 7 ∨ t = 8 ∨ t = 9 ∨ t = 10 ∨ t = 11 ∨ t = 12 ∨ t = 13 ∨ t = 14 by omega) with rfl | rfl | rfl | rfl | rfl | rfl | rfl | rfl | rfl | rfl | rfl | rfl | rfl | rfl | rfl
  · refine z_tableIn (off := 71) (tgt := 72) dX4_wholeValueOf_1 (by decide) (by decide) (by decide +kernel) (by decide) ?_
    refine z_aload_n 0 dX4_wholeValueOf_72 rfl rfl ?_
    refine z_get (v := .int (nI c)) 0 zgo_1 rfl inX4 (by decide) zw_130 rfl rfl dX4_wholeValueOf_73 ?_
    exact z_iret rfl dX4_wholeValueOf_76 (zo_i ho9 (by rfl)) (zo_h hh9 (by rfl)) (Nat.zero_le _) (Nat.zero_le _)
  · refine z_tableIn (off := 76) (tgt := 77) dX4_wholeValueOf_1 (by decide) (by decide) (by decide +kernel) (by decide) ?_
    refine z_aload_n 0 dX4_wholeValueOf_77 rfl rfl ?_
    refine z_get (v := .int (nI r)) 1 zgo_1 rfl inX4 (by decide) zw_132 rfl rfl dX4_wholeValueOf_78 ?_
    exact z_iret rfl dX4_wholeValueOf_81 (zo_i ho9 (by rfl)) (zo_h hh9 (by rfl)) (Nat.zero_le _) (Nat.zero_le _)
  · refine z_tableIn (off := 81) (tgt := 82) dX4_wholeValueOf_1 (by decide) (by decide) (by decide +kernel) (by decide) ?_
    refine z_aload_n 0 dX4_wholeValueOf_82 rfl rfl ?_
    refine z_get (v := .int (nI w)) 2 zgo_1 rfl inX4 (by decide) zw_134 rfl rfl dX4_wholeValueOf_83 ?_
    exact z_iret rfl dX4_wholeValueOf_86 (zo_i ho9 (by rfl)) (zo_h hh9 (by rfl)) (Nat.zero_le _) (Nat.zero_le _)
  · refine z_tableIn (off := 86) (tgt := 87) dX4_wholeValueOf_1 (by decide) (by decide) (by decide +kernel) (by decide) ?_
    refine z_aload_n 0 dX4_wholeValueOf_87 rfl rfl ?_
    refine z_get (v := .ref 12) 10 zgo_1 rfl inX4 (by decide) zw_145 rfl rfl dX4_wholeValueOf_88 ?_
    refine z_getN (v := .int (nI cnt)) 0 zgo_12 rfl inX5 (by decide) (by decide) rfl rfl dX4_wholeValueOf_91 ?_
    exact z_iret rfl dX4_wholeValueOf_94 (zo_i ho9 (by rfl)) (zo_h hh9 (by rfl)) (Nat.zero_le _) (Nat.zero_le _)
  · refine z_tableIn (off := 94) (tgt := 95) dX4_wholeValueOf_1 (by decide) (by decide) (by decide +kernel) (by decide) ?_
    refine z_aload_n 0 dX4_wholeValueOf_95 rfl rfl ?_
    refine z_get (v := .ref 10) 9 zgo_1 rfl inX4 (by decide) zw_144 rfl rfl dX4_wholeValueOf_96 ?_
    refine z_iconst (v := (-1)) dX4_wholeValueOf_99 (by decide) ?_
    refine z_callV (N := mX6_countOthersThan) 1 [.int ((-1))] [] lX6_countOthersThan ⟨zw_256, zw_257, zw_258⟩ rfl zgo_10 rfl rfl (Nat.le_of_ble_eq_true rfl) (by decide) ⟨zlt, zlt⟩ ⟨Nat.zero_le _, Nat.zero_le _⟩ (fun _ => rfl) (c_nOth (g := 10) (v := 11) (n := 20) (f := mis) (by omega) zlt zgo_10 zga_11 (-1)) dX4_wholeValueOf_100 ?_
    exact z_iret rfl dX4_wholeValueOf_103 (zo_i ho9 (by rfl)) (zo_h hh9 (by rfl)) (Nat.zero_le _) (Nat.zero_le _)
  · refine z_tableIn (off := 103) (tgt := 104) dX4_wholeValueOf_1 (by decide) (by decide) (by decide +kernel) (by decide) ?_
    refine z_aload_n 0 dX4_wholeValueOf_104 rfl rfl ?_
    refine z_callV (N := mX4_allWrongCells) 0 [] [] lX4_allWrongCells ⟨zw_260, zw_262, zw_0⟩ rfl zgo_1 rfl rfl (Nat.le_of_ble_eq_true rfl) (by decide) ⟨zlt, zlt⟩ ⟨Nat.zero_le _, Nat.zero_le _⟩ (fun _ => rfl) (c_allWrong hG hc hr hw hn ) dX4_wholeValueOf_105 ?_
    exact z_iret rfl dX4_wholeValueOf_108 (zo_i ho9 (by rfl)) (zo_h hh9 (by rfl)) (Nat.zero_le _) (Nat.zero_le _)
  · refine z_tableIn (off := 108) (tgt := 109) dX4_wholeValueOf_1 (by decide) (by decide) (by decide +kernel) (by decide) ?_
    refine z_aload_n 0 dX4_wholeValueOf_109 rfl rfl ?_
    refine z_aload_n 0 dX4_wholeValueOf_110 rfl rfl ?_
    refine z_get (v := .int (nI lim)) 3 zgo_1 rfl inX4 (by decide) zw_136 rfl rfl dX4_wholeValueOf_111 ?_
    refine z_callV (N := mX4_slitCount) 1 [.int (nI lim)] [] lX4_slitCount ⟨zw_276, zw_277, zw_278⟩ rfl zgo_1 rfl rfl (Nat.le_of_ble_eq_true rfl) (by decide) ⟨zlt, zlt⟩ ⟨Nat.zero_le _, Nat.zero_le _⟩ (fun _ => rfl) (c_slitCount hG hc hr hw hn lim (by omega)) dX4_wholeValueOf_114 ?_
    exact z_iret rfl dX4_wholeValueOf_117 (zo_i ho9 (by rfl)) (zo_h hh9 (by rfl)) (Nat.zero_le _) (Nat.zero_le _)
  · refine z_tableIn (off := 117) (tgt := 118) dX4_wholeValueOf_1 (by decide) (by decide) (by decide +kernel) (by decide) ?_
    refine z_aload_n 0 dX4_wholeValueOf_118 rfl rfl ?_
    refine z_callV (N := mX4_sewnSlits) 0 [] [] lX4_sewnSlits ⟨zw_288, zw_290, zw_4⟩ rfl zgo_1 rfl rfl (Nat.le_of_ble_eq_true rfl) (by decide) ⟨zlt, zlt⟩ ⟨Nat.zero_le _, Nat.zero_le _⟩ (fun _ => rfl) (c_sewnSlits hG hc hr hw hn ) dX4_wholeValueOf_119 ?_
    exact z_iret rfl dX4_wholeValueOf_122 (zo_i ho9 (by rfl)) (zo_h hh9 (by rfl)) (Nat.zero_le _) (Nat.zero_le _)
  · refine z_tableIn (off := 122) (tgt := 123) dX4_wholeValueOf_1 (by decide) (by decide) (by decide +kernel) (by decide) ?_
    refine z_aload_n 0 dX4_wholeValueOf_123 rfl rfl ?_
    refine z_callV (N := mX4_rowsOfSewnSlits) 0 [] [] lX4_rowsOfSewnSlits ⟨zw_301, zw_303, zw_6⟩ rfl zgo_1 rfl rfl (Nat.le_of_ble_eq_true rfl) (by decide) ⟨zlt, zlt⟩ ⟨Nat.zero_le _, Nat.zero_le _⟩ (fun _ => rfl) (c_rowsOfSewn hG hc hr hw hn ) dX4_wholeValueOf_124 ?_
    exact z_iret rfl dX4_wholeValueOf_127 (zo_i ho9 (by rfl)) (zo_h hh9 (by rfl)) (Nat.zero_le _) (Nat.zero_le _)
  · refine z_tableIn (off := 127) (tgt := 128) dX4_wholeValueOf_1 (by decide) (by decide) (by decide +kernel) (by decide) ?_
    refine z_aload_n 0 dX4_wholeValueOf_128 rfl rfl ?_
    refine z_ldcf zw_309 dX4_wholeValueOf_129 ?_
    refine z_callV (N := mX4_gapsAbove) 1 [.float 3212836864] [] lX4_gapsAbove ⟨zw_310, zw_312, zw_8⟩ rfl zgo_1 rfl rfl (Nat.le_of_ble_eq_true rfl) (by decide) ⟨zlt, zlt⟩ ⟨Nat.zero_le _, Nat.zero_le _⟩ (fun _ => rfl) (c_gaps hG hc hr hw hn hs 3212836864) dX4_wholeValueOf_131 ?_
    exact z_iret rfl dX4_wholeValueOf_134 (zo_i ho9 (by rfl)) (zo_h hh9 (by rfl)) (Nat.zero_le _) (Nat.zero_le _)
  · refine z_tableIn (off := 134) (tgt := 135) dX4_wholeValueOf_1 (by decide) (by decide) (by decide +kernel) (by decide) ?_
    refine z_aload_n 0 dX4_wholeValueOf_135 rfl rfl ?_
    refine z_aload_n 0 dX4_wholeValueOf_136 rfl rfl ?_
    refine z_get (v := .int tol) 4 zgo_1 rfl inX4 (by decide) zw_138 rfl rfl dX4_wholeValueOf_137 ?_
    refine z_callSO (N := mX7_fromBits) 1 [.int tol] [.ref 1] lX7_fromBits ⟨zw_338, zw_339⟩ rfl rfl (Nat.le_of_ble_eq_true rfl) (by decide) ⟨zlt, zlt⟩ hG ⟨Nat.zero_le _, Nat.zero_le _⟩ (c_fromBits hG zlt tol) dX4_wholeValueOf_140 ?_
    refine z_callV (N := mX4_gapsAbove) 1 [.float (zFb tol)] [] lX4_gapsAbove ⟨zw_310, zw_312, zw_8⟩ rfl zgo_1 rfl rfl (Nat.le_of_ble_eq_true rfl) (by decide) ⟨zlt, zlt⟩ ⟨Nat.zero_le _, Nat.zero_le _⟩ (fun _ => rfl) (c_gaps hG hc hr hw hn hs (zFb tol)) dX4_wholeValueOf_143 ?_
    exact z_iret rfl dX4_wholeValueOf_146 (zo_i ho9 (by rfl)) (zo_h hh9 (by rfl)) (Nat.zero_le _) (Nat.zero_le _)
  · refine z_tableIn (off := 146) (tgt := 147) dX4_wholeValueOf_1 (by decide) (by decide) (by decide +kernel) (by decide) ?_
    refine z_aload_n 0 dX4_wholeValueOf_147 rfl rfl ?_
    refine z_callV (N := mX4_mostShuttles) 0 [] [] lX4_mostShuttles ⟨zw_345, zw_347, zw_14⟩ rfl zgo_1 rfl rfl (Nat.le_of_ble_eq_true rfl) (by decide) ⟨zlt, zlt⟩ ⟨Nat.zero_le _, Nat.zero_le _⟩ (fun _ => rfl) (c_mostShuttles hG hc hr hw hn ) dX4_wholeValueOf_148 ?_
    exact z_iret rfl dX4_wholeValueOf_151 (zo_i ho9 (by rfl)) (zo_h hh9 (by rfl)) (Nat.zero_le _) (Nat.zero_le _)
  · refine z_tableIn (off := 151) (tgt := 152) dX4_wholeValueOf_1 (by decide) (by decide) (by decide +kernel) (by decide) ?_
    refine z_aload_n 0 dX4_wholeValueOf_152 rfl rfl ?_
    refine z_callV (N := mX4_allNewShuttles) 0 [] [] lX4_allNewShuttles ⟨zw_358, zw_360, zw_15⟩ rfl zgo_1 rfl rfl (Nat.le_of_ble_eq_true rfl) (by decide) ⟨zlt, zlt⟩ ⟨Nat.zero_le _, Nat.zero_le _⟩ (fun _ => rfl) (c_allNew hG hc hr hw hn ) dX4_wholeValueOf_153 ?_
    exact z_iret rfl dX4_wholeValueOf_156 (zo_i ho9 (by rfl)) (zo_h hh9 (by rfl)) (Nat.zero_le _) (Nat.zero_le _)
  · refine z_tableIn (off := 156) (tgt := 157) dX4_wholeValueOf_1 (by decide) (by decide) (by decide +kernel) (by decide) ?_
    refine z_aload_n 0 dX4_wholeValueOf_157 rfl rfl ?_
    refine z_get (v := .int (nI lim)) 3 zgo_1 rfl inX4 (by decide) zw_136 rfl rfl dX4_wholeValueOf_158 ?_
    exact z_iret rfl dX4_wholeValueOf_161 (zo_i ho9 (by rfl)) (zo_h hh9 (by rfl)) (Nat.zero_le _) (Nat.zero_le _)
  · refine z_tableOut (tgt := 162) dX4_wholeValueOf_1 (by decide) (by decide) ?_
    refine z_iload_n 2 dX4_wholeValueOf_162 rfl rfl ?_
    exact z_iret rfl dX4_wholeValueOf_163 (zo_i ho9 (by rfl)) (zo_h hh9 (by rfl)) (Nat.zero_le _) (Nat.zero_le _)

