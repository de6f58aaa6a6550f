def zFg (wov sew : Nat → Int32) (c w lim : Nat) : Nat → Int32 := zIt (fun b s => zIt (fun y s => if zAt s (nI b) (nI y) == 1 && decide (zRl wov c w (nI b) y ≤ lim) then zPutG s (nI b) (nI y) 0 else s) 16 s) 20 sew

set_option maxHeartbeats 4000000 in
set_option maxRecDepth 100000 in
theorem c_forget {G : zT} {c r w lim cnt : Nat} {tol : Int32} {cart wov lot sew mis col len lef sbt : Nat → Int32} {shd : Nat → UInt32} {X : zXr} {Y : zYr} {out : Nat → Int64} (hG : zAl G = false) (hc : c ≤ 20) (hr : r ≤ 16) (hw : w ≤ r) (hn : cnt ≤ 16) (hl : lim ≤ 16) : zRun G mX4_forgetLostSlits 0 0 [.ref 1] (zHp (c, r, w, lim, tol, cart, wov, lot, sew, mis, cnt, col, len, lef, sbt, shd) X Y out) (.inr none) (zHp (c, r, w, lim, tol, cart, wov, lot, (zFg wov sew c w lim), mis, cnt, col, len, lef, sbt, shd) X Y out) := by
  refine zRun_of (by decide +kernel) rfl rfl (Nat.le_of_ble_eq_true rfl) ?_
  suffices hs : ∀ (o9 : zO) (h9 : zH), (Sum.inr none : zO) = o9 → (zHp (c, r, w, lim, tol, cart, wov, lot, (zFg wov sew c w lim), mis, cnt, col, len, lef, sbt, shd) X Y out) = h9 → zPW G mX4_forgetLostSlits 0 0 o9 h9 0 0 0 [(0, .ref 1)] [] (zHp (c, r, w, lim, tol, cart, wov, lot, sew, mis, cnt, col, len, lef, sbt, shd) X Y out) from hs _ _ rfl rfl
  intro o9 h9 ho9 hh9
  refine z_iconst (v := 0) dX4_forgetLostSlits_0 (by decide) ?_
  refine z_istore_n (lv' := [(1, .int 0), (0, .ref 1)]) dX4_forgetLostSlits_1 rfl (by decide) rfl ?_
  have L2_1 : ∀ (d k : Nat), k ≤ 20 → 20 + 1 ≤ k + d → zPW G mX4_forgetLostSlits 0 0 o9 h9 0 0 2 [(1, .int (nI k)), (0, .ref 1)] [] (zHp (c, r, w, lim, tol, cart, wov, lot, (zIt (fun b s => zIt (fun y s => if zAt s (nI b) (nI y) == 1 && decide (zRl wov c w (nI b) y ≤ lim) then zPutG s (nI b) (nI y) 0 else s) 16 s) k sew), mis, cnt, col, len, lef, sbt, shd) X Y out) := by
    intro d
    induction d with
    | zero => intro k hk hd; exact absurd hd (by omega)
    | succ d ih =>
      intro k hk_k hd_k
      have ih2 := ih
      clear ih
      refine z_iload_n 0 dX4_forgetLostSlits_2 rfl rfl ?_
      refine z_bipush (v := nI 20) dX4_forgetLostSlits_3 (by decide) ?_
      refine z_icmp_ge (tgt := 60) dX4_forgetLostSlits_5 (by decide) (fun c_5 => ?_) (fun c_5 => ?_)
      · skip
        have hx_k := zge (by omega) hk_k c_5
        exact z_vret rfl dX4_forgetLostSlits_60 ho9.symm (zo_h hh9 (by rw [zFg, hx_k])) (Nat.zero_le _) (Nat.zero_le _)
      · skip
        have hx_k := zlt' (by omega) hk_k c_5
        refine z_iconst (v := 0) dX4_forgetLostSlits_8 (by decide) ?_
        refine z_istore_n (lv' := [(2, .int 0), (1, .int (nI k)), (0, .ref 1)]) dX4_forgetLostSlits_9 rfl (by decide) rfl ?_
        have L10_2 : ∀ (d j : Nat), j ≤ 16 → 16 + 1 ≤ j + d → zPW G mX4_forgetLostSlits 0 0 o9 h9 0 0 10 [(2, .int (nI j)), (1, .int (nI k)), (0, .ref 1)] [] (zHp (c, r, w, lim, tol, cart, wov, lot, (zIt (fun y s => if zAt s (nI k) (nI y) == 1 && decide (zRl wov c w (nI k) y ≤ lim) then zPutG s (nI k) (nI y) 0 else s) j (zIt (fun b s => zIt (fun y s => if zAt s (nI b) (nI y) == 1 && decide (zRl wov c w (nI b) y ≤ lim) then zPutG s (nI b) (nI y) 0 else s) 16 s) k sew)), mis, cnt, col, len, lef, sbt, shd) X Y out) := by
          intro d
          induction d with
          | zero => intro j hk hd; exact absurd hd (by omega)
          | succ d ih =>
            intro j hk_j hd_j
            have ih10 := ih
            clear ih
            refine z_iload_n 0 dX4_forgetLostSlits_10 rfl rfl ?_
            refine z_bipush (v := nI 16) dX4_forgetLostSlits_11 (by decide) ?_
            refine z_icmp_ge (tgt := 54) dX4_forgetLostSlits_13 (by decide) (fun c_13 => ?_) (fun c_13 => ?_)
            · skip
              have hx_j := zge (by omega) hk_j c_13
              refine z_iinc (v := nI (k + 1)) (lv' := [(1, .int (nI (k + 1))), (2, .int (nI j)), (0, .ref 1)]) 1 dX4_forgetLostSlits_54 rfl (nI_1 k) (by decide) rfl ?_
              refine z_goto (tgt := 2) dX4_forgetLostSlits_57 (by decide) ?_
              refine z_sub [0, 2] (lv' := [(1, .int (nI (k + 1))), (0, .ref 1)]) rfl ?_
              refine z_eqs (lv2 := [(1, .int (nI (k + 1))), (0, .ref 1)]) (h2 := (zHp (c, r, w, lim, tol, cart, wov, lot, (zIt (fun b s => zIt (fun y s => if zAt s (nI b) (nI y) == 1 && decide (zRl wov c w (nI b) y ≤ lim) then zPutG s (nI b) (nI y) 0 else s) 16 s) (k + 1) sew), mis, cnt, col, len, lef, sbt, shd) X Y out)) (by rfl) (by rw [hx_j]; rfl) ?_
              exact ih2 (k + 1) (by omega) (by omega)
            · skip
              have hx_j := zlt' (by omega) hk_j c_13
              refine z_aload_n 2 dX4_forgetLostSlits_16 rfl rfl ?_
              refine z_iload_n 1 dX4_forgetLostSlits_17 rfl rfl ?_
              refine z_iload_n 0 dX4_forgetLostSlits_18 rfl rfl ?_
              refine z_callV (N := mX4_isSewn) 2 [.int (nI k), .int (nI j)] [] lX4_isSewn ⟨zw_305, zw_307, zw_7⟩ rfl zgo_1 rfl rfl (Nat.le_of_ble_eq_true rfl) (by decide) ⟨zlt, zlt⟩ ⟨Nat.zero_le _, Nat.zero_le _⟩ (fun _ => rfl) (c_isSewn hG hc hr hw hn (nI k) (nI j)) dX4_forgetLostSlits_19 ?_
              refine z_if_eq (tgt := 48) dX4_forgetLostSlits_22 (by decide) (fun c_22 => ?_) (fun c_22 => ?_)
              · skip
                have b_22 := zB_0.mp c_22
                refine z_iinc (v := nI (j + 1)) (lv' := [(2, .int (nI (j + 1))), (1, .int (nI k)), (0, .ref 1)]) 0 dX4_forgetLostSlits_48 rfl (nI_1 j) (by decide) rfl ?_
                refine z_goto (tgt := 10) dX4_forgetLostSlits_51 (by decide) ?_
                refine z_sub [0, 1, 2] (lv' := [(2, .int (nI (j + 1))), (1, .int (nI k)), (0, .ref 1)]) rfl ?_
                refine z_eqs (lv2 := [(2, .int (nI (j + 1))), (1, .int (nI k)), (0, .ref 1)]) (h2 := (zHp (c, r, w, lim, tol, cart, wov, lot, (zIt (fun y s => if zAt s (nI k) (nI y) == 1 && decide (zRl wov c w (nI k) y ≤ lim) then zPutG s (nI k) (nI y) 0 else s) (j + 1) (zIt (fun b s => zIt (fun y s => if zAt s (nI b) (nI y) == 1 && decide (zRl wov c w (nI b) y ≤ lim) then zPutG s (nI b) (nI y) 0 else s) 16 s) k sew)), mis, cnt, col, len, lef, sbt, shd) X Y out)) (by rfl) (by rw [zIt]; first | rw [if_pos (by simp only [b_22, Bool.true_and]; exact decide_eq_true ((nI_leI (Nat.lt_of_le_of_lt zRl_le (by omega)) (by omega)).mp (Int32.not_lt.mp c_35)))] | rw [if_neg (by simp only [b_22, Bool.true_and, Bool.false_and]; first | exact Bool.false_ne_true | (intro q; exact c_35 |> fun z => absurd (of_decide_eq_true q) (Nat.not_le.mpr ((nI_ltI (by omega) (Nat.lt_of_le_of_lt zRl_le (by omega))).mp z))))]) ?_
                exact ih10 (j + 1) (by omega) (by omega)
              · skip
                have b_22 := zB_tt c_22
                refine z_aload_n 2 dX4_forgetLostSlits_25 rfl rfl ?_
                refine z_iload_n 1 dX4_forgetLostSlits_26 rfl rfl ?_
                refine z_iload_n 0 dX4_forgetLostSlits_27 rfl rfl ?_
                refine z_callV (N := mX4_slitRows) 2 [.int (nI k), .int (nI j)] [] lX4_slitRows ⟨zw_280, zw_281, zw_282⟩ rfl zgo_1 rfl rfl (Nat.le_of_ble_eq_true rfl) (by decide) ⟨zlt, zlt⟩ ⟨Nat.zero_le _, Nat.zero_le _⟩ (fun _ => rfl) (c_slitRows hG hc hr hw hn (nI k) j (by omega)) dX4_forgetLostSlits_28 ?_
                refine z_aload_n 2 dX4_forgetLostSlits_31 rfl rfl ?_
                refine z_get (v := .int (nI lim)) 3 zgo_1 rfl inX4 (by decide) zw_136 rfl rfl dX4_forgetLostSlits_32 ?_
                refine z_icmp_gt (tgt := 48) dX4_forgetLostSlits_35 (by decide) (fun c_35 => ?_) (fun c_35 => ?_)
                · skip
                  refine z_iinc (v := nI (j + 1)) (lv' := [(2, .int (nI (j + 1))), (1, .int (nI k)), (0, .ref 1)]) 0 dX4_forgetLostSlits_48 rfl (nI_1 j) (by decide) rfl ?_
                  refine z_goto (tgt := 10) dX4_forgetLostSlits_51 (by decide) ?_
                  refine z_sub [0, 1, 2] (lv' := [(2, .int (nI (j + 1))), (1, .int (nI k)), (0, .ref 1)]) rfl ?_
                  refine z_eqs (lv2 := [(2, .int (nI (j + 1))), (1, .int (nI k)), (0, .ref 1)]) (h2 := (zHp (c, r, w, lim, tol, cart, wov, lot, (zIt (fun y s => if zAt s (nI k) (nI y) == 1 && decide (zRl wov c w (nI k) y ≤ lim) then zPutG s (nI k) (nI y) 0 else s) (j + 1) (zIt (fun b s => zIt (fun y s => if zAt s (nI b) (nI y) == 1 && decide (zRl wov c w (nI b) y ≤ lim) then zPutG s (nI b) (nI y) 0 else s) 16 s) k sew)), mis, cnt, col, len, lef, sbt, shd) X Y out)) (by rfl) (by rw [zIt]; first | rw [if_pos (by simp only [b_22, Bool.true_and]; exact decide_eq_true ((nI_leI (Nat.lt_of_le_of_lt zRl_le (by omega)) (by omega)).mp (Int32.not_lt.mp c_35)))] | rw [if_neg (by simp only [b_22, Bool.true_and, Bool.false_and]; first | exact Bool.false_ne_true | (intro q; exact c_35 |> fun z => absurd (of_decide_eq_true q) (Nat.not_le.mpr ((nI_ltI (by omega) (Nat.lt_of_le_of_lt zRl_le (by omega))).mp z))))]) ?_
                  exact ih10 (j + 1) (by omega) (by omega)
                · skip
                  refine z_aload_n 2 dX4_forgetLostSlits_38 rfl rfl ?_
                  refine z_get (v := .ref 8) 8 zgo_1 rfl inX4 (by decide) zw_143 rfl rfl dX4_forgetLostSlits_39 ?_
                  refine z_iload_n 1 dX4_forgetLostSlits_42 rfl rfl ?_
                  refine z_iload_n 0 dX4_forgetLostSlits_43 rfl rfl ?_
                  refine z_iconst (v := 0) dX4_forgetLostSlits_44 (by decide) ?_
                  refine z_callV (N := mX2_put) 3 [.int (nI k), .int (nI j), .int 0] [] lX2_put ⟨zw_665, zw_666, zw_667⟩ rfl zgo_8 rfl rfl (Nat.le_of_ble_eq_true rfl) (by decide) ⟨zlt, zlt⟩ ⟨Nat.zero_le _, Nat.zero_le _⟩ zal (c_gPut (g := 8) (v := 9) (f := (zIt (fun y s => if zAt s (nI k) (nI y) == 1 && decide (zRl wov c w (nI k) y ≤ lim) then zPutG s (nI k) (nI y) 0 else s) j (zIt (fun b s => zIt (fun y s => if zAt s (nI b) (nI y) == 1 && decide (zRl wov c w (nI b) y ≤ lim) then zPutG s (nI b) (nI y) 0 else s) 16 s) k sew))) (h1 := (zHp (c, r, w, lim, tol, cart, wov, lot, (zPutG (zIt (fun y s => if zAt s (nI k) (nI y) == 1 && decide (zRl wov c w (nI k) y ≤ lim) then zPutG s (nI k) (nI y) 0 else s) j (zIt (fun b s => zIt (fun y s => if zAt s (nI b) (nI y) == 1 && decide (zRl wov c w (nI b) y ≤ lim) then zPutG s (nI b) (nI y) 0 else s) 16 s) k sew)) (nI k) (nI j) 0), mis, cnt, col, len, lef, sbt, shd) X Y out)) zlt zgo_8 zga_9 (nI k) (nI j) 0 zsa_9) dX4_forgetLostSlits_45 ?_
                  refine z_iinc (v := nI (j + 1)) (lv' := [(2, .int (nI (j + 1))), (1, .int (nI k)), (0, .ref 1)]) 0 dX4_forgetLostSlits_48 rfl (nI_1 j) (by decide) rfl ?_
                  refine z_goto (tgt := 10) dX4_forgetLostSlits_51 (by decide) ?_
                  refine z_sub [0, 1, 2] (lv' := [(2, .int (nI (j + 1))), (1, .int (nI k)), (0, .ref 1)]) rfl ?_
                  refine z_eqs (lv2 := [(2, .int (nI (j + 1))), (1, .int (nI k)), (0, .ref 1)]) (h2 := (zHp (c, r, w, lim, tol, cart, wov, lot, (zIt (fun y s => if zAt s (nI k) (nI y) == 1 && decide (zRl wov c w (nI k) y ≤ lim) then zPutG s (nI k) (nI y) 0 else s) (j + 1) (zIt (fun b s => zIt (fun y s => if zAt s (nI b) (nI y) == 1 && decide (zRl wov c w (nI b) y ≤ lim) then zPutG s (nI b) (nI y) 0 else s) 16 s) k sew)), mis, cnt, col, len, lef, sbt, shd) X Y out)) (by rfl) (by rw [zIt]; first | rw [if_pos (by simp only [b_22, Bool.true_and]; exact decide_eq_true ((nI_leI (Nat.lt_of_le_of_lt zRl_le (by omega)) (by omega)).mp (Int32.not_lt.mp c_35)))] | rw [if_neg (by simp only [b_22, Bool.true_and, Bool.false_and]; first | exact Bool.false_ne_true | (intro q; exact c_35 |> fun z => absurd (of_decide_eq_true q) (Nat.not_le.mpr ((nI_ltI (by omega) (Nat.lt_of_le_of_lt zRl_le (by omega))).mp z))))]) ?_
                  exact ih10 (j + 1) (by omega) (by omega)
        refine z_sub [0, 1, 2] (lv' := [(2, .int 0), (1, .int (nI k)), (0, .ref 1)]) rfl ?_
        refine z_eqs (lv2 := [(2, .int (nI 0)), (1, .int (nI k)), (0, .ref 1)]) (h2 := (zHp (c, r, w, lim, tol, cart, wov, lot, (zIt (fun y s => if zAt s (nI k) (nI y) == 1 && decide (zRl wov c w (nI k) y ≤ lim) then zPutG s (nI k) (nI y) 0 else s) 0 (zIt (fun b s => zIt (fun y s => if zAt s (nI b) (nI y) == 1 && decide (zRl wov c w (nI b) y ≤ lim) then zPutG s (nI b) (nI y) 0 else s) 16 s) k sew)), mis, cnt, col, len, lef, sbt, shd) X Y out)) (by rfl) (by rfl) ?_
        exact L10_2 (16 + 1) 0 (Nat.zero_le _) (by omega)
  refine z_sub [0, 1] (lv' := [(1, .int 0), (0, .ref 1)]) rfl ?_
  refine z_eqs (lv2 := [(1, .int (nI 0)), (0, .ref 1)]) (h2 := (zHp (c, r, w, lim, tol, cart, wov, lot, (zIt (fun b s => zIt (fun y s => if zAt s (nI b) (nI y) == 1 && decide (zRl wov c w (nI b) y ≤ lim) then zPutG s (nI b) (nI y) 0 else s) 16 s) 0 sew), mis, cnt, col, len, lef, sbt, shd) X Y out)) (by rfl) (by rfl) ?_
  exact L2_1 (20 + 1) 0 (Nat.zero_le _) (by omega)

