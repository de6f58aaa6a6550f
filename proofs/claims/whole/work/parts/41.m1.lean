set_option maxHeartbeats 4000000 in
set_option maxRecDepth 100000 in
theorem m_thrown {G : zT} {S : zS} {X : zXr} {out : Nat → Int64} {s : (Nat → Int32)} {past : (Nat → Int32)} {aside : (Nat → Int32)} {pasts : Nat} {txt : (Nat → Int32)} {typed : Nat} {thrown : Int32} {line : (Nat → Int32)} {need : (Nat → Int32)} {left : (Nat → Int32)} {slits : Nat} {slB : (Nat → Int32)} {slF : (Nat → Int32)} {slT : (Nat → Int32)} {at9 : Nat} {wd9 : Int32} {got : (Nat → Int32)} {ans : Int32} {worst : UInt32} (hG : zAl G = false) : zRun G mX10_thrown 0 0 [.ref 114] (zHp S X (s, past, aside, pasts, txt, typed, thrown, line, need, left, slits, slB, slF, slT, at9, wd9, got, ans, worst) out) (.inr (some (.int thrown))) (zHp S X (s, past, aside, pasts, txt, typed, thrown, line, need, left, slits, slB, slF, slT, at9, wd9, got, ans, worst) out) := by
  refine zRun_of (by decide +kernel) rfl rfl (Nat.le_of_ble_eq_true rfl) ?_
  suffices hs : ∀ (o9 : zO) (h9 : zH), (Sum.inr (some (.int thrown)) : zO) = o9 → (zHp S X (s, past, aside, pasts, txt, typed, thrown, line, need, left, slits, slB, slF, slT, at9, wd9, got, ans, worst) out) = h9 → zPW G mX10_thrown 0 0 o9 h9 0 0 0 [(0, .ref 114)] [] (zHp S X (s, past, aside, pasts, txt, typed, thrown, line, need, left, slits, slB, slF, slT, at9, wd9, got, ans, worst) out) from hs _ _ rfl rfl
  intro o9 h9 ho9 hh9
  refine z_aload_n 0 dX10_thrown_0 rfl rfl ?_
  refine z_get (v := .int thrown) 6 zgo_114 rfl inX10 (by decide) zw_1184 rfl rfl dX10_thrown_1 ?_
  exact z_iret rfl dX10_thrown_4 (zo_i ho9 (by rfl)) (zo_h hh9 (by rfl)) (Nat.zero_le _) (Nat.zero_le _)

set_option maxHeartbeats 4000000 in
set_option maxRecDepth 100000 in
theorem m_in {G : zT} {S : zS} {X : zXr} {out : Nat → Int64} {s : (Nat → Int32)} {past : (Nat → Int32)} {aside : (Nat → Int32)} {pasts : Nat} {txt : (Nat → Int32)} {typed : Nat} {thrown : Int32} {line : (Nat → Int32)} {need : (Nat → Int32)} {left : (Nat → Int32)} {slits : Nat} {slB : (Nat → Int32)} {slF : (Nat → Int32)} {slT : (Nat → Int32)} {at9 : Nat} {wd9 : Int32} {got : (Nat → Int32)} {ans : Int32} {worst : UInt32} (hG : zAl G = false) (v a b : Int32) : zRun G mX10_in 0 0 [.int v, .int a, .int b] (zHp S X (s, past, aside, pasts, txt, typed, thrown, line, need, left, slits, slB, slF, slT, at9, wd9, got, ans, worst) out) (.inr (some (.int (zB (zFr a v b))))) (zHp S X (s, past, aside, pasts, txt, typed, thrown, line, need, left, slits, slB, slF, slT, at9, wd9, got, ans, worst) out) := by
  refine zRun_of (by decide +kernel) rfl rfl (Nat.le_of_ble_eq_true rfl) ?_
  suffices hs : ∀ (o9 : zO) (h9 : zH), (Sum.inr (some (.int (zB (zFr a v b)))) : zO) = o9 → (zHp S X (s, past, aside, pasts, txt, typed, thrown, line, need, left, slits, slB, slF, slT, at9, wd9, got, ans, worst) out) = h9 → zPW G mX10_in 0 0 o9 h9 0 0 0 [(0, .int v), (1, .int a), (2, .int b)] [] (zHp S X (s, past, aside, pasts, txt, typed, thrown, line, need, left, slits, slB, slF, slT, at9, wd9, got, ans, worst) out) from hs _ _ rfl rfl
  intro o9 h9 ho9 hh9
  have J15_6 : zPW G mX10_in 0 0 o9 h9 0 0 15 [(0, .int v), (1, .int a), (2, .int b)] [.int (zB (zFr a v b))] (zHp S X (s, past, aside, pasts, txt, typed, thrown, line, need, left, slits, slB, slF, slT, at9, wd9, got, ans, worst) out) := by
    exact z_zret rfl (by exact zB_n _) dX10_in_15 (zo_i ho9 (by rfl)) (zo_h hh9 (by rfl)) (Nat.zero_le _) (Nat.zero_le _)
  refine z_iload_n 0 dX10_in_0 rfl rfl ?_
  refine z_iload_n 1 dX10_in_1 rfl rfl ?_
  refine z_icmp_lt (tgt := 14) dX10_in_2 (by decide) (fun c_2 => ?_) (fun c_2 => ?_)
  · skip
    refine z_iconst (v := nI 0) dX10_in_14 (by decide) ?_
    refine z_top (v2 := .int (zB (zFr a v b))) (by simp [zB, zFr, nI_0, nI_one, c_2]) ?_
    exact J15_6
  · skip
    refine z_iload_n 0 dX10_in_5 rfl rfl ?_
    refine z_iload_n 2 dX10_in_6 rfl rfl ?_
    refine z_icmp_gt (tgt := 14) dX10_in_7 (by decide) (fun c_7 => ?_) (fun c_7 => ?_)
    · skip
      refine z_iconst (v := nI 0) dX10_in_14 (by decide) ?_
      refine z_top (v2 := .int (zB (zFr a v b))) (by simp [zB, zFr, nI_0, nI_one, c_2, c_7]) ?_
      exact J15_6
    · skip
      refine z_iconst (v := nI 1) dX10_in_10 (by decide) ?_
      refine z_goto (tgt := 15) dX10_in_11 (by decide) ?_
      refine z_top (v2 := .int (zB (zFr a v b))) (by simp [zB, zFr, nI_0, nI_one, c_2, c_7]) ?_
      exact J15_6

set_option maxHeartbeats 4000000 in
set_option maxRecDepth 100000 in
theorem m_fails {G : zT} {S : zS} {X : zXr} {out : Nat → Int64} {s : (Nat → Int32)} {past : (Nat → Int32)} {aside : (Nat → Int32)} {pasts : Nat} {txt : (Nat → Int32)} {typed : Nat} {thrown : Int32} {line : (Nat → Int32)} {need : (Nat → Int32)} {left : (Nat → Int32)} {slits : Nat} {slB : (Nat → Int32)} {slF : (Nat → Int32)} {slT : (Nat → Int32)} {at9 : Nat} {wd9 : Int32} {got : (Nat → Int32)} {ans : Int32} {worst : UInt32} (hG : zAl G = false) (v : Int32) : zRun G mX10_fails 0 0 [.ref 114, .int v] (zHp S X (s, past, aside, pasts, txt, typed, thrown, line, need, left, slits, slB, slF, slT, at9, wd9, got, ans, worst) out) (.inr (some (.int (nI 0)))) (zHp S X (s, past, aside, pasts, txt, typed, v, line, need, left, slits, slB, slF, slT, at9, wd9, got, ans, worst) out) := by
  refine zRun_of (by decide +kernel) rfl rfl (Nat.le_of_ble_eq_true rfl) ?_
  suffices hs : ∀ (o9 : zO) (h9 : zH), (Sum.inr (some (.int (nI 0))) : zO) = o9 → (zHp S X (s, past, aside, pasts, txt, typed, v, line, need, left, slits, slB, slF, slT, at9, wd9, got, ans, worst) out) = h9 → zPW G mX10_fails 0 0 o9 h9 0 0 0 [(0, .ref 114), (1, .int v)] [] (zHp S X (s, past, aside, pasts, txt, typed, thrown, line, need, left, slits, slB, slF, slT, at9, wd9, got, ans, worst) out) from hs _ _ rfl rfl
  intro o9 h9 ho9 hh9
  refine z_aload_n 0 dX10_fails_0 rfl rfl ?_
  refine z_iload_n 1 dX10_fails_1 rfl rfl ?_
  refine z_puti 6 tyX10 zgo_114 rfl inX10 tyX10_ok nmX10 (by decide) zw_1184 rfl rfl (by decide +kernel) (Nat.le_of_ble_eq_true rfl) dX10_fails_2 ?_
  refine z_eqh (h2 := (zHp S X (s, past, aside, pasts, txt, typed, v, line, need, left, slits, slB, slF, slT, at9, wd9, got, ans, worst) out)) zsf_114_6 ?_
  refine z_iconst (v := nI 0) dX10_fails_5 (by decide) ?_
  exact z_iret rfl dX10_fails_6 (zo_i ho9 (by rfl)) (zo_h hh9 (by rfl)) (Nat.zero_le _) (Nat.zero_le _)

set_option maxHeartbeats 4000000 in
set_option maxRecDepth 100000 in
theorem m_tells {G : zT} {S : zS} {X : zXr} {out : Nat → Int64} {s : (Nat → Int32)} {past : (Nat → Int32)} {aside : (Nat → Int32)} {pasts : Nat} {txt : (Nat → Int32)} {typed : Nat} {thrown : Int32} {line : (Nat → Int32)} {need : (Nat → Int32)} {left : (Nat → Int32)} {slits : Nat} {slB : (Nat → Int32)} {slF : (Nat → Int32)} {slT : (Nat → Int32)} {at9 : Nat} {wd9 : Int32} {got : (Nat → Int32)} {ans : Int32} {worst : UInt32} (hG : zAl G = false) (v : Int32) : zRun G mX10_tells 0 0 [.ref 114, .int v] (zHp S X (s, past, aside, pasts, txt, typed, thrown, line, need, left, slits, slB, slF, slT, at9, wd9, got, ans, worst) out) (.inr (some (.int v))) (zHp S X (s, past, aside, pasts, txt, typed, (nI 0), line, need, left, slits, slB, slF, slT, at9, wd9, got, ans, worst) out) := by
  refine zRun_of (by decide +kernel) rfl rfl (Nat.le_of_ble_eq_true rfl) ?_
  suffices hs : ∀ (o9 : zO) (h9 : zH), (Sum.inr (some (.int v)) : zO) = o9 → (zHp S X (s, past, aside, pasts, txt, typed, (nI 0), line, need, left, slits, slB, slF, slT, at9, wd9, got, ans, worst) out) = h9 → zPW G mX10_tells 0 0 o9 h9 0 0 0 [(0, .ref 114), (1, .int v)] [] (zHp S X (s, past, aside, pasts, txt, typed, thrown, line, need, left, slits, slB, slF, slT, at9, wd9, got, ans, worst) out) from hs _ _ rfl rfl
  intro o9 h9 ho9 hh9
  refine z_aload_n 0 dX10_tells_0 rfl rfl ?_
  refine z_iconst (v := nI 0) dX10_tells_1 (by decide) ?_
  refine z_puti 6 tyX10 zgo_114 rfl inX10 tyX10_ok nmX10 (by decide) zw_1184 rfl rfl (by decide +kernel) (Nat.le_of_ble_eq_true rfl) dX10_tells_2 ?_
  refine z_eqh (h2 := (zHp S X (s, past, aside, pasts, txt, typed, (nI 0), line, need, left, slits, slB, slF, slT, at9, wd9, got, ans, worst) out)) zsf_114_6 ?_
  refine z_iload_n 1 dX10_tells_5 rfl rfl ?_
  exact z_iret rfl dX10_tells_6 (zo_i ho9 (by rfl)) (zo_h hh9 (by rfl)) (Nat.zero_le _) (Nat.zero_le _)

set_option maxHeartbeats 4000000 in
set_option maxRecDepth 100000 in
theorem m_hold {G : zT} {S : zS} {X : zXr} {out : Nat → Int64} {s : (Nat → Int32)} {past : (Nat → Int32)} {aside : (Nat → Int32)} {pasts : Nat} {txt : (Nat → Int32)} {typed : Nat} {thrown : Int32} {line : (Nat → Int32)} {need : (Nat → Int32)} {left : (Nat → Int32)} {slits : Nat} {slB : (Nat → Int32)} {slF : (Nat → Int32)} {slT : (Nat → Int32)} {at9 : Nat} {wd9 : Int32} {got : (Nat → Int32)} {ans : Int32} {worst : UInt32} (hG : zAl G = false) : zRun G mX10_hold 0 0 [.ref 114] (zHp S X (s, past, aside, pasts, txt, typed, thrown, line, need, left, slits, slB, slF, slT, at9, wd9, got, ans, worst) out) (.inr none) (zHp S X (s, past, (zFl s aside 1371), pasts, txt, typed, thrown, line, need, left, slits, slB, slF, slT, at9, wd9, got, ans, worst) out) := by
  refine zRun_of (by decide +kernel) rfl rfl (Nat.le_of_ble_eq_true rfl) ?_
  suffices hs : ∀ (o9 : zO) (h9 : zH), (Sum.inr none : zO) = o9 → (zHp S X (s, past, (zFl s aside 1371), pasts, txt, typed, thrown, line, need, left, slits, slB, slF, slT, at9, wd9, got, ans, worst) out) = h9 → zPW G mX10_hold 0 0 o9 h9 0 0 0 [(0, .ref 114)] [] (zHp S X (s, past, aside, pasts, txt, typed, thrown, line, need, left, slits, slB, slF, slT, at9, wd9, got, ans, worst) out) from hs _ _ rfl rfl
  intro o9 h9 ho9 hh9
  refine z_iconst (v := nI 0) dX10_hold_0 (by decide) ?_
  refine z_istore_n (lv' := [(1, .int (nI 0)), (0, .ref 114)]) dX10_hold_1 rfl (by decide) rfl ?_
  have L2_1 : ∀ (d k : Nat), k ≤ 1371 → 1371 + 1 ≤ k + d → zPW G mX10_hold 0 0 o9 h9 0 0 2 [(1, .int (nI k)), (0, .ref 114)] [] (zHp S X (s, past, (zFl s aside k), pasts, txt, typed, thrown, line, need, left, slits, slB, slF, slT, at9, wd9, got, ans, worst) out) := by
    intro d
    induction d with
    | zero => intro k hk hd; exact absurd hd (by omega)
    | succ d ih =>
      intro k hk_k hd_k
      have ih2 := ih
      clear ih
      refine z_iload_n 0 dX10_hold_2 rfl rfl ?_
      refine z_sipush (v := nI 1371) dX10_hold_3 (by decide) ?_
      refine z_icmp_ge (tgt := 27) dX10_hold_6 (by decide) (fun c_6 => ?_) (fun c_6 => ?_)
      · skip
        have f_6 := m_le (by omega) (by omega) c_6
        have e_k : k = 1371 := by omega
        rw [e_k]
        exact z_vret rfl dX10_hold_27 ho9.symm (zo_h hh9 (by rfl)) (Nat.zero_le _) (Nat.zero_le _)
      · skip
        have f_6 := m_nle (by omega) (by omega) c_6
        refine z_aload_n 1 dX10_hold_9 rfl rfl ?_
        refine z_get (v := .ref 117) 2 zgo_114 rfl inX10 (by decide) zw_1180 rfl rfl dX10_hold_10 ?_
        refine z_iload_n 0 dX10_hold_13 rfl rfl ?_
        refine z_aload_n 1 dX10_hold_14 rfl rfl ?_
        refine z_get (v := .ref 115) 0 zgo_114 rfl inX10 (by decide) zw_1178 rfl rfl dX10_hold_15 ?_
        refine z_iload_n 0 dX10_hold_18 rfl rfl ?_
        refine z_ialdN (f := s) (n := 1371) (j := k) zga_115 (by omega) (by decide) dX10_hold_19 ?_
        refine z_iastN (f := (zFl s aside k)) (n := 1371) (j := k) zga_117 (by omega) (by decide) dX10_hold_20 ?_
        refine z_eqh (h2 := (zHp S X (s, past, (upd (zFl s aside k) k (s k)), pasts, txt, typed, thrown, line, need, left, slits, slB, slF, slT, at9, wd9, got, ans, worst) out)) zsa_117 ?_
        refine z_iinc (v := nI (k + 1)) (lv' := [(1, .int (nI (k + 1))), (0, .ref 114)]) 0 dX10_hold_21 rfl (nI_1 _) (by decide) rfl ?_
        refine z_goto (tgt := 2) dX10_hold_24 (by decide) ?_
        refine z_sub [0, 1] (lv' := [(1, .int (nI (k + 1))), (0, .ref 114)]) rfl ?_
        refine z_eqs (lv2 := [(1, .int (nI ((k + 1)))), (0, .ref 114)]) (h2 := (zHp S X (s, past, (zFl s aside (k + 1)), pasts, txt, typed, thrown, line, need, left, slits, slB, slF, slT, at9, wd9, got, ans, worst) out)) (by rfl) (by rw [zFl_S rfl]) ?_
        exact ih2 (k + 1) (by omega) (by omega)
  refine z_sub [0, 1] (lv' := [(1, .int (nI 0)), (0, .ref 114)]) rfl ?_
  refine z_eqs (lv2 := [(1, .int (nI 0)), (0, .ref 114)]) (h2 := (zHp S X (s, past, (zFl s aside 0), pasts, txt, typed, thrown, line, need, left, slits, slB, slF, slT, at9, wd9, got, ans, worst) out)) (by rfl) (by rw [zFl_0]) ?_
  exact L2_1 (1371 + 1) 0 (by omega) (by omega)

set_option maxHeartbeats 4000000 in
set_option maxRecDepth 100000 in
theorem m_saves4 {G : zT} {S : zS} {X : zXr} {out : Nat → Int64} {s : (Nat → Int32)} {past : (Nat → Int32)} {aside : (Nat → Int32)} {txt : (Nat → Int32)} {typed : Nat} {thrown : Int32} {line : (Nat → Int32)} {need : (Nat → Int32)} {left : (Nat → Int32)} {slits : Nat} {slB : (Nat → Int32)} {slF : (Nat → Int32)} {slT : (Nat → Int32)} {at9 : Nat} {wd9 : Int32} {got : (Nat → Int32)} {ans : Int32} {worst : UInt32} (hG : zAl G = false) : zRun G mX10_saves 0 0 [.ref 114] (zHp S X (s, past, aside, 4, txt, typed, thrown, line, need, left, slits, slB, slF, slT, at9, wd9, got, ans, worst) out) (.inr none) (zHp S X (s, (zFa (1371 * 3) aside (zFl (fun k => past (k + 1371)) past 4113) 1371), aside, (3 + 1), txt, typed, thrown, line, need, left, slits, slB, slF, slT, at9, wd9, got, ans, worst) out) := by
  refine zRun_of (by decide +kernel) rfl rfl (Nat.le_of_ble_eq_true rfl) ?_
  suffices hs : ∀ (o9 : zO) (h9 : zH), (Sum.inr none : zO) = o9 → (zHp S X (s, (zFa (1371 * 3) aside (zFl (fun k => past (k + 1371)) past 4113) 1371), aside, (3 + 1), txt, typed, thrown, line, need, left, slits, slB, slF, slT, at9, wd9, got, ans, worst) out) = h9 → zPW G mX10_saves 0 0 o9 h9 0 0 0 [(0, .ref 114)] [] (zHp S X (s, past, aside, 4, txt, typed, thrown, line, need, left, slits, slB, slF, slT, at9, wd9, got, ans, worst) out) from hs _ _ rfl rfl
  intro o9 h9 ho9 hh9
  refine z_aload_n 0 dX10_saves_0 rfl rfl ?_
  refine z_get (v := .int (nI 4)) 3 zgo_114 rfl inX10 (by decide) zw_1181 rfl rfl dX10_saves_1 ?_
  refine z_iconst (v := nI 4) dX10_saves_4 (by decide) ?_
  refine z_icmp_ne (tgt := 49) dX10_saves_5 (by decide) (fun c_5 => ?_) (fun c_5 => ?_)
  · exfalso; exact c_5 rfl
  · skip
    have f_5 := m_eq (by omega) (by omega) c_5
    refine z_iconst (v := nI 0) dX10_saves_8 (by decide) ?_
    refine z_istore_n (lv' := [(1, .int (nI 0)), (0, .ref 114)]) dX10_saves_9 rfl (by decide) rfl ?_
    have L10_1 : ∀ (d k : Nat), k ≤ 4113 → 4113 + 1 ≤ k + d → zPW G mX10_saves 0 0 o9 h9 0 0 10 [(1, .int (nI k)), (0, .ref 114)] [] (zHp S X (s, (zFl (fun k => past (k + 1371)) past k), aside, 4, txt, typed, thrown, line, need, left, slits, slB, slF, slT, at9, wd9, got, ans, worst) out) := by
      intro d
      induction d with
      | zero => intro k hk hd; exact absurd hd (by omega)
      | succ d ih =>
        intro k hk_k hd_k
        have ih10 := ih
        clear ih
        refine z_iload_n 0 dX10_saves_10 rfl rfl ?_
        refine z_sipush (v := nI 4113) dX10_saves_11 (by decide) ?_
        refine z_icmp_ge (tgt := 39) dX10_saves_14 (by decide) (fun c_14 => ?_) (fun c_14 => ?_)
        · skip
          have f_14 := m_le (by omega) (by omega) c_14
          have e_k : k = 4113 := by omega
          rw [e_k]
          refine z_aload_n 1 dX10_saves_39 rfl rfl ?_
          refine z_dup dX10_saves_40 rfl ?_
          refine z_get (v := .int (nI 4)) 3 zgo_114 rfl inX10 (by decide) zw_1181 rfl rfl dX10_saves_41 ?_
          refine z_iconst (v := nI 1) dX10_saves_44 (by decide) ?_
          refine z_isubN (a := 4) (b := 1) (by omega) dX10_saves_45 ?_
          refine z_top (v2 := .int (nI 3)) (by rfl) ?_
          refine z_puti 3 tyX10 zgo_114 rfl inX10 tyX10_ok nmX10 (by decide) zw_1181 rfl rfl (by decide +kernel) (Nat.le_of_ble_eq_true rfl) dX10_saves_46 ?_
          refine z_eqh (h2 := (zHp S X (s, (zFl (fun k => past (k + 1371)) past 4113), aside, 3, txt, typed, thrown, line, need, left, slits, slB, slF, slT, at9, wd9, got, ans, worst) out)) zsf_114_3 ?_
          refine z_iconst (v := nI 0) dX10_saves_49 (by decide) ?_
          refine z_istore_n (lv' := [(1, .int (nI 0)), (0, .ref 114)]) dX10_saves_50 rfl (by decide) rfl ?_
          have L51_2 : ∀ (d k : Nat), k ≤ 1371 → 1371 + 1 ≤ k + d → zPW G mX10_saves 0 0 o9 h9 0 0 51 [(1, .int (nI k)), (0, .ref 114)] [] (zHp S X (s, (zFa (1371 * 3) aside (zFl (fun k => past (k + 1371)) past 4113) k), aside, 3, txt, typed, thrown, line, need, left, slits, slB, slF, slT, at9, wd9, got, ans, worst) out) := by
            intro d
            induction d with
            | zero => intro k hk hd; exact absurd hd (by omega)
            | succ d ih =>
              intro k hk_k hd_k
              have ih51 := ih
              clear ih
              refine z_iload_n 0 dX10_saves_51 rfl rfl ?_
              refine z_sipush (v := nI 1371) dX10_saves_52 (by decide) ?_
              refine z_icmp_ge (tgt := 85) dX10_saves_55 (by decide) (fun c_55 => ?_) (fun c_55 => ?_)
              · skip
                have f_55 := m_le (by omega) (by omega) c_55
                have e_k : k = 1371 := by omega
                rw [e_k]
                refine z_aload_n 1 dX10_saves_85 rfl rfl ?_
                refine z_dup dX10_saves_86 rfl ?_
                refine z_get (v := .int (nI 3)) 3 zgo_114 rfl inX10 (by decide) zw_1181 rfl rfl dX10_saves_87 ?_
                refine z_iconst (v := nI 1) dX10_saves_90 (by decide) ?_
                refine z_iaddN (a := 3) (b := 1) dX10_saves_91 ?_
                refine z_puti 3 tyX10 zgo_114 rfl inX10 tyX10_ok nmX10 (by decide) zw_1181 rfl rfl (by decide +kernel) (Nat.le_of_ble_eq_true rfl) dX10_saves_92 ?_
                refine z_eqh (h2 := (zHp S X (s, (zFa (1371 * 3) aside (zFl (fun k => past (k + 1371)) past 4113) 1371), aside, (3 + 1), txt, typed, thrown, line, need, left, slits, slB, slF, slT, at9, wd9, got, ans, worst) out)) zsf_114_3 ?_
                exact z_vret rfl dX10_saves_95 ho9.symm (zo_h hh9 (by rfl)) (Nat.zero_le _) (Nat.zero_le _)
              · skip
                have f_55 := m_nle (by omega) (by omega) c_55
                refine z_aload_n 1 dX10_saves_58 rfl rfl ?_
                refine z_get (v := .ref 116) 1 zgo_114 rfl inX10 (by decide) zw_1179 rfl rfl dX10_saves_59 ?_
                refine z_sipush (v := nI 1371) dX10_saves_62 (by decide) ?_
                refine z_aload_n 1 dX10_saves_65 rfl rfl ?_
                refine z_get (v := .int (nI 3)) 3 zgo_114 rfl inX10 (by decide) zw_1181 rfl rfl dX10_saves_66 ?_
                refine z_imulN (a := 1371) (b := 3) dX10_saves_69 ?_
                refine z_iload_n 0 dX10_saves_70 rfl rfl ?_
                refine z_iaddN (a := 1371 * 3) (b := k) dX10_saves_71 ?_
                refine z_aload_n 1 dX10_saves_72 rfl rfl ?_
                refine z_get (v := .ref 117) 2 zgo_114 rfl inX10 (by decide) zw_1180 rfl rfl dX10_saves_73 ?_
                refine z_iload_n 0 dX10_saves_76 rfl rfl ?_
                refine z_ialdN (f := aside) (n := 1371) (j := k) zga_117 (by omega) (by decide) dX10_saves_77 ?_
                refine z_iastN (f := (zFa (1371 * 3) aside (zFl (fun k => past (k + 1371)) past 4113) k)) (n := 5484) (j := 1371 * 3 + k) zga_116 (by omega) (by decide) dX10_saves_78 ?_
                refine z_eqh (h2 := (zHp S X (s, (upd (zFa (1371 * 3) aside (zFl (fun k => past (k + 1371)) past 4113) k) (1371 * 3 + k) (aside k)), aside, 3, txt, typed, thrown, line, need, left, slits, slB, slF, slT, at9, wd9, got, ans, worst) out)) zsa_116 ?_
                refine z_iinc (v := nI (k + 1)) (lv' := [(1, .int (nI (k + 1))), (0, .ref 114)]) 0 dX10_saves_79 rfl (nI_1 _) (by decide) rfl ?_
                refine z_goto (tgt := 51) dX10_saves_82 (by decide) ?_
                refine z_sub [0, 1] (lv' := [(1, .int (nI (k + 1))), (0, .ref 114)]) rfl ?_
                refine z_eqs (lv2 := [(1, .int (nI ((k + 1)))), (0, .ref 114)]) (h2 := (zHp S X (s, (zFa (1371 * 3) aside (zFl (fun k => past (k + 1371)) past 4113) (k + 1)), aside, 3, txt, typed, thrown, line, need, left, slits, slB, slF, slT, at9, wd9, got, ans, worst) out)) (by rfl) (by rw [zFa_s rfl]) ?_
                exact ih51 (k + 1) (by omega) (by omega)
          refine z_sub [0, 1] (lv' := [(1, .int (nI 0)), (0, .ref 114)]) rfl ?_
          refine z_eqs (lv2 := [(1, .int (nI 0)), (0, .ref 114)]) (h2 := (zHp S X (s, (zFa (1371 * 3) aside (zFl (fun k => past (k + 1371)) past 4113) 0), aside, 3, txt, typed, thrown, line, need, left, slits, slB, slF, slT, at9, wd9, got, ans, worst) out)) (by rfl) (by rw [zFa_0]) ?_
          exact L51_2 (1371 + 1) 0 (by omega) (by omega)
        · skip
          have f_14 := m_nle (by omega) (by omega) c_14
          refine z_aload_n 1 dX10_saves_17 rfl rfl ?_
          refine z_get (v := .ref 116) 1 zgo_114 rfl inX10 (by decide) zw_1179 rfl rfl dX10_saves_18 ?_
          refine z_iload_n 0 dX10_saves_21 rfl rfl ?_
          refine z_aload_n 1 dX10_saves_22 rfl rfl ?_
          refine z_get (v := .ref 116) 1 zgo_114 rfl inX10 (by decide) zw_1179 rfl rfl dX10_saves_23 ?_
          refine z_iload_n 0 dX10_saves_26 rfl rfl ?_
          refine z_sipush (v := nI 1371) dX10_saves_27 (by decide) ?_
          refine z_iaddN (a := k) (b := 1371) dX10_saves_30 ?_
          refine z_ialdN (f := (zFl (fun k => past (k + 1371)) past k)) (n := 5484) (j := k + 1371) zga_116 (by omega) (by decide) dX10_saves_31 ?_
          refine z_top (v2 := .int (past (k + 1371))) (by rw [zFl_at (by omega)]) ?_
          refine z_iastN (f := (zFl (fun k => past (k + 1371)) past k)) (n := 5484) (j := k) zga_116 (by omega) (by decide) dX10_saves_32 ?_
          refine z_eqh (h2 := (zHp S X (s, (upd (zFl (fun k => past (k + 1371)) past k) k (past (k + 1371))), aside, 4, txt, typed, thrown, line, need, left, slits, slB, slF, slT, at9, wd9, got, ans, worst) out)) zsa_116 ?_
          refine z_iinc (v := nI (k + 1)) (lv' := [(1, .int (nI (k + 1))), (0, .ref 114)]) 0 dX10_saves_33 rfl (nI_1 _) (by decide) rfl ?_
          refine z_goto (tgt := 10) dX10_saves_36 (by decide) ?_
          refine z_sub [0, 1] (lv' := [(1, .int (nI (k + 1))), (0, .ref 114)]) rfl ?_
          refine z_eqs (lv2 := [(1, .int (nI ((k + 1)))), (0, .ref 114)]) (h2 := (zHp S X (s, (zFl (fun k => past (k + 1371)) past (k + 1)), aside, 4, txt, typed, thrown, line, need, left, slits, slB, slF, slT, at9, wd9, got, ans, worst) out)) (by rfl) (by rw [zFl_S rfl]) ?_
          exact ih10 (k + 1) (by omega) (by omega)
    refine z_sub [0, 1] (lv' := [(1, .int (nI 0)), (0, .ref 114)]) rfl ?_
    refine z_eqs (lv2 := [(1, .int (nI 0)), (0, .ref 114)]) (h2 := (zHp S X (s, (zFl (fun k => past (k + 1371)) past 0), aside, 4, txt, typed, thrown, line, need, left, slits, slB, slF, slT, at9, wd9, got, ans, worst) out)) (by rfl) (by rw [zFl_0]) ?_
    exact L10_1 (4113 + 1) 0 (by omega) (by omega)

set_option maxHeartbeats 4000000 in
set_option maxRecDepth 100000 in
theorem m_savesN {G : zT} {S : zS} {X : zXr} {out : Nat → Int64} {s : (Nat → Int32)} {past : (Nat → Int32)} {aside : (Nat → Int32)} {pasts : Nat} {txt : (Nat → Int32)} {typed : Nat} {thrown : Int32} {line : (Nat → Int32)} {need : (Nat → Int32)} {left : (Nat → Int32)} {slits : Nat} {slB : (Nat → Int32)} {slF : (Nat → Int32)} {slT : (Nat → Int32)} {at9 : Nat} {wd9 : Int32} {got : (Nat → Int32)} {ans : Int32} {worst : UInt32} (hG : zAl G = false) (hp4 : pasts < 4) : zRun G mX10_saves 0 0 [.ref 114] (zHp S X (s, past, aside, pasts, txt, typed, thrown, line, need, left, slits, slB, slF, slT, at9, wd9, got, ans, worst) out) (.inr none) (zHp S X (s, (zFa (1371 * pasts) aside past 1371), aside, (pasts + 1), txt, typed, thrown, line, need, left, slits, slB, slF, slT, at9, wd9, got, ans, worst) out) := by
  refine zRun_of (by decide +kernel) rfl rfl (Nat.le_of_ble_eq_true rfl) ?_
  suffices hs : ∀ (o9 : zO) (h9 : zH), (Sum.inr none : zO) = o9 → (zHp S X (s, (zFa (1371 * pasts) aside past 1371), aside, (pasts + 1), txt, typed, thrown, line, need, left, slits, slB, slF, slT, at9, wd9, got, ans, worst) out) = h9 → zPW G mX10_saves 0 0 o9 h9 0 0 0 [(0, .ref 114)] [] (zHp S X (s, past, aside, pasts, txt, typed, thrown, line, need, left, slits, slB, slF, slT, at9, wd9, got, ans, worst) out) from hs _ _ rfl rfl
  intro o9 h9 ho9 hh9
  refine z_aload_n 0 dX10_saves_0 rfl rfl ?_
  refine z_get (v := .int (nI pasts)) 3 zgo_114 rfl inX10 (by decide) zw_1181 rfl rfl dX10_saves_1 ?_
  refine z_iconst (v := nI 4) dX10_saves_4 (by decide) ?_
  refine z_icmp_ne (tgt := 49) dX10_saves_5 (by decide) (fun c_5 => ?_) (fun c_5 => ?_)
  · skip
    have f_5 := m_ne (by omega) (by omega) c_5
    refine z_iconst (v := nI 0) dX10_saves_49 (by decide) ?_
    refine z_istore_n (lv' := [(1, .int (nI 0)), (0, .ref 114)]) dX10_saves_50 rfl (by decide) rfl ?_
    have L51_1 : ∀ (d k : Nat), k ≤ 1371 → 1371 + 1 ≤ k + d → zPW G mX10_saves 0 0 o9 h9 0 0 51 [(1, .int (nI k)), (0, .ref 114)] [] (zHp S X (s, (zFa (1371 * pasts) aside past k), aside, pasts, txt, typed, thrown, line, need, left, slits, slB, slF, slT, at9, wd9, got, ans, worst) out) := by
      intro d
      induction d with
      | zero => intro k hk hd; exact absurd hd (by omega)
      | succ d ih =>
        intro k hk_k hd_k
        have ih51 := ih
        clear ih
        refine z_iload_n 0 dX10_saves_51 rfl rfl ?_
        refine z_sipush (v := nI 1371) dX10_saves_52 (by decide) ?_
        refine z_icmp_ge (tgt := 85) dX10_saves_55 (by decide) (fun c_55 => ?_) (fun c_55 => ?_)
        · skip
          have f_55 := m_le (by omega) (by omega) c_55
          have e_k : k = 1371 := by omega
          rw [e_k]
          refine z_aload_n 1 dX10_saves_85 rfl rfl ?_
          refine z_dup dX10_saves_86 rfl ?_
          refine z_get (v := .int (nI pasts)) 3 zgo_114 rfl inX10 (by decide) zw_1181 rfl rfl dX10_saves_87 ?_
          refine z_iconst (v := nI 1) dX10_saves_90 (by decide) ?_
          refine z_iaddN (a := pasts) (b := 1) dX10_saves_91 ?_
          refine z_puti 3 tyX10 zgo_114 rfl inX10 tyX10_ok nmX10 (by decide) zw_1181 rfl rfl (by decide +kernel) (Nat.le_of_ble_eq_true rfl) dX10_saves_92 ?_
          refine z_eqh (h2 := (zHp S X (s, (zFa (1371 * pasts) aside past 1371), aside, (pasts + 1), txt, typed, thrown, line, need, left, slits, slB, slF, slT, at9, wd9, got, ans, worst) out)) zsf_114_3 ?_
          exact z_vret rfl dX10_saves_95 ho9.symm (zo_h hh9 (by rfl)) (Nat.zero_le _) (Nat.zero_le _)
        · skip
          have f_55 := m_nle (by omega) (by omega) c_55
          refine z_aload_n 1 dX10_saves_58 rfl rfl ?_
          refine z_get (v := .ref 116) 1 zgo_114 rfl inX10 (by decide) zw_1179 rfl rfl dX10_saves_59 ?_
          refine z_sipush (v := nI 1371) dX10_saves_62 (by decide) ?_
          refine z_aload_n 1 dX10_saves_65 rfl rfl ?_
          refine z_get (v := .int (nI pasts)) 3 zgo_114 rfl inX10 (by decide) zw_1181 rfl rfl dX10_saves_66 ?_
          refine z_imulN (a := 1371) (b := pasts) dX10_saves_69 ?_
          refine z_iload_n 0 dX10_saves_70 rfl rfl ?_
          refine z_iaddN (a := 1371 * pasts) (b := k) dX10_saves_71 ?_
          refine z_aload_n 1 dX10_saves_72 rfl rfl ?_
          refine z_get (v := .ref 117) 2 zgo_114 rfl inX10 (by decide) zw_1180 rfl rfl dX10_saves_73 ?_
          refine z_iload_n 0 dX10_saves_76 rfl rfl ?_
          refine z_ialdN (f := aside) (n := 1371) (j := k) zga_117 (by omega) (by decide) dX10_saves_77 ?_
          refine z_iastN (f := (zFa (1371 * pasts) aside past k)) (n := 5484) (j := 1371 * pasts + k) zga_116 (by omega) (by decide) dX10_saves_78 ?_
          refine z_eqh (h2 := (zHp S X (s, (upd (zFa (1371 * pasts) aside past k) (1371 * pasts + k) (aside k)), aside, pasts, txt, typed, thrown, line, need, left, slits, slB, slF, slT, at9, wd9, got, ans, worst) out)) zsa_116 ?_
          refine z_iinc (v := nI (k + 1)) (lv' := [(1, .int (nI (k + 1))), (0, .ref 114)]) 0 dX10_saves_79 rfl (nI_1 _) (by decide) rfl ?_
          refine z_goto (tgt := 51) dX10_saves_82 (by decide) ?_
          refine z_sub [0, 1] (lv' := [(1, .int (nI (k + 1))), (0, .ref 114)]) rfl ?_
          refine z_eqs (lv2 := [(1, .int (nI ((k + 1)))), (0, .ref 114)]) (h2 := (zHp S X (s, (zFa (1371 * pasts) aside past (k + 1)), aside, pasts, txt, typed, thrown, line, need, left, slits, slB, slF, slT, at9, wd9, got, ans, worst) out)) (by rfl) (by rw [zFa_s rfl]) ?_
          exact ih51 (k + 1) (by omega) (by omega)
    refine z_sub [0, 1] (lv' := [(1, .int (nI 0)), (0, .ref 114)]) rfl ?_
    refine z_eqs (lv2 := [(1, .int (nI 0)), (0, .ref 114)]) (h2 := (zHp S X (s, (zFa (1371 * pasts) aside past 0), aside, pasts, txt, typed, thrown, line, need, left, slits, slB, slF, slT, at9, wd9, got, ans, worst) out)) (by rfl) (by rw [zFa_0]) ?_
    exact L51_1 (1371 + 1) 0 (by omega) (by omega)
  · exfalso; have := m_eq (by omega) (by omega) c_5; omega

theorem m_saves {G : zT} {S : zS} {X : zXr} {out : Nat → Int64} {s : (Nat → Int32)} {past : (Nat → Int32)} {aside : (Nat → Int32)} {pasts : Nat} {txt : (Nat → Int32)} {typed : Nat} {thrown : Int32} {line : (Nat → Int32)} {need : (Nat → Int32)} {left : (Nat → Int32)} {slits : Nat} {slB : (Nat → Int32)} {slF : (Nat → Int32)} {slT : (Nat → Int32)} {at9 : Nat} {wd9 : Int32} {got : (Nat → Int32)} {ans : Int32} {worst : UInt32} (hG : zAl G = false) (hp4 : pasts ≤ 4) : zRun G mX10_saves 0 0 [.ref 114] (zHp S X (s, past, aside, pasts, txt, typed, thrown, line, need, left, slits, slB, slF, slT, at9, wd9, got, ans, worst) out) (.inr none) (zHp S X (s, (rSv past aside pasts), aside, (min (pasts + 1) 4), txt, typed, thrown, line, need, left, slits, slB, slF, slT, at9, wd9, got, ans, worst) out) := by
  unfold rSv
  by_cases h : pasts = 4
  · subst h
    exact m_saves4 hG
  · rw [if_neg h, Nat.min_eq_left (by omega)]
    exact m_savesN hG (by omega)

set_option maxHeartbeats 4000000 in
set_option maxRecDepth 100000 in
theorem m_isCell {G : zT} {S : zS} {X : zXr} {out : Nat → Int64} {s : (Nat → Int32)} {past : (Nat → Int32)} {aside : (Nat → Int32)} {pasts : Nat} {txt : (Nat → Int32)} {typed : Nat} {thrown : Int32} {line : (Nat → Int32)} {need : (Nat → Int32)} {left : (Nat → Int32)} {slits : Nat} {slB : (Nat → Int32)} {slF : (Nat → Int32)} {slT : (Nat → Int32)} {at9 : Nat} {wd9 : Int32} {got : (Nat → Int32)} {ans : Int32} {worst : UInt32} (hG : zAl G = false) {c r w cnt lim : Nat} (hM : zMd s c r w cnt lim) (x y : Int32) : zRun G mX10_isCell 0 0 [.ref 114, .int x, .int y] (zHp S X (s, past, aside, pasts, txt, typed, thrown, line, need, left, slits, slB, slF, slT, at9, wd9, got, ans, worst) out) (.inr (some (.int (zB (zIn x (nI c) && zIn y (nI r)))))) (zHp S X (s, past, aside, pasts, txt, typed, thrown, line, need, left, slits, slB, slF, slT, at9, wd9, got, ans, worst) out) := by
  have hM9 := hM
  obtain ⟨h0, h1, h2, h3, h4, hc1, hc, hr1, hr, hw, hn, hl⟩ := hM
  refine zRun_of (by decide +kernel) rfl rfl (Nat.le_of_ble_eq_true rfl) ?_
  suffices hs : ∀ (o9 : zO) (h9 : zH), (Sum.inr (some (.int (zB (zIn x (nI c) && zIn y (nI r))))) : zO) = o9 → (zHp S X (s, past, aside, pasts, txt, typed, thrown, line, need, left, slits, slB, slF, slT, at9, wd9, got, ans, worst) out) = h9 → zPW G mX10_isCell 0 0 o9 h9 0 0 0 [(0, .ref 114), (1, .int x), (2, .int y)] [] (zHp S X (s, past, aside, pasts, txt, typed, thrown, line, need, left, slits, slB, slF, slT, at9, wd9, got, ans, worst) out) from hs _ _ rfl rfl
  intro o9 h9 ho9 hh9
  have J37_8 : zPW G mX10_isCell 0 0 o9 h9 0 0 37 [(0, .ref 114), (1, .int x), (2, .int y)] [.int (zB (zIn x (nI c) && zIn y (nI r)))] (zHp S X (s, past, aside, pasts, txt, typed, thrown, line, need, left, slits, slB, slF, slT, at9, wd9, got, ans, worst) out) := by
    exact z_zret rfl (by exact zB_n _) dX10_isCell_37 (zo_i ho9 (by rfl)) (zo_h hh9 (by rfl)) (Nat.zero_le _) (Nat.zero_le _)
  refine z_iload_n 1 dX10_isCell_0 rfl rfl ?_
  refine z_iconst (v := nI 0) dX10_isCell_1 (by decide) ?_
  refine z_aload_n 0 dX10_isCell_2 rfl rfl ?_
  refine z_get (v := .ref 115) 0 zgo_114 rfl inX10 (by decide) zw_1178 rfl rfl dX10_isCell_3 ?_
  refine z_iconst (v := nI 0) dX10_isCell_6 (by decide) ?_
  refine z_ialdN (f := s) (n := 1371) (j := 0) zga_115 (by omega) (by decide) dX10_isCell_7 ?_
  refine z_top (v2 := .int (nI c)) (by rw [h0]) ?_
  refine z_iconst (v := nI 1) dX10_isCell_8 (by decide) ?_
  refine z_isubN (a := c) (b := 1) (by omega) dX10_isCell_9 ?_
  refine z_callS (N := mX10_in) 3 [.int x, .int (nI 0), .int (nI (c - 1))] [] lX10_in ⟨zw_1252, zw_1253⟩ rfl rfl rfl (Nat.le_of_ble_eq_true rfl) (by decide) ⟨zlt, zlt⟩ hG ⟨Nat.zero_le _, Nat.zero_le _⟩ (m_in hG x (nI 0) (nI (c - 1))) dX10_isCell_10 ?_
  refine z_top (v2 := .int (zB (zIn x (nI c)))) (by rw [zFr_in1 (by omega) (by omega)]) ?_
  refine z_if_eq (tgt := 36) dX10_isCell_13 (by decide) (fun c_13 => ?_) (fun c_13 => ?_)
  · skip
    have b_13 := zB_0.mp c_13
    refine z_iconst (v := nI 0) dX10_isCell_36 (by decide) ?_
    refine z_top (v2 := .int (zB (zIn x (nI c) && zIn y (nI r)))) (by simp [zB, nI_0, nI_one, b_13]) ?_
    exact J37_8
  · skip
    have b_13 := zB_tt c_13
    refine z_iload_n 2 dX10_isCell_16 rfl rfl ?_
    refine z_iconst (v := nI 0) dX10_isCell_17 (by decide) ?_
    refine z_aload_n 0 dX10_isCell_18 rfl rfl ?_
    refine z_get (v := .ref 115) 0 zgo_114 rfl inX10 (by decide) zw_1178 rfl rfl dX10_isCell_19 ?_
    refine z_iconst (v := nI 1) dX10_isCell_22 (by decide) ?_
    refine z_ialdN (f := s) (n := 1371) (j := 1) zga_115 (by omega) (by decide) dX10_isCell_23 ?_
    refine z_top (v2 := .int (nI r)) (by rw [h1]) ?_
    refine z_iconst (v := nI 1) dX10_isCell_24 (by decide) ?_
    refine z_isubN (a := r) (b := 1) (by omega) dX10_isCell_25 ?_
    refine z_callS (N := mX10_in) 3 [.int y, .int (nI 0), .int (nI (r - 1))] [] lX10_in ⟨zw_1252, zw_1253⟩ rfl rfl rfl (Nat.le_of_ble_eq_true rfl) (by decide) ⟨zlt, zlt⟩ hG ⟨Nat.zero_le _, Nat.zero_le _⟩ (m_in hG y (nI 0) (nI (r - 1))) dX10_isCell_26 ?_
    refine z_top (v2 := .int (zB (zIn y (nI r)))) (by rw [zFr_in1 (by omega) (by omega)]) ?_
    refine z_if_eq (tgt := 36) dX10_isCell_29 (by decide) (fun c_29 => ?_) (fun c_29 => ?_)
    · skip
      have b_29 := zB_0.mp c_29
      refine z_iconst (v := nI 0) dX10_isCell_36 (by decide) ?_
      refine z_top (v2 := .int (zB (zIn x (nI c) && zIn y (nI r)))) (by simp [zB, nI_0, nI_one, b_13, b_29]) ?_
      exact J37_8
    · skip
      have b_29 := zB_tt c_29
      refine z_iconst (v := nI 1) dX10_isCell_32 (by decide) ?_
      refine z_goto (tgt := 37) dX10_isCell_33 (by decide) ?_
      refine z_top (v2 := .int (zB (zIn x (nI c) && zIn y (nI r)))) (by simp [zB, nI_0, nI_one, b_13, b_29]) ?_
      exact J37_8

set_option maxHeartbeats 4000000 in
set_option maxRecDepth 100000 in
theorem m_isWoven {G : zT} {S : zS} {X : zXr} {out : Nat → Int64} {s : (Nat → Int32)} {past : (Nat → Int32)} {aside : (Nat → Int32)} {pasts : Nat} {txt : (Nat → Int32)} {typed : Nat} {thrown : Int32} {line : (Nat → Int32)} {need : (Nat → Int32)} {left : (Nat → Int32)} {slits : Nat} {slB : (Nat → Int32)} {slF : (Nat → Int32)} {slT : (Nat → Int32)} {at9 : Nat} {wd9 : Int32} {got : (Nat → Int32)} {ans : Int32} {worst : UInt32} (hG : zAl G = false) {c r w cnt lim : Nat} (hM : zMd s c r w cnt lim) (y : Int32) : zRun G mX10_isWoven 0 0 [.ref 114, .int y] (zHp S X (s, past, aside, pasts, txt, typed, thrown, line, need, left, slits, slB, slF, slT, at9, wd9, got, ans, worst) out) (.inr (some (.int (zB (zIn y (nI w)))))) (zHp S X (s, past, aside, pasts, txt, typed, thrown, line, need, left, slits, slB, slF, slT, at9, wd9, got, ans, worst) out) := by
  have hM9 := hM
  obtain ⟨h0, h1, h2, h3, h4, hc1, hc, hr1, hr, hw, hn, hl⟩ := hM
  refine zRun_of (by decide +kernel) rfl rfl (Nat.le_of_ble_eq_true rfl) ?_
  suffices hs : ∀ (o9 : zO) (h9 : zH), (Sum.inr (some (.int (zB (zIn y (nI w))))) : zO) = o9 → (zHp S X (s, past, aside, pasts, txt, typed, thrown, line, need, left, slits, slB, slF, slT, at9, wd9, got, ans, worst) out) = h9 → zPW G mX10_isWoven 0 0 o9 h9 0 0 0 [(0, .ref 114), (1, .int y)] [] (zHp S X (s, past, aside, pasts, txt, typed, thrown, line, need, left, slits, slB, slF, slT, at9, wd9, got, ans, worst) out) from hs _ _ rfl rfl
  intro o9 h9 ho9 hh9
  refine z_iload_n 1 dX10_isWoven_0 rfl rfl ?_
  refine z_iconst (v := nI 0) dX10_isWoven_1 (by decide) ?_
  refine z_aload_n 0 dX10_isWoven_2 rfl rfl ?_
  refine z_get (v := .ref 115) 0 zgo_114 rfl inX10 (by decide) zw_1178 rfl rfl dX10_isWoven_3 ?_
  refine z_iconst (v := nI 2) dX10_isWoven_6 (by decide) ?_
  refine z_ialdN (f := s) (n := 1371) (j := 2) zga_115 (by omega) (by decide) dX10_isWoven_7 ?_
  refine z_top (v2 := .int (nI w)) (by rw [h2]) ?_
  refine z_iconst (v := nI 1) dX10_isWoven_8 (by decide) ?_
  refine z_isub dX10_isWoven_9 ?_
  refine z_callS (N := mX10_in) 3 [.int y, .int (nI 0), .int ((nI w) - (nI 1))] [] lX10_in ⟨zw_1252, zw_1253⟩ rfl rfl rfl (Nat.le_of_ble_eq_true rfl) (by decide) ⟨zlt, zlt⟩ hG ⟨Nat.zero_le _, Nat.zero_le _⟩ (m_in hG y (nI 0) ((nI w) - (nI 1))) dX10_isWoven_10 ?_
  refine z_top (v2 := .int (zB (zIn y (nI w)))) (by rw [zFr_in (by omega)]) ?_
  exact z_zret rfl (by exact zB_n _) dX10_isWoven_13 (zo_i ho9 (by rfl)) (zo_h hh9 (by rfl)) (Nat.zero_le _) (Nat.zero_le _)

set_option maxHeartbeats 4000000 in
set_option maxRecDepth 100000 in
theorem m_itsN {G : zT} {S : zS} {X : zXr} {out : Nat → Int64} {s : (Nat → Int32)} {past : (Nat → Int32)} {aside : (Nat → Int32)} {pasts : Nat} {txt : (Nat → Int32)} {typed : Nat} {thrown : Int32} {line : (Nat → Int32)} {need : (Nat → Int32)} {left : (Nat → Int32)} {slits : Nat} {slB : (Nat → Int32)} {slF : (Nat → Int32)} {slT : (Nat → Int32)} {at9 : Nat} {wd9 : Int32} {got : (Nat → Int32)} {ans : Int32} {worst : UInt32} (hG : zAl G = false) (l t : Nat) (hl16 : l < 16) (ht3 : t ≤ 3) : zRun G mX10_its 0 0 [.ref 114, .int (nI l), .int (nI t)] (zHp S X (s, past, aside, pasts, txt, typed, thrown, line, need, left, slits, slB, slF, slT, at9, wd9, got, ans, worst) out) (.inr (some (.int (s (7 + 4 * l + t))))) (zHp S X (s, past, aside, pasts, txt, typed, thrown, line, need, left, slits, slB, slF, slT, at9, wd9, got, ans, worst) out) := by
  refine zRun_of (by decide +kernel) rfl rfl (Nat.le_of_ble_eq_true rfl) ?_
  suffices hs : ∀ (o9 : zO) (h9 : zH), (Sum.inr (some (.int (s (7 + 4 * l + t)))) : zO) = o9 → (zHp S X (s, past, aside, pasts, txt, typed, thrown, line, need, left, slits, slB, slF, slT, at9, wd9, got, ans, worst) out) = h9 → zPW G mX10_its 0 0 o9 h9 0 0 0 [(0, .ref 114), (1, .int (nI l)), (2, .int (nI t))] [] (zHp S X (s, past, aside, pasts, txt, typed, thrown, line, need, left, slits, slB, slF, slT, at9, wd9, got, ans, worst) out) from hs _ _ rfl rfl
  intro o9 h9 ho9 hh9
  refine z_aload_n 0 dX10_its_0 rfl rfl ?_
  refine z_get (v := .ref 115) 0 zgo_114 rfl inX10 (by decide) zw_1178 rfl rfl dX10_its_1 ?_
  refine z_bipush (v := nI 7) dX10_its_4 (by decide) ?_
  refine z_iconst (v := nI 4) dX10_its_6 (by decide) ?_
  refine z_iload_n 1 dX10_its_7 rfl rfl ?_
  refine z_imulN (a := 4) (b := l) dX10_its_8 ?_
  refine z_iaddN (a := 7) (b := 4 * l) dX10_its_9 ?_
  refine z_iload_n 2 dX10_its_10 rfl rfl ?_
  refine z_iaddN (a := 7 + 4 * l) (b := t) dX10_its_11 ?_
  refine z_ialdN (f := s) (n := 1371) (j := 7 + 4 * l + t) zga_115 (by omega) (by decide) dX10_its_12 ?_
  exact z_iret rfl dX10_its_13 (zo_i ho9 (by rfl)) (zo_h hh9 (by rfl)) (Nat.zero_le _) (Nat.zero_le _)

set_option maxHeartbeats 4000000 in
set_option maxRecDepth 100000 in
theorem m_its {G : zT} {S : zS} {X : zXr} {out : Nat → Int64} {s : (Nat → Int32)} {past : (Nat → Int32)} {aside : (Nat → Int32)} {pasts : Nat} {txt : (Nat → Int32)} {typed : Nat} {thrown : Int32} {line : (Nat → Int32)} {need : (Nat → Int32)} {left : (Nat → Int32)} {slits : Nat} {slB : (Nat → Int32)} {slF : (Nat → Int32)} {slT : (Nat → Int32)} {at9 : Nat} {wd9 : Int32} {got : (Nat → Int32)} {ans : Int32} {worst : UInt32} (hG : zAl G = false) (l : Int32) (t : Nat) (hl16 : l = -1 ∨ ∃ j, j < 16 ∧ l = nI j) (ht3 : t ≤ 3) : zRun G mX10_its 0 0 [.ref 114, .int l, .int (nI t)] (zHp S X (s, past, aside, pasts, txt, typed, thrown, line, need, left, slits, slB, slF, slT, at9, wd9, got, ans, worst) out) (.inr (some (.int (s (rIx l t))))) (zHp S X (s, past, aside, pasts, txt, typed, thrown, line, need, left, slits, slB, slF, slT, at9, wd9, got, ans, worst) out) := by
  refine zRun_of (by decide +kernel) rfl rfl (Nat.le_of_ble_eq_true rfl) ?_
  suffices hs : ∀ (o9 : zO) (h9 : zH), (Sum.inr (some (.int (s (rIx l t)))) : zO) = o9 → (zHp S X (s, past, aside, pasts, txt, typed, thrown, line, need, left, slits, slB, slF, slT, at9, wd9, got, ans, worst) out) = h9 → zPW G mX10_its 0 0 o9 h9 0 0 0 [(0, .ref 114), (1, .int l), (2, .int (nI t))] [] (zHp S X (s, past, aside, pasts, txt, typed, thrown, line, need, left, slits, slB, slF, slT, at9, wd9, got, ans, worst) out) from hs _ _ rfl rfl
  intro o9 h9 ho9 hh9
  refine z_aload_n 0 dX10_its_0 rfl rfl ?_
  refine z_get (v := .ref 115) 0 zgo_114 rfl inX10 (by decide) zw_1178 rfl rfl dX10_its_1 ?_
  refine z_bipush (v := nI 7) dX10_its_4 (by decide) ?_
  refine z_iconst (v := nI 4) dX10_its_6 (by decide) ?_
  refine z_iload_n 1 dX10_its_7 rfl rfl ?_
  refine z_imul dX10_its_8 ?_
  refine z_iadd dX10_its_9 ?_
  refine z_iload_n 2 dX10_its_10 rfl rfl ?_
  refine z_iadd dX10_its_11 ?_
  refine z_iald (f := s) (n := 1371) zga_115 (by exact (rIx_in hl16 ht3).1) dX10_its_12 ?_
  exact z_iret rfl dX10_its_13 (zo_i ho9 (by rfl)) (zo_h hh9 (by rfl)) (Nat.zero_le _) (Nat.zero_le _)

set_option maxHeartbeats 4000000 in
set_option maxRecDepth 100000 in
theorem m_drawn {G : zT} {S : zS} {X : zXr} {out : Nat → Int64} {s : (Nat → Int32)} {past : (Nat → Int32)} {aside : (Nat → Int32)} {pasts : Nat} {txt : (Nat → Int32)} {typed : Nat} {thrown : Int32} {line : (Nat → Int32)} {need : (Nat → Int32)} {left : (Nat → Int32)} {slits : Nat} {slB : (Nat → Int32)} {slF : (Nat → Int32)} {slT : (Nat → Int32)} {at9 : Nat} {wd9 : Int32} {got : (Nat → Int32)} {ans : Int32} {worst : UInt32} (hG : zAl G = false) {c r w cnt lim : Nat} (hM : zMd s c r w cnt lim) (y b : Nat) (hy : y < 16) (hb : b < c) : zRun G mX10_drawn 0 0 [.ref 114, .int (nI y), .int (nI b)] (zHp S X (s, past, aside, pasts, txt, typed, thrown, line, need, left, slits, slB, slF, slT, at9, wd9, got, ans, worst) out) (.inr (some (.int (rD s c y b)))) (zHp S X (s, past, aside, pasts, txt, typed, thrown, line, need, left, slits, slB, slF, slT, at9, wd9, got, ans, worst) out) := by
  have hM9 := hM
  obtain ⟨h0, h1, h2, h3, h4, hc1, hc, hr1, hr, hw, hn, hl⟩ := hM
  refine zRun_of (by decide +kernel) rfl rfl (Nat.le_of_ble_eq_true rfl) ?_
  suffices hs : ∀ (o9 : zO) (h9 : zH), (Sum.inr (some (.int (rD s c y b))) : zO) = o9 → (zHp S X (s, past, aside, pasts, txt, typed, thrown, line, need, left, slits, slB, slF, slT, at9, wd9, got, ans, worst) out) = h9 → zPW G mX10_drawn 0 0 o9 h9 0 0 0 [(0, .ref 114), (1, .int (nI y)), (2, .int (nI b))] [] (zHp S X (s, past, aside, pasts, txt, typed, thrown, line, need, left, slits, slB, slF, slT, at9, wd9, got, ans, worst) out) from hs _ _ rfl rfl
  intro o9 h9 ho9 hh9
  refine z_aload_n 0 dX10_drawn_0 rfl rfl ?_
  refine z_get (v := .ref 115) 0 zgo_114 rfl inX10 (by decide) zw_1178 rfl rfl dX10_drawn_1 ?_
  refine z_bipush (v := nI 91) dX10_drawn_4 (by decide) ?_
  refine z_bipush (v := nI 20) dX10_drawn_6 (by decide) ?_
  refine z_iload_n 1 dX10_drawn_8 rfl rfl ?_
  refine z_imulN (a := 20) (b := y) dX10_drawn_9 ?_
  refine z_iaddN (a := 91) (b := 20 * y) dX10_drawn_10 ?_
  refine z_aload_n 0 dX10_drawn_11 rfl rfl ?_
  refine z_get (v := .ref 115) 0 zgo_114 rfl inX10 (by decide) zw_1178 rfl rfl dX10_drawn_12 ?_
  refine z_iconst (v := nI 0) dX10_drawn_15 (by decide) ?_
  refine z_ialdN (f := s) (n := 1371) (j := 0) zga_115 (by omega) (by decide) dX10_drawn_16 ?_
  refine z_top (v2 := .int (nI c)) (by rw [h0]) ?_
  refine z_iaddN (a := 91 + 20 * y) (b := c) dX10_drawn_17 ?_
  refine z_iconst (v := nI 1) dX10_drawn_18 (by decide) ?_
  refine z_isubN (a := 91 + 20 * y + c) (b := 1) (by omega) dX10_drawn_19 ?_
  refine z_iload_n 2 dX10_drawn_20 rfl rfl ?_
  refine z_isubN (a := 91 + 20 * y + c - 1) (b := b) (by omega) dX10_drawn_21 ?_
  refine z_ialdN (f := s) (n := 1371) (j := 91 + 20 * y + c - 1 - b) zga_115 (by omega) (by decide) dX10_drawn_22 ?_
  exact z_iret rfl dX10_drawn_23 (zo_i ho9 (by rfl)) (zo_h hh9 (by rfl)) (Nat.zero_le _) (Nat.zero_le _)

set_option maxHeartbeats 4000000 in
set_option maxRecDepth 100000 in
theorem m_woven {G : zT} {S : zS} {X : zXr} {out : Nat → Int64} {s : (Nat → Int32)} {past : (Nat → Int32)} {aside : (Nat → Int32)} {pasts : Nat} {txt : (Nat → Int32)} {typed : Nat} {thrown : Int32} {line : (Nat → Int32)} {need : (Nat → Int32)} {left : (Nat → Int32)} {slits : Nat} {slB : (Nat → Int32)} {slF : (Nat → Int32)} {slT : (Nat → Int32)} {at9 : Nat} {wd9 : Int32} {got : (Nat → Int32)} {ans : Int32} {worst : UInt32} (hG : zAl G = false) (y b : Nat) (hy : y < 16) (hb : b < 20) : zRun G mX10_woven 0 0 [.ref 114, .int (nI y), .int (nI b)] (zHp S X (s, past, aside, pasts, txt, typed, thrown, line, need, left, slits, slB, slF, slT, at9, wd9, got, ans, worst) out) (.inr (some (.int (rW s y b)))) (zHp S X (s, past, aside, pasts, txt, typed, thrown, line, need, left, slits, slB, slF, slT, at9, wd9, got, ans, worst) out) := by
  refine zRun_of (by decide +kernel) rfl rfl (Nat.le_of_ble_eq_true rfl) ?_
  suffices hs : ∀ (o9 : zO) (h9 : zH), (Sum.inr (some (.int (rW s y b))) : zO) = o9 → (zHp S X (s, past, aside, pasts, txt, typed, thrown, line, need, left, slits, slB, slF, slT, at9, wd9, got, ans, worst) out) = h9 → zPW G mX10_woven 0 0 o9 h9 0 0 0 [(0, .ref 114), (1, .int (nI y)), (2, .int (nI b))] [] (zHp S X (s, past, aside, pasts, txt, typed, thrown, line, need, left, slits, slB, slF, slT, at9, wd9, got, ans, worst) out) from hs _ _ rfl rfl
  intro o9 h9 ho9 hh9
  refine z_aload_n 0 dX10_woven_0 rfl rfl ?_
  refine z_get (v := .ref 115) 0 zgo_114 rfl inX10 (by decide) zw_1178 rfl rfl dX10_woven_1 ?_
  refine z_sipush (v := nI 411) dX10_woven_4 (by decide) ?_
  refine z_bipush (v := nI 20) dX10_woven_7 (by decide) ?_
  refine z_iload_n 1 dX10_woven_9 rfl rfl ?_
  refine z_imulN (a := 20) (b := y) dX10_woven_10 ?_
  refine z_iaddN (a := 411) (b := 20 * y) dX10_woven_11 ?_
  refine z_iload_n 2 dX10_woven_12 rfl rfl ?_
  refine z_iaddN (a := 411 + 20 * y) (b := b) dX10_woven_13 ?_
  refine z_ialdN (f := s) (n := 1371) (j := 411 + 20 * y + b) zga_115 (by omega) (by decide) dX10_woven_14 ?_
  exact z_iret rfl dX10_woven_15 (zo_i ho9 (by rfl)) (zo_h hh9 (by rfl)) (Nat.zero_le _) (Nat.zero_le _)

set_option maxHeartbeats 4000000 in
set_option maxRecDepth 100000 in
theorem m_yarn {G : zT} {S : zS} {X : zXr} {out : Nat → Int64} {s : (Nat → Int32)} {past : (Nat → Int32)} {aside : (Nat → Int32)} {pasts : Nat} {txt : (Nat → Int32)} {typed : Nat} {thrown : Int32} {line : (Nat → Int32)} {need : (Nat → Int32)} {left : (Nat → Int32)} {slits : Nat} {slB : (Nat → Int32)} {slF : (Nat → Int32)} {slT : (Nat → Int32)} {at9 : Nat} {wd9 : Int32} {got : (Nat → Int32)} {ans : Int32} {worst : UInt32} (hG : zAl G = false) (y b : Nat) (hy : y < 16) (hb : b < 20) : zRun G mX10_yarn 0 0 [.ref 114, .int (nI y), .int (nI b)] (zHp S X (s, past, aside, pasts, txt, typed, thrown, line, need, left, slits, slB, slF, slT, at9, wd9, got, ans, worst) out) (.inr (some (.int (rY s y b)))) (zHp S X (s, past, aside, pasts, txt, typed, thrown, line, need, left, slits, slB, slF, slT, at9, wd9, got, ans, worst) out) := by
  refine zRun_of (by decide +kernel) rfl rfl (Nat.le_of_ble_eq_true rfl) ?_
  suffices hs : ∀ (o9 : zO) (h9 : zH), (Sum.inr (some (.int (rY s y b))) : zO) = o9 → (zHp S X (s, past, aside, pasts, txt, typed, thrown, line, need, left, slits, slB, slF, slT, at9, wd9, got, ans, worst) out) = h9 → zPW G mX10_yarn 0 0 o9 h9 0 0 0 [(0, .ref 114), (1, .int (nI y)), (2, .int (nI b))] [] (zHp S X (s, past, aside, pasts, txt, typed, thrown, line, need, left, slits, slB, slF, slT, at9, wd9, got, ans, worst) out) from hs _ _ rfl rfl
  intro o9 h9 ho9 hh9
  refine z_aload_n 0 dX10_yarn_0 rfl rfl ?_
  refine z_get (v := .ref 115) 0 zgo_114 rfl inX10 (by decide) zw_1178 rfl rfl dX10_yarn_1 ?_
  refine z_sipush (v := nI 731) dX10_yarn_4 (by decide) ?_
  refine z_bipush (v := nI 20) dX10_yarn_7 (by decide) ?_
  refine z_iload_n 1 dX10_yarn_9 rfl rfl ?_
  refine z_imulN (a := 20) (b := y) dX10_yarn_10 ?_
  refine z_iaddN (a := 731) (b := 20 * y) dX10_yarn_11 ?_
  refine z_iload_n 2 dX10_yarn_12 rfl rfl ?_
  refine z_iaddN (a := 731 + 20 * y) (b := b) dX10_yarn_13 ?_
  refine z_ialdN (f := s) (n := 1371) (j := 731 + 20 * y + b) zga_115 (by omega) (by decide) dX10_yarn_14 ?_
  exact z_iret rfl dX10_yarn_15 (zo_i ho9 (by rfl)) (zo_h hh9 (by rfl)) (Nat.zero_le _) (Nat.zero_le _)

set_option maxHeartbeats 4000000 in
set_option maxRecDepth 100000 in
theorem m_draws1 {G : zT} {S : zS} {X : zXr} {out : Nat → Int64} {s : (Nat → Int32)} {past : (Nat → Int32)} {aside : (Nat → Int32)} {pasts : Nat} {txt : (Nat → Int32)} {typed : Nat} {thrown : Int32} {line : (Nat → Int32)} {need : (Nat → Int32)} {left : (Nat → Int32)} {slits : Nat} {slB : (Nat → Int32)} {slF : (Nat → Int32)} {slT : (Nat → Int32)} {at9 : Nat} {wd9 : Int32} {got : (Nat → Int32)} {ans : Int32} {worst : UInt32} (hG : zAl G = false) {c r w cnt lim : Nat} (hM : zMd s c r w cnt lim) (y : Nat) (hy : y < 16) : zRun G mX10_draws 0 0 [.ref 114, .int (nI y), .int (nI 1)] (zHp S X (s, past, aside, pasts, txt, typed, thrown, line, need, left, slits, slB, slF, slT, at9, wd9, got, ans, worst) out) (.inr none) (zHp S X (s, past, aside, pasts, txt, typed, thrown, (zFl (rDl s c y) line c), need, left, slits, slB, slF, slT, at9, wd9, got, ans, worst) out) := by
  have hM9 := hM
  obtain ⟨h0, h1, h2, h3, h4, hc1, hc, hr1, hr, hw, hn, hl⟩ := hM
  refine zRun_of (by decide +kernel) rfl rfl (Nat.le_of_ble_eq_true rfl) ?_
  suffices hs : ∀ (o9 : zO) (h9 : zH), (Sum.inr none : zO) = o9 → (zHp S X (s, past, aside, pasts, txt, typed, thrown, (zFl (rDl s c y) line c), need, left, slits, slB, slF, slT, at9, wd9, got, ans, worst) out) = h9 → zPW G mX10_draws 0 0 o9 h9 0 0 0 [(0, .ref 114), (1, .int (nI y)), (2, .int (nI 1))] [] (zHp S X (s, past, aside, pasts, txt, typed, thrown, line, need, left, slits, slB, slF, slT, at9, wd9, got, ans, worst) out) from hs _ _ rfl rfl
  intro o9 h9 ho9 hh9
  refine z_iconst (v := nI 0) dX10_draws_0 (by decide) ?_
  refine z_istore_n (lv' := [(3, .int (nI 0)), (0, .ref 114), (1, .int (nI y)), (2, .int (nI 1))]) dX10_draws_1 rfl (by decide) rfl ?_
  have L2_1 : ∀ (d k : Nat), k ≤ c → c + 1 ≤ k + d → zPW G mX10_draws 0 0 o9 h9 0 0 2 [(3, .int (nI k)), (0, .ref 114), (1, .int (nI y)), (2, .int (nI 1))] [] (zHp S X (s, past, aside, pasts, txt, typed, thrown, (zFl (rDl s c y) line k), need, left, slits, slB, slF, slT, at9, wd9, got, ans, worst) out) := by
    intro d
    induction d with
    | zero => intro k hk hd; exact absurd hd (by omega)
    | succ d ih =>
      intro k hk_k hd_k
      have ih2 := ih
      clear ih
      refine z_iload_n 0 dX10_draws_2 rfl rfl ?_
      refine z_aload_n 1 dX10_draws_3 rfl rfl ?_
      refine z_get (v := .ref 115) 0 zgo_114 rfl inX10 (by decide) zw_1178 rfl rfl dX10_draws_4 ?_
      refine z_iconst (v := nI 0) dX10_draws_7 (by decide) ?_
      refine z_ialdN (f := s) (n := 1371) (j := 0) zga_115 (by omega) (by decide) dX10_draws_8 ?_
      refine z_top (v2 := .int (nI c)) (by rw [h0]) ?_
      refine z_icmp_ge (tgt := 55) dX10_draws_9 (by decide) (fun c_9 => ?_) (fun c_9 => ?_)
      · skip
        have f_9 := m_le (by omega) (by omega) c_9
        have e_k : k = c := by omega
        rw [e_k]
        exact z_vret rfl dX10_draws_55 ho9.symm (zo_h hh9 (by rfl)) (Nat.zero_le _) (Nat.zero_le _)
      · skip
        have f_9 := m_nle (by omega) (by omega) c_9
        refine z_aload_n 1 dX10_draws_12 rfl rfl ?_
        refine z_get (v := .ref 115) 0 zgo_114 rfl inX10 (by decide) zw_1178 rfl rfl dX10_draws_13 ?_
        refine z_bipush (v := nI 71) dX10_draws_16 (by decide) ?_
        refine z_iload_n 0 dX10_draws_18 rfl rfl ?_
        refine z_iaddN (a := 71) (b := k) dX10_draws_19 ?_
        refine z_ialdN (f := s) (n := 1371) (j := 71 + k) zga_115 (by omega) (by decide) dX10_draws_20 ?_
        refine z_istore (lv' := [(4, .int (s (71 + k))), (3, .int (nI k)), (0, .ref 114), (1, .int (nI y)), (2, .int (nI 1))]) dX10_draws_21 (by decide) rfl ?_
        refine z_aload_n 2 dX10_draws_23 rfl rfl ?_
        refine z_get (v := .ref 119) 7 zgo_114 rfl inX10 (by decide) zw_1185 rfl rfl dX10_draws_24 ?_
        refine z_iload_n 1 dX10_draws_27 rfl rfl ?_
        have J48_42 : zPW G mX10_draws 0 0 o9 h9 0 0 48 [(4, .int (s (71 + k))), (3, .int (nI k)), (0, .ref 114), (1, .int (nI y)), (2, .int (nI 1))] [.int (rDl s c y k), .int (nI k), .ref 119] (zHp S X (s, past, aside, pasts, txt, typed, thrown, (zFl (rDl s c y) line k), need, left, slits, slB, slF, slT, at9, wd9, got, ans, worst) out) := by
          refine z_iastN (f := (zFl (rDl s c y) line k)) (n := 20) (j := k) zga_119 (by omega) (by decide) dX10_draws_48 ?_
          refine z_eqh (h2 := (zHp S X (s, past, aside, pasts, txt, typed, thrown, (upd (zFl (rDl s c y) line k) k (rDl s c y k)), need, left, slits, slB, slF, slT, at9, wd9, got, ans, worst) out)) zsa_119 ?_
          refine z_iinc (v := nI (k + 1)) (lv' := [(3, .int (nI (k + 1))), (4, .int (s (71 + k))), (0, .ref 114), (1, .int (nI y)), (2, .int (nI 1))]) 1 dX10_draws_49 rfl (nI_1 _) (by decide) rfl ?_
          refine z_goto (tgt := 2) dX10_draws_52 (by decide) ?_
          refine z_sub [0, 2, 3, 4] (lv' := [(3, .int (nI (k + 1))), (0, .ref 114), (1, .int (nI y)), (2, .int (nI 1))]) rfl ?_
          refine z_eqs (lv2 := [(3, .int (nI ((k + 1)))), (0, .ref 114), (1, .int (nI y)), (2, .int (nI 1))]) (h2 := (zHp S X (s, past, aside, pasts, txt, typed, thrown, (zFl (rDl s c y) line (k + 1)), need, left, slits, slB, slF, slT, at9, wd9, got, ans, worst) out)) (by rfl) (by rw [zFl_S rfl]) ?_
          exact ih2 (k + 1) (by omega) (by omega)
        refine z_iload_n 4 dX10_draws_28 rfl rfl ?_
        refine z_if_eq (tgt := 42) dX10_draws_29 (by decide) (fun c_29 => ?_) (fun c_29 => ?_)
        · exfalso; revert c_29; decide
        · skip
          have f_29 := m_z_eq_f (by omega) c_29
          refine z_iload 0 dX10_draws_32 rfl ?_
          refine z_if_lt (tgt := 42) dX10_draws_34 (by decide) (fun c_34 => ?_) (fun c_34 => ?_)
          · skip
            refine z_aload_n 2 dX10_draws_42 rfl rfl ?_
            refine z_iload_n 3 dX10_draws_43 rfl rfl ?_
            refine z_iload_n 1 dX10_draws_44 rfl rfl ?_
            refine z_callV (N := mX10_drawn) 2 [.int (nI y), .int (nI k)] [.int (nI k), .ref 119] lX10_drawn ⟨zw_1360, zw_1362, zw_63⟩ rfl zgo_114 rfl rfl (Nat.le_of_ble_eq_true rfl) (by decide) ⟨zlt, zlt⟩ ⟨Nat.zero_le _, Nat.zero_le _⟩ (fun _ => rfl) (m_drawn hG hM9 y k (by omega) (by omega)) dX10_draws_45 ?_
            refine z_top (v2 := .int (rDl s c y k)) (by simp [rDl, c_9, f_9, c_29, f_29, c_34]) ?_
            exact J48_42
          · skip
            refine z_iload 0 dX10_draws_37 rfl ?_
            refine z_goto (tgt := 48) dX10_draws_39 (by decide) ?_
            refine z_top (v2 := .int (rDl s c y k)) (by simp [rDl, c_9, f_9, c_29, f_29, c_34]) ?_
            exact J48_42
  refine z_sub [0, 1, 2, 3] (lv' := [(3, .int (nI 0)), (0, .ref 114), (1, .int (nI y)), (2, .int (nI 1))]) rfl ?_
  refine z_eqs (lv2 := [(3, .int (nI 0)), (0, .ref 114), (1, .int (nI y)), (2, .int (nI 1))]) (h2 := (zHp S X (s, past, aside, pasts, txt, typed, thrown, (zFl (rDl s c y) line 0), need, left, slits, slB, slF, slT, at9, wd9, got, ans, worst) out)) (by rfl) (by rw [zFl_0]) ?_
  exact L2_1 (c + 1) 0 (by omega) (by omega)

set_option maxHeartbeats 4000000 in
set_option maxRecDepth 100000 in
theorem m_draws0 {G : zT} {S : zS} {X : zXr} {out : Nat → Int64} {s : (Nat → Int32)} {past : (Nat → Int32)} {aside : (Nat → Int32)} {pasts : Nat} {txt : (Nat → Int32)} {typed : Nat} {thrown : Int32} {line : (Nat → Int32)} {need : (Nat → Int32)} {left : (Nat → Int32)} {slits : Nat} {slB : (Nat → Int32)} {slF : (Nat → Int32)} {slT : (Nat → Int32)} {at9 : Nat} {wd9 : Int32} {got : (Nat → Int32)} {ans : Int32} {worst : UInt32} (hG : zAl G = false) {c r w cnt lim : Nat} (hM : zMd s c r w cnt lim) (y : Nat) (hy : y < 16) : zRun G mX10_draws 0 0 [.ref 114, .int (nI y), .int (nI 0)] (zHp S X (s, past, aside, pasts, txt, typed, thrown, line, need, left, slits, slB, slF, slT, at9, wd9, got, ans, worst) out) (.inr none) (zHp S X (s, past, aside, pasts, txt, typed, thrown, (zFl (rD s c y) line c), need, left, slits, slB, slF, slT, at9, wd9, got, ans, worst) out) := by
  have hM9 := hM
  obtain ⟨h0, h1, h2, h3, h4, hc1, hc, hr1, hr, hw, hn, hl⟩ := hM
  refine zRun_of (by decide +kernel) rfl rfl (Nat.le_of_ble_eq_true rfl) ?_
  suffices hs : ∀ (o9 : zO) (h9 : zH), (Sum.inr none : zO) = o9 → (zHp S X (s, past, aside, pasts, txt, typed, thrown, (zFl (rD s c y) line c), need, left, slits, slB, slF, slT, at9, wd9, got, ans, worst) out) = h9 → zPW G mX10_draws 0 0 o9 h9 0 0 0 [(0, .ref 114), (1, .int (nI y)), (2, .int (nI 0))] [] (zHp S X (s, past, aside, pasts, txt, typed, thrown, line, need, left, slits, slB, slF, slT, at9, wd9, got, ans, worst) out) from hs _ _ rfl rfl
  intro o9 h9 ho9 hh9
  refine z_iconst (v := nI 0) dX10_draws_0 (by decide) ?_
  refine z_istore_n (lv' := [(3, .int (nI 0)), (0, .ref 114), (1, .int (nI y)), (2, .int (nI 0))]) dX10_draws_1 rfl (by decide) rfl ?_
  have L2_1 : ∀ (d k : Nat), k ≤ c → c + 1 ≤ k + d → zPW G mX10_draws 0 0 o9 h9 0 0 2 [(3, .int (nI k)), (0, .ref 114), (1, .int (nI y)), (2, .int (nI 0))] [] (zHp S X (s, past, aside, pasts, txt, typed, thrown, (zFl (rD s c y) line k), need, left, slits, slB, slF, slT, at9, wd9, got, ans, worst) out) := by
    intro d
    induction d with
    | zero => intro k hk hd; exact absurd hd (by omega)
    | succ d ih =>
      intro k hk_k hd_k
      have ih2 := ih
      clear ih
      refine z_iload_n 0 dX10_draws_2 rfl rfl ?_
      refine z_aload_n 1 dX10_draws_3 rfl rfl ?_
      refine z_get (v := .ref 115) 0 zgo_114 rfl inX10 (by decide) zw_1178 rfl rfl dX10_draws_4 ?_
      refine z_iconst (v := nI 0) dX10_draws_7 (by decide) ?_
      refine z_ialdN (f := s) (n := 1371) (j := 0) zga_115 (by omega) (by decide) dX10_draws_8 ?_
      refine z_top (v2 := .int (nI c)) (by rw [h0]) ?_
      refine z_icmp_ge (tgt := 55) dX10_draws_9 (by decide) (fun c_9 => ?_) (fun c_9 => ?_)
      · skip
        have f_9 := m_le (by omega) (by omega) c_9
        have e_k : k = c := by omega
        rw [e_k]
        exact z_vret rfl dX10_draws_55 ho9.symm (zo_h hh9 (by rfl)) (Nat.zero_le _) (Nat.zero_le _)
      · skip
        have f_9 := m_nle (by omega) (by omega) c_9
        refine z_aload_n 1 dX10_draws_12 rfl rfl ?_
        refine z_get (v := .ref 115) 0 zgo_114 rfl inX10 (by decide) zw_1178 rfl rfl dX10_draws_13 ?_
        refine z_bipush (v := nI 71) dX10_draws_16 (by decide) ?_
        refine z_iload_n 0 dX10_draws_18 rfl rfl ?_
        refine z_iaddN (a := 71) (b := k) dX10_draws_19 ?_
        refine z_ialdN (f := s) (n := 1371) (j := 71 + k) zga_115 (by omega) (by decide) dX10_draws_20 ?_
        refine z_istore (lv' := [(4, .int (s (71 + k))), (3, .int (nI k)), (0, .ref 114), (1, .int (nI y)), (2, .int (nI 0))]) dX10_draws_21 (by decide) rfl ?_
        refine z_aload_n 2 dX10_draws_23 rfl rfl ?_
        refine z_get (v := .ref 119) 7 zgo_114 rfl inX10 (by decide) zw_1185 rfl rfl dX10_draws_24 ?_
        refine z_iload_n 1 dX10_draws_27 rfl rfl ?_
        have J48_42 : zPW G mX10_draws 0 0 o9 h9 0 0 48 [(4, .int (s (71 + k))), (3, .int (nI k)), (0, .ref 114), (1, .int (nI y)), (2, .int (nI 0))] [.int (rD s c y k), .int (nI k), .ref 119] (zHp S X (s, past, aside, pasts, txt, typed, thrown, (zFl (rD s c y) line k), need, left, slits, slB, slF, slT, at9, wd9, got, ans, worst) out) := by
          refine z_iastN (f := (zFl (rD s c y) line k)) (n := 20) (j := k) zga_119 (by omega) (by decide) dX10_draws_48 ?_
          refine z_eqh (h2 := (zHp S X (s, past, aside, pasts, txt, typed, thrown, (upd (zFl (rD s c y) line k) k (rD s c y k)), need, left, slits, slB, slF, slT, at9, wd9, got, ans, worst) out)) zsa_119 ?_
          refine z_iinc (v := nI (k + 1)) (lv' := [(3, .int (nI (k + 1))), (4, .int (s (71 + k))), (0, .ref 114), (1, .int (nI y)), (2, .int (nI 0))]) 1 dX10_draws_49 rfl (nI_1 _) (by decide) rfl ?_
          refine z_goto (tgt := 2) dX10_draws_52 (by decide) ?_
          refine z_sub [0, 2, 3, 4] (lv' := [(3, .int (nI (k + 1))), (0, .ref 114), (1, .int (nI y)), (2, .int (nI 0))]) rfl ?_
          refine z_eqs (lv2 := [(3, .int (nI ((k + 1)))), (0, .ref 114), (1, .int (nI y)), (2, .int (nI 0))]) (h2 := (zHp S X (s, past, aside, pasts, txt, typed, thrown, (zFl (rD s c y) line (k + 1)), need, left, slits, slB, slF, slT, at9, wd9, got, ans, worst) out)) (by rfl) (by rw [zFl_S rfl]) ?_
          exact ih2 (k + 1) (by omega) (by omega)
        refine z_iload_n 4 dX10_draws_28 rfl rfl ?_
        refine z_if_eq (tgt := 42) dX10_draws_29 (by decide) (fun c_29 => ?_) (fun c_29 => ?_)
        · skip
          have f_29 := m_z_eq_t (by omega) c_29
          refine z_aload_n 2 dX10_draws_42 rfl rfl ?_
          refine z_iload_n 3 dX10_draws_43 rfl rfl ?_
          refine z_iload_n 1 dX10_draws_44 rfl rfl ?_
          refine z_callV (N := mX10_drawn) 2 [.int (nI y), .int (nI k)] [.int (nI k), .ref 119] lX10_drawn ⟨zw_1360, zw_1362, zw_63⟩ rfl zgo_114 rfl rfl (Nat.le_of_ble_eq_true rfl) (by decide) ⟨zlt, zlt⟩ ⟨Nat.zero_le _, Nat.zero_le _⟩ (fun _ => rfl) (m_drawn hG hM9 y k (by omega) (by omega)) dX10_draws_45 ?_
          refine z_top (v2 := .int (rD s c y k)) (by rfl) ?_
          exact J48_42
        · exfalso; revert c_29; decide
  refine z_sub [0, 1, 2, 3] (lv' := [(3, .int (nI 0)), (0, .ref 114), (1, .int (nI y)), (2, .int (nI 0))]) rfl ?_
  refine z_eqs (lv2 := [(3, .int (nI 0)), (0, .ref 114), (1, .int (nI y)), (2, .int (nI 0))]) (h2 := (zHp S X (s, past, aside, pasts, txt, typed, thrown, (zFl (rD s c y) line 0), need, left, slits, slB, slF, slT, at9, wd9, got, ans, worst) out)) (by rfl) (by rw [zFl_0]) ?_
  exact L2_1 (c + 1) 0 (by omega) (by omega)

set_option maxHeartbeats 4000000 in
set_option maxRecDepth 100000 in
theorem m_copies {G : zT} {S : zS} {X : zXr} {out : Nat → Int64} {s : (Nat → Int32)} {past : (Nat → Int32)} {aside : (Nat → Int32)} {pasts : Nat} {txt : (Nat → Int32)} {typed : Nat} {thrown : Int32} {line : (Nat → Int32)} {need : (Nat → Int32)} {left : (Nat → Int32)} {slits : Nat} {slB : (Nat → Int32)} {slF : (Nat → Int32)} {slT : (Nat → Int32)} {at9 : Nat} {wd9 : Int32} {got : (Nat → Int32)} {ans : Int32} {worst : UInt32} (hG : zAl G = false) {c r w cnt lim : Nat} (hM : zMd s c r w cnt lim) (y : Nat) (hy : y < 16) : zRun G mX10_copies 0 0 [.ref 114, .int (nI y)] (zHp S X (s, past, aside, pasts, txt, typed, thrown, line, need, left, slits, slB, slF, slT, at9, wd9, got, ans, worst) out) (.inr none) (zHp S X (s, past, aside, pasts, txt, typed, thrown, (zFl (rW s y) line c), need, left, slits, slB, slF, slT, at9, wd9, got, ans, worst) out) := by
  have hM9 := hM
  obtain ⟨h0, h1, h2, h3, h4, hc1, hc, hr1, hr, hw, hn, hl⟩ := hM
  refine zRun_of (by decide +kernel) rfl rfl (Nat.le_of_ble_eq_true rfl) ?_
  suffices hs : ∀ (o9 : zO) (h9 : zH), (Sum.inr none : zO) = o9 → (zHp S X (s, past, aside, pasts, txt, typed, thrown, (zFl (rW s y) line c), need, left, slits, slB, slF, slT, at9, wd9, got, ans, worst) out) = h9 → zPW G mX10_copies 0 0 o9 h9 0 0 0 [(0, .ref 114), (1, .int (nI y))] [] (zHp S X (s, past, aside, pasts, txt, typed, thrown, line, need, left, slits, slB, slF, slT, at9, wd9, got, ans, worst) out) from hs _ _ rfl rfl
  intro o9 h9 ho9 hh9
  refine z_iconst (v := nI 0) dX10_copies_0 (by decide) ?_
  refine z_istore_n (lv' := [(2, .int (nI 0)), (0, .ref 114), (1, .int (nI y))]) dX10_copies_1 rfl (by decide) rfl ?_
  have L2_1 : ∀ (d k : Nat), k ≤ c → c + 1 ≤ k + d → zPW G mX10_copies 0 0 o9 h9 0 0 2 [(2, .int (nI k)), (0, .ref 114), (1, .int (nI y))] [] (zHp S X (s, past, aside, pasts, txt, typed, thrown, (zFl (rW s y) line k), need, left, slits, slB, slF, slT, at9, wd9, got, ans, worst) out) := by
    intro d
    induction d with
    | zero => intro k hk hd; exact absurd hd (by omega)
    | succ d ih =>
      intro k hk_k hd_k
      have ih2 := ih
      clear ih
      refine z_iload_n 0 dX10_copies_2 rfl rfl ?_
      refine z_aload_n 1 dX10_copies_3 rfl rfl ?_
      refine z_get (v := .ref 115) 0 zgo_114 rfl inX10 (by decide) zw_1178 rfl rfl dX10_copies_4 ?_
      refine z_iconst (v := nI 0) dX10_copies_7 (by decide) ?_
      refine z_ialdN (f := s) (n := 1371) (j := 0) zga_115 (by omega) (by decide) dX10_copies_8 ?_
      refine z_top (v2 := .int (nI c)) (by rw [h0]) ?_
      refine z_icmp_ge (tgt := 30) dX10_copies_9 (by decide) (fun c_9 => ?_) (fun c_9 => ?_)
      · skip
        have f_9 := m_le (by omega) (by omega) c_9
        have e_k : k = c := by omega
        rw [e_k]
        exact z_vret rfl dX10_copies_30 ho9.symm (zo_h hh9 (by rfl)) (Nat.zero_le _) (Nat.zero_le _)
      · skip
        have f_9 := m_nle (by omega) (by omega) c_9
        refine z_aload_n 1 dX10_copies_12 rfl rfl ?_
        refine z_get (v := .ref 119) 7 zgo_114 rfl inX10 (by decide) zw_1185 rfl rfl dX10_copies_13 ?_
        refine z_iload_n 0 dX10_copies_16 rfl rfl ?_
        refine z_aload_n 1 dX10_copies_17 rfl rfl ?_
        refine z_iload_n 2 dX10_copies_18 rfl rfl ?_
        refine z_iload_n 0 dX10_copies_19 rfl rfl ?_
        refine z_callV (N := mX10_woven) 2 [.int (nI y), .int (nI k)] [.int (nI k), .ref 119] lX10_woven ⟨zw_1328, zw_1330, zw_57⟩ rfl zgo_114 rfl rfl (Nat.le_of_ble_eq_true rfl) (by decide) ⟨zlt, zlt⟩ ⟨Nat.zero_le _, Nat.zero_le _⟩ (fun _ => rfl) (m_woven hG y k (by omega) (by omega)) dX10_copies_20 ?_
        refine z_iastN (f := (zFl (rW s y) line k)) (n := 20) (j := k) zga_119 (by omega) (by decide) dX10_copies_23 ?_
        refine z_eqh (h2 := (zHp S X (s, past, aside, pasts, txt, typed, thrown, (upd (zFl (rW s y) line k) k (rW s y k)), need, left, slits, slB, slF, slT, at9, wd9, got, ans, worst) out)) zsa_119 ?_
        refine z_iinc (v := nI (k + 1)) (lv' := [(2, .int (nI (k + 1))), (0, .ref 114), (1, .int (nI y))]) 0 dX10_copies_24 rfl (nI_1 _) (by decide) rfl ?_
        refine z_goto (tgt := 2) dX10_copies_27 (by decide) ?_
        refine z_sub [0, 1, 2] (lv' := [(2, .int (nI (k + 1))), (0, .ref 114), (1, .int (nI y))]) rfl ?_
        refine z_eqs (lv2 := [(2, .int (nI ((k + 1)))), (0, .ref 114), (1, .int (nI y))]) (h2 := (zHp S X (s, past, aside, pasts, txt, typed, thrown, (zFl (rW s y) line (k + 1)), need, left, slits, slB, slF, slT, at9, wd9, got, ans, worst) out)) (by rfl) (by rw [zFl_S rfl]) ?_
        exact ih2 (k + 1) (by omega) (by omega)
  refine z_sub [0, 1, 2] (lv' := [(2, .int (nI 0)), (0, .ref 114), (1, .int (nI y))]) rfl ?_
  refine z_eqs (lv2 := [(2, .int (nI 0)), (0, .ref 114), (1, .int (nI y))]) (h2 := (zHp S X (s, past, aside, pasts, txt, typed, thrown, (zFl (rW s y) line 0), need, left, slits, slB, slF, slT, at9, wd9, got, ans, worst) out)) (by rfl) (by rw [zFl_0]) ?_
  exact L2_1 (c + 1) 0 (by omega) (by omega)

set_option maxHeartbeats 4000000 in
set_option maxRecDepth 100000 in
theorem m_begins {G : zT} {S : zS} {X : zXr} {out : Nat → Int64} {s : (Nat → Int32)} {past : (Nat → Int32)} {aside : (Nat → Int32)} {pasts : Nat} {txt : (Nat → Int32)} {typed : Nat} {thrown : Int32} {line : (Nat → Int32)} {need : (Nat → Int32)} {left : (Nat → Int32)} {slits : Nat} {slB : (Nat → Int32)} {slF : (Nat → Int32)} {slT : (Nat → Int32)} {at9 : Nat} {wd9 : Int32} {got : (Nat → Int32)} {ans : Int32} {worst : UInt32} (hG : zAl G = false) (b : Nat) (hb : b < 20) : zRun G mX10_begins 0 0 [.ref 114, .int (nI b)] (zHp S X (s, past, aside, pasts, txt, typed, thrown, line, need, left, slits, slB, slF, slT, at9, wd9, got, ans, worst) out) (.inr (some (.int (zB (rBeg line b))))) (zHp S X (s, past, aside, pasts, txt, typed, thrown, line, need, left, slits, slB, slF, slT, at9, wd9, got, ans, worst) out) := by
  refine zRun_of (by decide +kernel) rfl rfl (Nat.le_of_ble_eq_true rfl) ?_
  suffices hs : ∀ (o9 : zO) (h9 : zH), (Sum.inr (some (.int (zB (rBeg line b)))) : zO) = o9 → (zHp S X (s, past, aside, pasts, txt, typed, thrown, line, need, left, slits, slB, slF, slT, at9, wd9, got, ans, worst) out) = h9 → zPW G mX10_begins 0 0 o9 h9 0 0 0 [(0, .ref 114), (1, .int (nI b))] [] (zHp S X (s, past, aside, pasts, txt, typed, thrown, line, need, left, slits, slB, slF, slT, at9, wd9, got, ans, worst) out) from hs _ _ rfl rfl
  intro o9 h9 ho9 hh9
  have J26_6 : zPW G mX10_begins 0 0 o9 h9 0 0 26 [(0, .ref 114), (1, .int (nI b))] [.int (zB (rBeg line b))] (zHp S X (s, past, aside, pasts, txt, typed, thrown, line, need, left, slits, slB, slF, slT, at9, wd9, got, ans, worst) out) := by
    exact z_zret rfl (by exact zB_n _) dX10_begins_26 (zo_i ho9 (by rfl)) (zo_h hh9 (by rfl)) (Nat.zero_le _) (Nat.zero_le _)
  refine z_iload_n 1 dX10_begins_0 rfl rfl ?_
  refine z_if_eq (tgt := 21) dX10_begins_1 (by decide) (fun c_1 => ?_) (fun c_1 => ?_)
  · skip
    have f_1 := m_z_eq_t (by omega) c_1
    refine z_iconst (v := nI 1) dX10_begins_21 (by decide) ?_
    refine z_goto (tgt := 26) dX10_begins_22 (by decide) ?_
    refine z_top (v2 := .int (zB (rBeg line b))) (by simp [zB, rBeg, nI_0, nI_one, c_1, f_1]) ?_
    exact J26_6
  · skip
    have f_1 := m_z_eq_f (by omega) c_1
    refine z_aload_n 0 dX10_begins_4 rfl rfl ?_
    refine z_get (v := .ref 119) 7 zgo_114 rfl inX10 (by decide) zw_1185 rfl rfl dX10_begins_5 ?_
    refine z_iload_n 1 dX10_begins_8 rfl rfl ?_
    refine z_ialdN (f := line) (n := 20) (j := b) zga_119 (by omega) (by decide) dX10_begins_9 ?_
    refine z_aload_n 0 dX10_begins_10 rfl rfl ?_
    refine z_get (v := .ref 119) 7 zgo_114 rfl inX10 (by decide) zw_1185 rfl rfl dX10_begins_11 ?_
    refine z_iload_n 1 dX10_begins_14 rfl rfl ?_
    refine z_iconst (v := nI 1) dX10_begins_15 (by decide) ?_
    refine z_isubN (a := b) (b := 1) (by omega) dX10_begins_16 ?_
    refine z_ialdN (f := line) (n := 20) (j := b - 1) zga_119 (by omega) (by decide) dX10_begins_17 ?_
    refine z_icmp_eq (tgt := 25) dX10_begins_18 (by decide) (fun c_18 => ?_) (fun c_18 => ?_)
    · skip
      refine z_iconst (v := nI 0) dX10_begins_25 (by decide) ?_
      refine z_top (v2 := .int (zB (rBeg line b))) (by simp [zB, rBeg, nI_0, nI_one, c_1, f_1, c_18]) ?_
      exact J26_6
    · skip
      refine z_iconst (v := nI 1) dX10_begins_21 (by decide) ?_
      refine z_goto (tgt := 26) dX10_begins_22 (by decide) ?_
      refine z_top (v2 := .int (zB (rBeg line b))) (by simp [zB, rBeg, nI_0, nI_one, c_1, f_1, c_18]) ?_
      exact J26_6

set_option maxHeartbeats 4000000 in
set_option maxRecDepth 100000 in
theorem m_runs {G : zT} {S : zS} {X : zXr} {out : Nat → Int64} {s : (Nat → Int32)} {past : (Nat → Int32)} {aside : (Nat → Int32)} {pasts : Nat} {txt : (Nat → Int32)} {typed : Nat} {thrown : Int32} {line : (Nat → Int32)} {need : (Nat → Int32)} {left : (Nat → Int32)} {slits : Nat} {slB : (Nat → Int32)} {slF : (Nat → Int32)} {slT : (Nat → Int32)} {at9 : Nat} {wd9 : Int32} {got : (Nat → Int32)} {ans : Int32} {worst : UInt32} (hG : zAl G = false) {c r w cnt lim : Nat} (hM : zMd s c r w cnt lim) : zRun G mX10_runs 0 0 [.ref 114] (zHp S X (s, past, aside, pasts, txt, typed, thrown, line, need, left, slits, slB, slF, slT, at9, wd9, got, ans, worst) out) (.inr (some (.int (nI (zCt (rBeg line) c))))) (zHp S X (s, past, aside, pasts, txt, typed, thrown, line, need, left, slits, slB, slF, slT, at9, wd9, got, ans, worst) out) := by
  have hM9 := hM
  obtain ⟨h0, h1, h2, h3, h4, hc1, hc, hr1, hr, hw, hn, hl⟩ := hM
  refine zRun_of (by decide +kernel) rfl rfl (Nat.le_of_ble_eq_true rfl) ?_
  suffices hs : ∀ (o9 : zO) (h9 : zH), (Sum.inr (some (.int (nI (zCt (rBeg line) c)))) : zO) = o9 → (zHp S X (s, past, aside, pasts, txt, typed, thrown, line, need, left, slits, slB, slF, slT, at9, wd9, got, ans, worst) out) = h9 → zPW G mX10_runs 0 0 o9 h9 0 0 0 [(0, .ref 114)] [] (zHp S X (s, past, aside, pasts, txt, typed, thrown, line, need, left, slits, slB, slF, slT, at9, wd9, got, ans, worst) out) from hs _ _ rfl rfl
  intro o9 h9 ho9 hh9
  refine z_iconst (v := nI 0) dX10_runs_0 (by decide) ?_
  refine z_istore_n (lv' := [(1, .int (nI 0)), (0, .ref 114)]) dX10_runs_1 rfl (by decide) rfl ?_
  refine z_iconst (v := nI 0) dX10_runs_2 (by decide) ?_
  refine z_istore_n (lv' := [(2, .int (nI 0)), (1, .int (nI 0)), (0, .ref 114)]) dX10_runs_3 rfl (by decide) rfl ?_
  have L4_1 : ∀ (d k : Nat), k ≤ c → c + 1 ≤ k + d → zPW G mX10_runs 0 0 o9 h9 0 0 4 [(2, .int (nI k)), (1, .int (nI (zCt (rBeg line) k))), (0, .ref 114)] [] (zHp S X (s, past, aside, pasts, txt, typed, thrown, line, need, left, slits, slB, slF, slT, at9, wd9, got, ans, worst) out) := by
    intro d
    induction d with
    | zero => intro k hk hd; exact absurd hd (by omega)
    | succ d ih =>
      intro k hk_k hd_k
      have ih4 := ih
      clear ih
      refine z_iload_n 0 dX10_runs_4 rfl rfl ?_
      refine z_aload_n 2 dX10_runs_5 rfl rfl ?_
      refine z_get (v := .ref 115) 0 zgo_114 rfl inX10 (by decide) zw_1178 rfl rfl dX10_runs_6 ?_
      refine z_iconst (v := nI 0) dX10_runs_9 (by decide) ?_
      refine z_ialdN (f := s) (n := 1371) (j := 0) zga_115 (by omega) (by decide) dX10_runs_10 ?_
      refine z_top (v2 := .int (nI c)) (by rw [h0]) ?_
      refine z_icmp_ge (tgt := 36) dX10_runs_11 (by decide) (fun c_11 => ?_) (fun c_11 => ?_)
      · skip
        have f_11 := m_le (by omega) (by omega) c_11
        have e_k : k = c := by omega
        rw [e_k]
        refine z_iload_n 1 dX10_runs_36 rfl rfl ?_
        exact z_iret rfl dX10_runs_37 (zo_i ho9 (by rfl)) (zo_h hh9 (by rfl)) (Nat.zero_le _) (Nat.zero_le _)
      · skip
        have f_11 := m_nle (by omega) (by omega) c_11
        refine z_iload_n 1 dX10_runs_14 rfl rfl ?_
        refine z_aload_n 2 dX10_runs_15 rfl rfl ?_
        refine z_iload_n 0 dX10_runs_16 rfl rfl ?_
        refine z_callV (N := mX10_begins) 1 [.int (nI k)] [.int (nI (zCt (rBeg line) k))] lX10_begins ⟨zw_1368, zw_1370, zw_65⟩ rfl zgo_114 rfl rfl (Nat.le_of_ble_eq_true rfl) (by decide) ⟨zlt, zlt⟩ ⟨Nat.zero_le _, Nat.zero_le _⟩ (fun _ => rfl) (m_begins hG k (by omega)) dX10_runs_17 ?_
        refine z_if_eq (tgt := 27) dX10_runs_20 (by decide) (fun c_20 => ?_) (fun c_20 => ?_)
        · skip
          have b_20 := zB_0.mp c_20
          refine z_iconst (v := nI 0) dX10_runs_27 (by decide) ?_
          refine z_iaddN (a := zCt (rBeg line) k) (b := 0) dX10_runs_28 ?_
          refine z_istore_n (lv' := [(1, .int (nI (zCt (rBeg line) k + 0))), (2, .int (nI k)), (0, .ref 114)]) dX10_runs_29 rfl (by decide) rfl ?_
          refine z_iinc (v := nI (k + 1)) (lv' := [(2, .int (nI (k + 1))), (1, .int (nI (zCt (rBeg line) k + 0))), (0, .ref 114)]) 1 dX10_runs_30 rfl (nI_1 _) (by decide) rfl ?_
          refine z_goto (tgt := 4) dX10_runs_33 (by decide) ?_
          refine z_sub [0, 1, 2] (lv' := [(2, .int (nI (k + 1))), (1, .int (nI (zCt (rBeg line) k + 0))), (0, .ref 114)]) rfl ?_
          refine z_eqs (lv2 := [(2, .int (nI ((k + 1)))), (1, .int (nI (zCt (rBeg line) (k + 1)))), (0, .ref 114)]) (h2 := (zHp S X (s, past, aside, pasts, txt, typed, thrown, line, need, left, slits, slB, slF, slT, at9, wd9, got, ans, worst) out)) (by first | rw [zCt_T (p := (rBeg line)) (by simp [c_11, f_11, b_20])] | rw [zCt_F (p := (rBeg line)) (by simp [c_11, f_11, b_20])]) (by rfl) ?_
          exact ih4 (k + 1) (by omega) (by omega)
        · skip
          have b_20 := zB_tt c_20
          refine z_iconst (v := nI 1) dX10_runs_23 (by decide) ?_
          refine z_goto (tgt := 28) dX10_runs_24 (by decide) ?_
          refine z_iaddN (a := zCt (rBeg line) k) (b := 1) dX10_runs_28 ?_
          refine z_istore_n (lv' := [(1, .int (nI (zCt (rBeg line) k + 1))), (2, .int (nI k)), (0, .ref 114)]) dX10_runs_29 rfl (by decide) rfl ?_
          refine z_iinc (v := nI (k + 1)) (lv' := [(2, .int (nI (k + 1))), (1, .int (nI (zCt (rBeg line) k + 1))), (0, .ref 114)]) 1 dX10_runs_30 rfl (nI_1 _) (by decide) rfl ?_
          refine z_goto (tgt := 4) dX10_runs_33 (by decide) ?_
          refine z_sub [0, 1, 2] (lv' := [(2, .int (nI (k + 1))), (1, .int (nI (zCt (rBeg line) k + 1))), (0, .ref 114)]) rfl ?_
          refine z_eqs (lv2 := [(2, .int (nI ((k + 1)))), (1, .int (nI (zCt (rBeg line) (k + 1)))), (0, .ref 114)]) (h2 := (zHp S X (s, past, aside, pasts, txt, typed, thrown, line, need, left, slits, slB, slF, slT, at9, wd9, got, ans, worst) out)) (by first | rw [zCt_T (p := (rBeg line)) (by simp [c_11, f_11, b_20])] | rw [zCt_F (p := (rBeg line)) (by simp [c_11, f_11, b_20])]) (by rfl) ?_
          exact ih4 (k + 1) (by omega) (by omega)
  refine z_sub [0, 1, 2] (lv' := [(2, .int (nI 0)), (1, .int (nI 0)), (0, .ref 114)]) rfl ?_
  refine z_eqs (lv2 := [(2, .int (nI 0)), (1, .int (nI (zCt (rBeg line) 0))), (0, .ref 114)]) (h2 := (zHp S X (s, past, aside, pasts, txt, typed, thrown, line, need, left, slits, slB, slF, slT, at9, wd9, got, ans, worst) out)) (by rfl) (by rfl) ?_
  exact L4_1 (c + 1) 0 (by omega) (by omega)

set_option maxHeartbeats 4000000 in
set_option maxRecDepth 100000 in
theorem m_runsOf {G : zT} {S : zS} {X : zXr} {out : Nat → Int64} {s : (Nat → Int32)} {past : (Nat → Int32)} {aside : (Nat → Int32)} {pasts : Nat} {txt : (Nat → Int32)} {typed : Nat} {thrown : Int32} {line : (Nat → Int32)} {need : (Nat → Int32)} {left : (Nat → Int32)} {slits : Nat} {slB : (Nat → Int32)} {slF : (Nat → Int32)} {slT : (Nat → Int32)} {at9 : Nat} {wd9 : Int32} {got : (Nat → Int32)} {ans : Int32} {worst : UInt32} (hG : zAl G = false) {c r w cnt lim : Nat} (hM : zMd s c r w cnt lim) (v : Int32) : zRun G mX10_runsOf 0 0 [.ref 114, .int v] (zHp S X (s, past, aside, pasts, txt, typed, thrown, line, need, left, slits, slB, slF, slT, at9, wd9, got, ans, worst) out) (.inr (some (.int (nI (zCt (fun b => line b == v && rBeg line b) c))))) (zHp S X (s, past, aside, pasts, txt, typed, thrown, line, need, left, slits, slB, slF, slT, at9, wd9, got, ans, worst) out) := by
  have hM9 := hM
  obtain ⟨h0, h1, h2, h3, h4, hc1, hc, hr1, hr, hw, hn, hl⟩ := hM
  refine zRun_of (by decide +kernel) rfl rfl (Nat.le_of_ble_eq_true rfl) ?_
  suffices hs : ∀ (o9 : zO) (h9 : zH), (Sum.inr (some (.int (nI (zCt (fun b => line b == v && rBeg line b) c)))) : zO) = o9 → (zHp S X (s, past, aside, pasts, txt, typed, thrown, line, need, left, slits, slB, slF, slT, at9, wd9, got, ans, worst) out) = h9 → zPW G mX10_runsOf 0 0 o9 h9 0 0 0 [(0, .ref 114), (1, .int v)] [] (zHp S X (s, past, aside, pasts, txt, typed, thrown, line, need, left, slits, slB, slF, slT, at9, wd9, got, ans, worst) out) from hs _ _ rfl rfl
  intro o9 h9 ho9 hh9
  refine z_iconst (v := nI 0) dX10_runsOf_0 (by decide) ?_
  refine z_istore_n (lv' := [(2, .int (nI 0)), (0, .ref 114), (1, .int v)]) dX10_runsOf_1 rfl (by decide) rfl ?_
  refine z_iconst (v := nI 0) dX10_runsOf_2 (by decide) ?_
  refine z_istore_n (lv' := [(3, .int (nI 0)), (2, .int (nI 0)), (0, .ref 114), (1, .int v)]) dX10_runsOf_3 rfl (by decide) rfl ?_
  have L4_1 : ∀ (d k : Nat), k ≤ c → c + 1 ≤ k + d → zPW G mX10_runsOf 0 0 o9 h9 0 0 4 [(3, .int (nI k)), (2, .int (nI (zCt (fun b => line b == v && rBeg line b) k))), (0, .ref 114), (1, .int v)] [] (zHp S X (s, past, aside, pasts, txt, typed, thrown, line, need, left, slits, slB, slF, slT, at9, wd9, got, ans, worst) out) := by
    intro d
    induction d with
    | zero => intro k hk hd; exact absurd hd (by omega)
    | succ d ih =>
      intro k hk_k hd_k
      have ih4 := ih
      clear ih
      refine z_iload_n 0 dX10_runsOf_4 rfl rfl ?_
      refine z_aload_n 2 dX10_runsOf_5 rfl rfl ?_
      refine z_get (v := .ref 115) 0 zgo_114 rfl inX10 (by decide) zw_1178 rfl rfl dX10_runsOf_6 ?_
      refine z_iconst (v := nI 0) dX10_runsOf_9 (by decide) ?_
      refine z_ialdN (f := s) (n := 1371) (j := 0) zga_115 (by omega) (by decide) dX10_runsOf_10 ?_
      refine z_top (v2 := .int (nI c)) (by rw [h0]) ?_
      refine z_icmp_ge (tgt := 46) dX10_runsOf_11 (by decide) (fun c_11 => ?_) (fun c_11 => ?_)
      · skip
        have f_11 := m_le (by omega) (by omega) c_11
        have e_k : k = c := by omega
        rw [e_k]
        refine z_iload_n 1 dX10_runsOf_46 rfl rfl ?_
        exact z_iret rfl dX10_runsOf_47 (zo_i ho9 (by rfl)) (zo_h hh9 (by rfl)) (Nat.zero_le _) (Nat.zero_le _)
      · skip
        have f_11 := m_nle (by omega) (by omega) c_11
        refine z_iload_n 1 dX10_runsOf_14 rfl rfl ?_
        refine z_aload_n 2 dX10_runsOf_15 rfl rfl ?_
        refine z_get (v := .ref 119) 7 zgo_114 rfl inX10 (by decide) zw_1185 rfl rfl dX10_runsOf_16 ?_
        refine z_iload_n 0 dX10_runsOf_19 rfl rfl ?_
        refine z_ialdN (f := line) (n := 20) (j := k) zga_119 (by omega) (by decide) dX10_runsOf_20 ?_
        refine z_iload_n 3 dX10_runsOf_21 rfl rfl ?_
        refine z_icmp_ne (tgt := 37) dX10_runsOf_22 (by decide) (fun c_22 => ?_) (fun c_22 => ?_)
        · skip
          refine z_iconst (v := nI 0) dX10_runsOf_37 (by decide) ?_
          refine z_iaddN (a := zCt (fun b => line b == v && rBeg line b) k) (b := 0) dX10_runsOf_38 ?_
          refine z_istore_n (lv' := [(2, .int (nI ((zCt (fun b => line b == v && rBeg line b) k) + 0))), (3, .int (nI k)), (0, .ref 114), (1, .int v)]) dX10_runsOf_39 rfl (by decide) rfl ?_
          refine z_iinc (v := nI (k + 1)) (lv' := [(3, .int (nI (k + 1))), (2, .int (nI ((zCt (fun b => line b == v && rBeg line b) k) + 0))), (0, .ref 114), (1, .int v)]) 1 dX10_runsOf_40 rfl (nI_1 _) (by decide) rfl ?_
          refine z_goto (tgt := 4) dX10_runsOf_43 (by decide) ?_
          refine z_sub [0, 1, 2, 3] (lv' := [(3, .int (nI (k + 1))), (2, .int (nI ((zCt (fun b => line b == v && rBeg line b) k) + 0))), (0, .ref 114), (1, .int v)]) rfl ?_
          refine z_eqs (lv2 := [(3, .int (nI ((k + 1)))), (2, .int (nI (zCt (fun b => line b == v && rBeg line b) (k + 1)))), (0, .ref 114), (1, .int v)]) (h2 := (zHp S X (s, past, aside, pasts, txt, typed, thrown, line, need, left, slits, slB, slF, slT, at9, wd9, got, ans, worst) out)) (by first | rw [zCt_T (p := (fun b => line b == v && rBeg line b)) (by simp [c_11, f_11, c_22])] | rw [zCt_F (p := (fun b => line b == v && rBeg line b)) (by simp [c_11, f_11, c_22])]) (by rfl) ?_
          exact ih4 (k + 1) (by omega) (by omega)
        · skip
          refine z_aload_n 2 dX10_runsOf_25 rfl rfl ?_
          refine z_iload_n 0 dX10_runsOf_26 rfl rfl ?_
          refine z_callV (N := mX10_begins) 1 [.int (nI k)] [.int (nI (zCt (fun b => line b == v && rBeg line b) k))] lX10_begins ⟨zw_1368, zw_1370, zw_65⟩ rfl zgo_114 rfl rfl (Nat.le_of_ble_eq_true rfl) (by decide) ⟨zlt, zlt⟩ ⟨Nat.zero_le _, Nat.zero_le _⟩ (fun _ => rfl) (m_begins hG k (by omega)) dX10_runsOf_27 ?_
          refine z_if_eq (tgt := 37) dX10_runsOf_30 (by decide) (fun c_30 => ?_) (fun c_30 => ?_)
          · skip
            have b_30 := zB_0.mp c_30
            refine z_iconst (v := nI 0) dX10_runsOf_37 (by decide) ?_
            refine z_iaddN (a := zCt (fun b => line b == v && rBeg line b) k) (b := 0) dX10_runsOf_38 ?_
            refine z_istore_n (lv' := [(2, .int (nI ((zCt (fun b => line b == v && rBeg line b) k) + 0))), (3, .int (nI k)), (0, .ref 114), (1, .int v)]) dX10_runsOf_39 rfl (by decide) rfl ?_
            refine z_iinc (v := nI (k + 1)) (lv' := [(3, .int (nI (k + 1))), (2, .int (nI ((zCt (fun b => line b == v && rBeg line b) k) + 0))), (0, .ref 114), (1, .int v)]) 1 dX10_runsOf_40 rfl (nI_1 _) (by decide) rfl ?_
            refine z_goto (tgt := 4) dX10_runsOf_43 (by decide) ?_
            refine z_sub [0, 1, 2, 3] (lv' := [(3, .int (nI (k + 1))), (2, .int (nI ((zCt (fun b => line b == v && rBeg line b) k) + 0))), (0, .ref 114), (1, .int v)]) rfl ?_
            refine z_eqs (lv2 := [(3, .int (nI ((k + 1)))), (2, .int (nI (zCt (fun b => line b == v && rBeg line b) (k + 1)))), (0, .ref 114), (1, .int v)]) (h2 := (zHp S X (s, past, aside, pasts, txt, typed, thrown, line, need, left, slits, slB, slF, slT, at9, wd9, got, ans, worst) out)) (by first | rw [zCt_T (p := (fun b => line b == v && rBeg line b)) (by simp [c_11, f_11, c_22, b_30])] | rw [zCt_F (p := (fun b => line b == v && rBeg line b)) (by simp [c_11, f_11, c_22, b_30])]) (by rfl) ?_
            exact ih4 (k + 1) (by omega) (by omega)
          · skip
            have b_30 := zB_tt c_30
            refine z_iconst (v := nI 1) dX10_runsOf_33 (by decide) ?_
            refine z_goto (tgt := 38) dX10_runsOf_34 (by decide) ?_
            refine z_iaddN (a := zCt (fun b => line b == v && rBeg line b) k) (b := 1) dX10_runsOf_38 ?_
            refine z_istore_n (lv' := [(2, .int (nI ((zCt (fun b => line b == v && rBeg line b) k) + 1))), (3, .int (nI k)), (0, .ref 114), (1, .int v)]) dX10_runsOf_39 rfl (by decide) rfl ?_
            refine z_iinc (v := nI (k + 1)) (lv' := [(3, .int (nI (k + 1))), (2, .int (nI ((zCt (fun b => line b == v && rBeg line b) k) + 1))), (0, .ref 114), (1, .int v)]) 1 dX10_runsOf_40 rfl (nI_1 _) (by decide) rfl ?_
            refine z_goto (tgt := 4) dX10_runsOf_43 (by decide) ?_
            refine z_sub [0, 1, 2, 3] (lv' := [(3, .int (nI (k + 1))), (2, .int (nI ((zCt (fun b => line b == v && rBeg line b) k) + 1))), (0, .ref 114), (1, .int v)]) rfl ?_
            refine z_eqs (lv2 := [(3, .int (nI ((k + 1)))), (2, .int (nI (zCt (fun b => line b == v && rBeg line b) (k + 1)))), (0, .ref 114), (1, .int v)]) (h2 := (zHp S X (s, past, aside, pasts, txt, typed, thrown, line, need, left, slits, slB, slF, slT, at9, wd9, got, ans, worst) out)) (by first | rw [zCt_T (p := (fun b => line b == v && rBeg line b)) (by simp [c_11, f_11, c_22, b_30])] | rw [zCt_F (p := (fun b => line b == v && rBeg line b)) (by simp [c_11, f_11, c_22, b_30])]) (by rfl) ?_
            exact ih4 (k + 1) (by omega) (by omega)
  refine z_sub [0, 1, 2, 3] (lv' := [(3, .int (nI 0)), (2, .int (nI 0)), (0, .ref 114), (1, .int v)]) rfl ?_
  refine z_eqs (lv2 := [(3, .int (nI 0)), (2, .int (nI (zCt (fun b => line b == v && rBeg line b) 0))), (0, .ref 114), (1, .int v)]) (h2 := (zHp S X (s, past, aside, pasts, txt, typed, thrown, line, need, left, slits, slB, slF, slT, at9, wd9, got, ans, worst) out)) (by rfl) (by rfl) ?_
  exact L4_1 (c + 1) 0 (by omega) (by omega)

set_option maxHeartbeats 4000000 in
set_option maxRecDepth 100000 in
theorem m_cellsOf {G : zT} {S : zS} {X : zXr} {out : Nat → Int64} {s : (Nat → Int32)} {past : (Nat → Int32)} {aside : (Nat → Int32)} {pasts : Nat} {txt : (Nat → Int32)} {typed : Nat} {thrown : Int32} {line : (Nat → Int32)} {need : (Nat → Int32)} {left : (Nat → Int32)} {slits : Nat} {slB : (Nat → Int32)} {slF : (Nat → Int32)} {slT : (Nat → Int32)} {at9 : Nat} {wd9 : Int32} {got : (Nat → Int32)} {ans : Int32} {worst : UInt32} (hG : zAl G = false) {c r w cnt lim : Nat} (hM : zMd s c r w cnt lim) (v : Int32) : zRun G mX10_cellsOf 0 0 [.ref 114, .int v] (zHp S X (s, past, aside, pasts, txt, typed, thrown, line, need, left, slits, slB, slF, slT, at9, wd9, got, ans, worst) out) (.inr (some (.int (nI (zCt (fun b => line b == v) c))))) (zHp S X (s, past, aside, pasts, txt, typed, thrown, line, need, left, slits, slB, slF, slT, at9, wd9, got, ans, worst) out) := by
  have hM9 := hM
  obtain ⟨h0, h1, h2, h3, h4, hc1, hc, hr1, hr, hw, hn, hl⟩ := hM
  refine zRun_of (by decide +kernel) rfl rfl (Nat.le_of_ble_eq_true rfl) ?_
  suffices hs : ∀ (o9 : zO) (h9 : zH), (Sum.inr (some (.int (nI (zCt (fun b => line b == v) c)))) : zO) = o9 → (zHp S X (s, past, aside, pasts, txt, typed, thrown, line, need, left, slits, slB, slF, slT, at9, wd9, got, ans, worst) out) = h9 → zPW G mX10_cellsOf 0 0 o9 h9 0 0 0 [(0, .ref 114), (1, .int v)] [] (zHp S X (s, past, aside, pasts, txt, typed, thrown, line, need, left, slits, slB, slF, slT, at9, wd9, got, ans, worst) out) from hs _ _ rfl rfl
  intro o9 h9 ho9 hh9
  refine z_iconst (v := nI 0) dX10_cellsOf_0 (by decide) ?_
  refine z_istore_n (lv' := [(2, .int (nI 0)), (0, .ref 114), (1, .int v)]) dX10_cellsOf_1 rfl (by decide) rfl ?_
  refine z_iconst (v := nI 0) dX10_cellsOf_2 (by decide) ?_
  refine z_istore_n (lv' := [(3, .int (nI 0)), (2, .int (nI 0)), (0, .ref 114), (1, .int v)]) dX10_cellsOf_3 rfl (by decide) rfl ?_
  have L4_1 : ∀ (d k : Nat), k ≤ c → c + 1 ≤ k + d → zPW G mX10_cellsOf 0 0 o9 h9 0 0 4 [(3, .int (nI k)), (2, .int (nI (zCt (fun b => line b == v) k))), (0, .ref 114), (1, .int v)] [] (zHp S X (s, past, aside, pasts, txt, typed, thrown, line, need, left, slits, slB, slF, slT, at9, wd9, got, ans, worst) out) := by
    intro d
    induction d with
    | zero => intro k hk hd; exact absurd hd (by omega)
    | succ d ih =>
      intro k hk_k hd_k
      have ih4 := ih
      clear ih
      refine z_iload_n 0 dX10_cellsOf_4 rfl rfl ?_
      refine z_aload_n 2 dX10_cellsOf_5 rfl rfl ?_
      refine z_get (v := .ref 115) 0 zgo_114 rfl inX10 (by decide) zw_1178 rfl rfl dX10_cellsOf_6 ?_
      refine z_iconst (v := nI 0) dX10_cellsOf_9 (by decide) ?_
      refine z_ialdN (f := s) (n := 1371) (j := 0) zga_115 (by omega) (by decide) dX10_cellsOf_10 ?_
      refine z_top (v2 := .int (nI c)) (by rw [h0]) ?_
      refine z_icmp_ge (tgt := 38) dX10_cellsOf_11 (by decide) (fun c_11 => ?_) (fun c_11 => ?_)
      · skip
        have f_11 := m_le (by omega) (by omega) c_11
        have e_k : k = c := by omega
        rw [e_k]
        refine z_iload_n 1 dX10_cellsOf_38 rfl rfl ?_
        exact z_iret rfl dX10_cellsOf_39 (zo_i ho9 (by rfl)) (zo_h hh9 (by rfl)) (Nat.zero_le _) (Nat.zero_le _)
      · skip
        have f_11 := m_nle (by omega) (by omega) c_11
        refine z_iload_n 1 dX10_cellsOf_14 rfl rfl ?_
        refine z_aload_n 2 dX10_cellsOf_15 rfl rfl ?_
        refine z_get (v := .ref 119) 7 zgo_114 rfl inX10 (by decide) zw_1185 rfl rfl dX10_cellsOf_16 ?_
        refine z_iload_n 0 dX10_cellsOf_19 rfl rfl ?_
        refine z_ialdN (f := line) (n := 20) (j := k) zga_119 (by omega) (by decide) dX10_cellsOf_20 ?_
        refine z_iload_n 3 dX10_cellsOf_21 rfl rfl ?_
        refine z_icmp_ne (tgt := 29) dX10_cellsOf_22 (by decide) (fun c_22 => ?_) (fun c_22 => ?_)
        · skip
          refine z_iconst (v := nI 0) dX10_cellsOf_29 (by decide) ?_
          refine z_iaddN (a := zCt (fun b => line b == v) k) (b := 0) dX10_cellsOf_30 ?_
          refine z_istore_n (lv' := [(2, .int (nI ((zCt (fun b => line b == v) k) + 0))), (3, .int (nI k)), (0, .ref 114), (1, .int v)]) dX10_cellsOf_31 rfl (by decide) rfl ?_
          refine z_iinc (v := nI (k + 1)) (lv' := [(3, .int (nI (k + 1))), (2, .int (nI ((zCt (fun b => line b == v) k) + 0))), (0, .ref 114), (1, .int v)]) 1 dX10_cellsOf_32 rfl (nI_1 _) (by decide) rfl ?_
          refine z_goto (tgt := 4) dX10_cellsOf_35 (by decide) ?_
          refine z_sub [0, 1, 2, 3] (lv' := [(3, .int (nI (k + 1))), (2, .int (nI ((zCt (fun b => line b == v) k) + 0))), (0, .ref 114), (1, .int v)]) rfl ?_
          refine z_eqs (lv2 := [(3, .int (nI ((k + 1)))), (2, .int (nI (zCt (fun b => line b == v) (k + 1)))), (0, .ref 114), (1, .int v)]) (h2 := (zHp S X (s, past, aside, pasts, txt, typed, thrown, line, need, left, slits, slB, slF, slT, at9, wd9, got, ans, worst) out)) (by first | rw [zCt_T (p := (fun b => line b == v)) (by simp [c_11, f_11, c_22])] | rw [zCt_F (p := (fun b => line b == v)) (by simp [c_11, f_11, c_22])]) (by rfl) ?_
          exact ih4 (k + 1) (by omega) (by omega)
        · skip
          refine z_iconst (v := nI 1) dX10_cellsOf_25 (by decide) ?_
          refine z_goto (tgt := 30) dX10_cellsOf_26 (by decide) ?_
          refine z_iaddN (a := zCt (fun b => line b == v) k) (b := 1) dX10_cellsOf_30 ?_
          refine z_istore_n (lv' := [(2, .int (nI ((zCt (fun b => line b == v) k) + 1))), (3, .int (nI k)), (0, .ref 114), (1, .int v)]) dX10_cellsOf_31 rfl (by decide) rfl ?_
          refine z_iinc (v := nI (k + 1)) (lv' := [(3, .int (nI (k + 1))), (2, .int (nI ((zCt (fun b => line b == v) k) + 1))), (0, .ref 114), (1, .int v)]) 1 dX10_cellsOf_32 rfl (nI_1 _) (by decide) rfl ?_
          refine z_goto (tgt := 4) dX10_cellsOf_35 (by decide) ?_
          refine z_sub [0, 1, 2, 3] (lv' := [(3, .int (nI (k + 1))), (2, .int (nI ((zCt (fun b => line b == v) k) + 1))), (0, .ref 114), (1, .int v)]) rfl ?_
          refine z_eqs (lv2 := [(3, .int (nI ((k + 1)))), (2, .int (nI (zCt (fun b => line b == v) (k + 1)))), (0, .ref 114), (1, .int v)]) (h2 := (zHp S X (s, past, aside, pasts, txt, typed, thrown, line, need, left, slits, slB, slF, slT, at9, wd9, got, ans, worst) out)) (by first | rw [zCt_T (p := (fun b => line b == v)) (by simp [c_11, f_11, c_22])] | rw [zCt_F (p := (fun b => line b == v)) (by simp [c_11, f_11, c_22])]) (by rfl) ?_
          exact ih4 (k + 1) (by omega) (by omega)
  refine z_sub [0, 1, 2, 3] (lv' := [(3, .int (nI 0)), (2, .int (nI 0)), (0, .ref 114), (1, .int v)]) rfl ?_
  refine z_eqs (lv2 := [(3, .int (nI 0)), (2, .int (nI (zCt (fun b => line b == v) 0))), (0, .ref 114), (1, .int v)]) (h2 := (zHp S X (s, past, aside, pasts, txt, typed, thrown, line, need, left, slits, slB, slF, slT, at9, wd9, got, ans, worst) out)) (by rfl) (by rfl) ?_
  exact L4_1 (c + 1) 0 (by omega) (by omega)

set_option maxHeartbeats 4000000 in
set_option maxRecDepth 100000 in
theorem m_unitsOf {G : zT} {S : zS} {X : zXr} {out : Nat → Int64} {s : (Nat → Int32)} {past : (Nat → Int32)} {aside : (Nat → Int32)} {pasts : Nat} {txt : (Nat → Int32)} {typed : Nat} {thrown : Int32} {line : (Nat → Int32)} {need : (Nat → Int32)} {left : (Nat → Int32)} {slits : Nat} {slB : (Nat → Int32)} {slF : (Nat → Int32)} {slT : (Nat → Int32)} {at9 : Nat} {wd9 : Int32} {got : (Nat → Int32)} {ans : Int32} {worst : UInt32} (hG : zAl G = false) {c r w cnt lim : Nat} (hM : zMd s c r w cnt lim) (v : Int32) : zRun G mX10_unitsOf 0 0 [.ref 114, .int v] (zHp S X (s, past, aside, pasts, txt, typed, thrown, line, need, left, slits, slB, slF, slT, at9, wd9, got, ans, worst) out) (.inr (some (.int (rUn s v cnt)))) (zHp S X (s, past, aside, pasts, txt, typed, thrown, line, need, left, slits, slB, slF, slT, at9, wd9, got, ans, worst) out) := by
  have hM9 := hM
  obtain ⟨h0, h1, h2, h3, h4, hc1, hc, hr1, hr, hw, hn, hl⟩ := hM
  refine zRun_of (by decide +kernel) rfl rfl (Nat.le_of_ble_eq_true rfl) ?_
  suffices hs : ∀ (o9 : zO) (h9 : zH), (Sum.inr (some (.int (rUn s v cnt))) : zO) = o9 → (zHp S X (s, past, aside, pasts, txt, typed, thrown, line, need, left, slits, slB, slF, slT, at9, wd9, got, ans, worst) out) = h9 → zPW G mX10_unitsOf 0 0 o9 h9 0 0 0 [(0, .ref 114), (1, .int v)] [] (zHp S X (s, past, aside, pasts, txt, typed, thrown, line, need, left, slits, slB, slF, slT, at9, wd9, got, ans, worst) out) from hs _ _ rfl rfl
  intro o9 h9 ho9 hh9
  refine z_iconst (v := nI 0) dX10_unitsOf_0 (by decide) ?_
  refine z_istore_n (lv' := [(2, .int (nI 0)), (0, .ref 114), (1, .int v)]) dX10_unitsOf_1 rfl (by decide) rfl ?_
  refine z_iconst (v := nI 0) dX10_unitsOf_2 (by decide) ?_
  refine z_istore_n (lv' := [(3, .int (nI 0)), (2, .int (nI 0)), (0, .ref 114), (1, .int v)]) dX10_unitsOf_3 rfl (by decide) rfl ?_
  have L4_1 : ∀ (d k : Nat), k ≤ cnt → cnt + 1 ≤ k + d → zPW G mX10_unitsOf 0 0 o9 h9 0 0 4 [(3, .int (nI k)), (2, .int (zSm (fun l => if s (7 + 4 * l) = v then s (7 + 4 * l + 2) else 0) k)), (0, .ref 114), (1, .int v)] [] (zHp S X (s, past, aside, pasts, txt, typed, thrown, line, need, left, slits, slB, slF, slT, at9, wd9, got, ans, worst) out) := by
    intro d
    induction d with
    | zero => intro k hk hd; exact absurd hd (by omega)
    | succ d ih =>
      intro k hk_k hd_k
      have ih4 := ih
      clear ih
      refine z_iload_n 0 dX10_unitsOf_4 rfl rfl ?_
      refine z_aload_n 2 dX10_unitsOf_5 rfl rfl ?_
      refine z_get (v := .ref 115) 0 zgo_114 rfl inX10 (by decide) zw_1178 rfl rfl dX10_unitsOf_6 ?_
      refine z_iconst (v := nI 3) dX10_unitsOf_9 (by decide) ?_
      refine z_ialdN (f := s) (n := 1371) (j := 3) zga_115 (by omega) (by decide) dX10_unitsOf_10 ?_
      refine z_top (v2 := .int (nI cnt)) (by rw [h3]) ?_
      refine z_icmp_ge (tgt := 43) dX10_unitsOf_11 (by decide) (fun c_11 => ?_) (fun c_11 => ?_)
      · skip
        have f_11 := m_le (by omega) (by omega) c_11
        have e_k : k = cnt := by omega
        rw [e_k]
        refine z_iload_n 1 dX10_unitsOf_43 rfl rfl ?_
        exact z_iret rfl dX10_unitsOf_44 (zo_i ho9 (by rfl)) (zo_h hh9 (by rfl)) (Nat.zero_le _) (Nat.zero_le _)
      · skip
        have f_11 := m_nle (by omega) (by omega) c_11
        refine z_iload_n 1 dX10_unitsOf_14 rfl rfl ?_
        refine z_aload_n 2 dX10_unitsOf_15 rfl rfl ?_
        refine z_iload_n 0 dX10_unitsOf_16 rfl rfl ?_
        refine z_iconst (v := nI 0) dX10_unitsOf_17 (by decide) ?_
        refine z_callV (N := mX10_its) 2 [.int (nI k), .int (nI 0)] [.int (zSm (fun l => if s (7 + 4 * l) = v then s (7 + 4 * l + 2) else 0) k)] lX10_its ⟨zw_1380, zw_1382, zw_68⟩ rfl zgo_114 rfl rfl (Nat.le_of_ble_eq_true rfl) (by decide) ⟨zlt, zlt⟩ ⟨Nat.zero_le _, Nat.zero_le _⟩ (fun _ => rfl) (m_itsN hG k 0 (by omega) (by omega)) dX10_unitsOf_18 ?_
        refine z_top (v2 := .int (s (7 + 4 * k))) (by rfl) ?_
        refine z_iload_n 3 dX10_unitsOf_21 rfl rfl ?_
        refine z_icmp_ne (tgt := 34) dX10_unitsOf_22 (by decide) (fun c_22 => ?_) (fun c_22 => ?_)
        · skip
          refine z_iconst (v := nI 0) dX10_unitsOf_34 (by decide) ?_
          refine z_iadd dX10_unitsOf_35 ?_
          refine z_istore_n (lv' := [(2, .int ((zSm (fun l => if s (7 + 4 * l) = v then s (7 + 4 * l + 2) else 0) k) + (nI 0))), (3, .int (nI k)), (0, .ref 114), (1, .int v)]) dX10_unitsOf_36 rfl (by decide) rfl ?_
          refine z_iinc (v := nI (k + 1)) (lv' := [(3, .int (nI (k + 1))), (2, .int ((zSm (fun l => if s (7 + 4 * l) = v then s (7 + 4 * l + 2) else 0) k) + (nI 0))), (0, .ref 114), (1, .int v)]) 1 dX10_unitsOf_37 rfl (nI_1 _) (by decide) rfl ?_
          refine z_goto (tgt := 4) dX10_unitsOf_40 (by decide) ?_
          refine z_sub [0, 1, 2, 3] (lv' := [(3, .int (nI (k + 1))), (2, .int ((zSm (fun l => if s (7 + 4 * l) = v then s (7 + 4 * l + 2) else 0) k) + (nI 0))), (0, .ref 114), (1, .int v)]) rfl ?_
          refine z_eqs (lv2 := [(3, .int (nI ((k + 1)))), (2, .int (zSm (fun l => if s (7 + 4 * l) = v then s (7 + 4 * l + 2) else 0) (k + 1))), (0, .ref 114), (1, .int v)]) (h2 := (zHp S X (s, past, aside, pasts, txt, typed, thrown, line, need, left, slits, slB, slF, slT, at9, wd9, got, ans, worst) out)) (by rw [zSm_t (fun l => if s (7 + 4 * l) = v then s (7 + 4 * l + 2) else 0) k (by simp [nI_0, c_11, f_11, c_22])]) (by rfl) ?_
          exact ih4 (k + 1) (by omega) (by omega)
        · skip
          refine z_aload_n 2 dX10_unitsOf_25 rfl rfl ?_
          refine z_iload_n 0 dX10_unitsOf_26 rfl rfl ?_
          refine z_iconst (v := nI 2) dX10_unitsOf_27 (by decide) ?_
          refine z_callV (N := mX10_its) 2 [.int (nI k), .int (nI 2)] [.int (zSm (fun l => if s (7 + 4 * l) = v then s (7 + 4 * l + 2) else 0) k)] lX10_its ⟨zw_1380, zw_1382, zw_68⟩ rfl zgo_114 rfl rfl (Nat.le_of_ble_eq_true rfl) (by decide) ⟨zlt, zlt⟩ ⟨Nat.zero_le _, Nat.zero_le _⟩ (fun _ => rfl) (m_itsN hG k 2 (by omega) (by omega)) dX10_unitsOf_28 ?_
          refine z_goto (tgt := 35) dX10_unitsOf_31 (by decide) ?_
          refine z_iadd dX10_unitsOf_35 ?_
          refine z_istore_n (lv' := [(2, .int ((zSm (fun l => if s (7 + 4 * l) = v then s (7 + 4 * l + 2) else 0) k) + (s (7 + 4 * k + 2)))), (3, .int (nI k)), (0, .ref 114), (1, .int v)]) dX10_unitsOf_36 rfl (by decide) rfl ?_
          refine z_iinc (v := nI (k + 1)) (lv' := [(3, .int (nI (k + 1))), (2, .int ((zSm (fun l => if s (7 + 4 * l) = v then s (7 + 4 * l + 2) else 0) k) + (s (7 + 4 * k + 2)))), (0, .ref 114), (1, .int v)]) 1 dX10_unitsOf_37 rfl (nI_1 _) (by decide) rfl ?_
          refine z_goto (tgt := 4) dX10_unitsOf_40 (by decide) ?_
          refine z_sub [0, 1, 2, 3] (lv' := [(3, .int (nI (k + 1))), (2, .int ((zSm (fun l => if s (7 + 4 * l) = v then s (7 + 4 * l + 2) else 0) k) + (s (7 + 4 * k + 2)))), (0, .ref 114), (1, .int v)]) rfl ?_
          refine z_eqs (lv2 := [(3, .int (nI ((k + 1)))), (2, .int (zSm (fun l => if s (7 + 4 * l) = v then s (7 + 4 * l + 2) else 0) (k + 1))), (0, .ref 114), (1, .int v)]) (h2 := (zHp S X (s, past, aside, pasts, txt, typed, thrown, line, need, left, slits, slB, slF, slT, at9, wd9, got, ans, worst) out)) (by rw [zSm_t (fun l => if s (7 + 4 * l) = v then s (7 + 4 * l + 2) else 0) k (by simp [nI_0, c_11, f_11, c_22])]) (by rfl) ?_
          exact ih4 (k + 1) (by omega) (by omega)
  refine z_sub [0, 1, 2, 3] (lv' := [(3, .int (nI 0)), (2, .int (nI 0)), (0, .ref 114), (1, .int v)]) rfl ?_
  refine z_eqs (lv2 := [(3, .int (nI 0)), (2, .int (zSm (fun l => if s (7 + 4 * l) = v then s (7 + 4 * l + 2) else 0) 0)), (0, .ref 114), (1, .int v)]) (h2 := (zHp S X (s, past, aside, pasts, txt, typed, thrown, line, need, left, slits, slB, slF, slT, at9, wd9, got, ans, worst) out)) (by rfl) (by rfl) ?_
  exact L4_1 (cnt + 1) 0 (by omega) (by omega)

set_option maxHeartbeats 4000000 in
set_option maxRecDepth 100000 in
theorem m_inUse {G : zT} {S : zS} {X : zXr} {out : Nat → Int64} {s : (Nat → Int32)} {past : (Nat → Int32)} {aside : (Nat → Int32)} {pasts : Nat} {txt : (Nat → Int32)} {typed : Nat} {thrown : Int32} {line : (Nat → Int32)} {need : (Nat → Int32)} {left : (Nat → Int32)} {slits : Nat} {slB : (Nat → Int32)} {slF : (Nat → Int32)} {slT : (Nat → Int32)} {at9 : Nat} {wd9 : Int32} {got : (Nat → Int32)} {ans : Int32} {worst : UInt32} (hG : zAl G = false) {c r w cnt lim : Nat} (hM : zMd s c r w cnt lim) (v : Int32) : zRun G mX10_inUse 0 0 [.ref 114, .int v] (zHp S X (s, past, aside, pasts, txt, typed, thrown, line, need, left, slits, slB, slF, slT, at9, wd9, got, ans, worst) out) (.inr (some (.int (rIu s v 0 cnt)))) (zHp S X (s, past, aside, pasts, txt, typed, thrown, line, need, left, slits, slB, slF, slT, at9, wd9, got, ans, worst) out) := by
  have hM9 := hM
  obtain ⟨h0, h1, h2, h3, h4, hc1, hc, hr1, hr, hw, hn, hl⟩ := hM
  refine zRun_of (by decide +kernel) rfl rfl (Nat.le_of_ble_eq_true rfl) ?_
  suffices hs : ∀ (o9 : zO) (h9 : zH), (Sum.inr (some (.int (rIu s v 0 cnt))) : zO) = o9 → (zHp S X (s, past, aside, pasts, txt, typed, thrown, line, need, left, slits, slB, slF, slT, at9, wd9, got, ans, worst) out) = h9 → zPW G mX10_inUse 0 0 o9 h9 0 0 0 [(0, .ref 114), (1, .int v)] [] (zHp S X (s, past, aside, pasts, txt, typed, thrown, line, need, left, slits, slB, slF, slT, at9, wd9, got, ans, worst) out) from hs _ _ rfl rfl
  intro o9 h9 ho9 hh9
  refine z_iconst (v := (-1)) dX10_inUse_0 (by decide) ?_
  refine z_istore_n (lv' := [(2, .int ((-1))), (0, .ref 114), (1, .int v)]) dX10_inUse_1 rfl (by decide) rfl ?_
  refine z_aload_n 1 dX10_inUse_2 rfl rfl ?_
  refine z_get (v := .ref 115) 0 zgo_114 rfl inX10 (by decide) zw_1178 rfl rfl dX10_inUse_3 ?_
  refine z_iconst (v := nI 3) dX10_inUse_6 (by decide) ?_
  refine z_ialdN (f := s) (n := 1371) (j := 3) zga_115 (by omega) (by decide) dX10_inUse_7 ?_
  refine z_top (v2 := .int (nI cnt)) (by rw [h3]) ?_
  refine z_iconst (v := nI 1) dX10_inUse_8 (by decide) ?_
  refine z_isub dX10_inUse_9 ?_
  refine z_istore_n (lv' := [(3, .int ((nI cnt) - (nI 1))), (2, .int ((-1))), (0, .ref 114), (1, .int v)]) dX10_inUse_10 rfl (by decide) rfl ?_
  have L11_1 : ∀ (d j : Nat), j ≤ cnt → cnt + 1 ≤ j + d → zPW G mX10_inUse 0 0 o9 h9 0 0 11 [(3, .int (nI (cnt - j) - nI 1)), (2, .int (rIu s v (cnt - j) j)), (0, .ref 114), (1, .int v)] [] (zHp S X (s, past, aside, pasts, txt, typed, thrown, line, need, left, slits, slB, slF, slT, at9, wd9, got, ans, worst) out) := by
    intro d
    induction d with
    | zero => intro j hk hd; exact absurd hd (by omega)
    | succ d ih =>
      intro j hk_j hd_j
      have ih11 := ih
      clear ih
      refine z_iload_n 0 dX10_inUse_11 rfl rfl ?_
      refine z_if_lt (tgt := 46) dX10_inUse_12 (by decide) (fun c_12 => ?_) (fun c_12 => ?_)
      · skip
        have g_12 := m_pl (by omega) c_12
        have e_j : j = cnt := by omega
        refine z_iload_n 1 dX10_inUse_46 rfl rfl ?_
        exact z_iret rfl dX10_inUse_47 (zo_i ho9 (by rw [e_j, Nat.sub_self])) (zo_h hh9 (by rfl)) (Nat.zero_le _) (Nat.zero_le _)
      · skip
        have g_12 := m_npl (by omega) c_12
        rw [show nI (cnt - j) - nI 1 = nI (cnt - j - 1) from pk_sub (by omega)]
        have J39_36 : zPW G mX10_inUse 0 0 o9 h9 0 0 39 [(3, .int (nI (cnt - j - 1))), (2, .int (rIu s v (cnt - j) j)), (0, .ref 114), (1, .int v)] [.int (rIu s v (cnt - (j + 1)) (j + 1))] (zHp S X (s, past, aside, pasts, txt, typed, thrown, line, need, left, slits, slB, slF, slT, at9, wd9, got, ans, worst) out) := by
          refine z_istore_n (lv' := [(2, .int (rIu s v (cnt - (j + 1)) (j + 1))), (3, .int (nI (cnt - j - 1))), (0, .ref 114), (1, .int v)]) dX10_inUse_39 rfl (by decide) rfl ?_
          refine z_iinc (v := (nI (cnt - j - 1)) - nI 1) (lv' := [(3, .int ((nI (cnt - j - 1)) - nI 1)), (2, .int (rIu s v (cnt - (j + 1)) (j + 1))), (0, .ref 114), (1, .int v)]) 1 dX10_inUse_40 rfl (m_dec _) (by decide) rfl ?_
          refine z_goto (tgt := 11) dX10_inUse_43 (by decide) ?_
          refine z_sub [0, 1, 2, 3] (lv' := [(3, .int ((nI (cnt - j - 1)) - nI 1)), (2, .int (rIu s v (cnt - (j + 1)) (j + 1))), (0, .ref 114), (1, .int v)]) rfl ?_
          refine z_eqs (lv2 := [(3, .int (nI (cnt - (j + 1)) - nI 1)), (2, .int (rIu s v (cnt - (j + 1)) (j + 1))), (0, .ref 114), (1, .int v)]) (h2 := (zHp S X (s, past, aside, pasts, txt, typed, thrown, line, need, left, slits, slB, slF, slT, at9, wd9, got, ans, worst) out)) (by rw [show cnt - (j + 1) = cnt - j - 1 by omega]) (by rfl) ?_
          exact ih11 (j + 1) (by omega) (by omega)
        refine z_aload_n 2 dX10_inUse_15 rfl rfl ?_
        refine z_iload_n 0 dX10_inUse_16 rfl rfl ?_
        refine z_iconst (v := nI 0) dX10_inUse_17 (by decide) ?_
        refine z_callV (N := mX10_its) 2 [.int (nI (cnt - j - 1)), .int (nI 0)] [] lX10_its ⟨zw_1380, zw_1382, zw_68⟩ rfl zgo_114 rfl rfl (Nat.le_of_ble_eq_true rfl) (by decide) ⟨zlt, zlt⟩ ⟨Nat.zero_le _, Nat.zero_le _⟩ (fun _ => rfl) (m_itsN hG (cnt - j - 1) 0 (by omega) (by omega)) dX10_inUse_18 ?_
        refine z_top (v2 := .int (s (7 + 4 * (cnt - j - 1)))) (by rfl) ?_
        refine z_iload_n 3 dX10_inUse_21 rfl rfl ?_
        refine z_icmp_ne (tgt := 38) dX10_inUse_22 (by decide) (fun c_22 => ?_) (fun c_22 => ?_)
        · skip
          refine z_iload_n 1 dX10_inUse_38 rfl rfl ?_
          refine z_top (v2 := .int (rIu s v (cnt - (j + 1)) (j + 1))) (by rw [rIu_s (by omega)]; simp [c_12, c_22]) ?_
          exact J39_36
        · skip
          refine z_aload_n 2 dX10_inUse_25 rfl rfl ?_
          refine z_iload_n 0 dX10_inUse_26 rfl rfl ?_
          refine z_iconst (v := nI 2) dX10_inUse_27 (by decide) ?_
          refine z_callV (N := mX10_its) 2 [.int (nI (cnt - j - 1)), .int (nI 2)] [] lX10_its ⟨zw_1380, zw_1382, zw_68⟩ rfl zgo_114 rfl rfl (Nat.le_of_ble_eq_true rfl) (by decide) ⟨zlt, zlt⟩ ⟨Nat.zero_le _, Nat.zero_le _⟩ (fun _ => rfl) (m_itsN hG (cnt - j - 1) 2 (by omega) (by omega)) dX10_inUse_28 ?_
          refine z_if_le (tgt := 38) dX10_inUse_31 (by decide) (fun c_31 => ?_) (fun c_31 => ?_)
          · skip
            have g_31 := Int32.not_lt.mpr c_31
            refine z_iload_n 1 dX10_inUse_38 rfl rfl ?_
            refine z_top (v2 := .int (rIu s v (cnt - (j + 1)) (j + 1))) (by rw [rIu_s (by omega)]; simp [c_12, c_22, c_31, g_31]) ?_
            exact J39_36
          · skip
            have g_31 := Int32.not_le.mp c_31
            refine z_iload_n 0 dX10_inUse_34 rfl rfl ?_
            refine z_goto (tgt := 39) dX10_inUse_35 (by decide) ?_
            refine z_top (v2 := .int (rIu s v (cnt - (j + 1)) (j + 1))) (by rw [rIu_s (by omega)]; simp [c_12, c_22, c_31, g_31]) ?_
            exact J39_36
  refine z_sub [0, 1, 2, 3] (lv' := [(3, .int ((nI cnt) - (nI 1))), (2, .int ((-1))), (0, .ref 114), (1, .int v)]) rfl ?_
  refine z_eqs (lv2 := [(3, .int (nI (cnt - 0) - nI 1)), (2, .int (rIu s v (cnt - 0) 0)), (0, .ref 114), (1, .int v)]) (h2 := (zHp S X (s, past, aside, pasts, txt, typed, thrown, line, need, left, slits, slB, slF, slT, at9, wd9, got, ans, worst) out)) (by rfl) (by rfl) ?_
  exact L11_1 (cnt + 1) 0 (by omega) (by omega)

set_option maxHeartbeats 4000000 in
set_option maxRecDepth 100000 in
theorem m_takes {G : zT} {S : zS} {X : zXr} {out : Nat → Int64} {s : (Nat → Int32)} {past : (Nat → Int32)} {aside : (Nat → Int32)} {pasts : Nat} {txt : (Nat → Int32)} {typed : Nat} {thrown : Int32} {line : (Nat → Int32)} {need : (Nat → Int32)} {left : (Nat → Int32)} {slits : Nat} {slB : (Nat → Int32)} {slF : (Nat → Int32)} {slT : (Nat → Int32)} {at9 : Nat} {wd9 : Int32} {got : (Nat → Int32)} {ans : Int32} {worst : UInt32} (hG : zAl G = false) {c r w cnt lim : Nat} (hM : zMd s c r w cnt lim) (v : Int32) : zRun G mX10_takes 0 0 [.ref 114, .int v] (zHp S X (s, past, aside, pasts, txt, typed, thrown, line, need, left, slits, slB, slF, slT, at9, wd9, got, ans, worst) out) (.inr (some (.int (rIu s v 0 cnt)))) (zHp S X ((rTk s v cnt), past, aside, pasts, txt, typed, thrown, line, need, left, slits, slB, slF, slT, at9, wd9, got, ans, worst) out) := by
  have hM9 := hM
  obtain ⟨h0, h1, h2, h3, h4, hc1, hc, hr1, hr, hw, hn, hl⟩ := hM
  refine zRun_of (by decide +kernel) rfl rfl (Nat.le_of_ble_eq_true rfl) ?_
  suffices hs : ∀ (o9 : zO) (h9 : zH), (Sum.inr (some (.int (rIu s v 0 cnt))) : zO) = o9 → (zHp S X ((rTk s v cnt), past, aside, pasts, txt, typed, thrown, line, need, left, slits, slB, slF, slT, at9, wd9, got, ans, worst) out) = h9 → zPW G mX10_takes 0 0 o9 h9 0 0 0 [(0, .ref 114), (1, .int v)] [] (zHp S X (s, past, aside, pasts, txt, typed, thrown, line, need, left, slits, slB, slF, slT, at9, wd9, got, ans, worst) out) from hs _ _ rfl rfl
  intro o9 h9 ho9 hh9
  refine z_aload_n 0 dX10_takes_0 rfl rfl ?_
  refine z_iload_n 1 dX10_takes_1 rfl rfl ?_
  refine z_callV (N := mX10_inUse) 1 [.int v] [] lX10_inUse ⟨zw_1388, zw_1390, zw_70⟩ rfl zgo_114 rfl rfl (Nat.le_of_ble_eq_true rfl) (by decide) ⟨zlt, zlt⟩ ⟨Nat.zero_le _, Nat.zero_le _⟩ (fun _ => rfl) (m_inUse hG hM9 v) dX10_takes_2 ?_
  refine z_istore_n (lv' := [(2, .int (rIu s v 0 cnt)), (0, .ref 114), (1, .int v)]) dX10_takes_5 rfl (by decide) rfl ?_
  refine z_aload_n 1 dX10_takes_6 rfl rfl ?_
  refine z_get (v := .ref 115) 0 zgo_114 rfl inX10 (by decide) zw_1178 rfl rfl dX10_takes_7 ?_
  refine z_bipush (v := nI 7) dX10_takes_10 (by decide) ?_
  refine z_iconst (v := nI 4) dX10_takes_12 (by decide) ?_
  refine z_iload_n 0 dX10_takes_13 rfl rfl ?_
  refine z_imul dX10_takes_14 ?_
  refine z_iadd dX10_takes_15 ?_
  refine z_iconst (v := nI 2) dX10_takes_16 (by decide) ?_
  refine z_iadd dX10_takes_17 ?_
  refine z_dup2 dX10_takes_18 rfl rfl ?_
  refine z_iald (f := s) (n := 1371) zga_115 (by exact (rIx_in (rIu_in hn) (by decide)).1) dX10_takes_19 ?_
  refine z_iconst (v := nI 1) dX10_takes_20 (by decide) ?_
  refine z_isub dX10_takes_21 ?_
  refine z_iast (f := s) (n := 1371) zga_115 (by exact (rIx_in (rIu_in hn) (by decide)).1) dX10_takes_22 ?_
  refine z_eqh (h2 := (zHp S X ((upd s (((nI 7) + ((nI 4) * (rIu s v 0 cnt))) + (nI 2)).toNatClampNeg ((s (((nI 7) + ((nI 4) * (rIu s v 0 cnt))) + (nI 2)).toNatClampNeg) - (nI 1))), past, aside, pasts, txt, typed, thrown, line, need, left, slits, slB, slF, slT, at9, wd9, got, ans, worst) out)) zsa_115 ?_
  refine z_iload_n 0 dX10_takes_23 rfl rfl ?_
  exact z_iret rfl dX10_takes_24 (zo_i ho9 (by rfl)) (zo_h hh9 (by rfl)) (Nat.zero_le _) (Nat.zero_le _)

set_option maxHeartbeats 4000000 in
set_option maxRecDepth 100000 in
theorem m_fresh {G : zT} {S : zS} {X : zXr} {out : Nat → Int64} {s : (Nat → Int32)} {past : (Nat → Int32)} {aside : (Nat → Int32)} {pasts : Nat} {txt : (Nat → Int32)} {typed : Nat} {thrown : Int32} {line : (Nat → Int32)} {need : (Nat → Int32)} {left : (Nat → Int32)} {slits : Nat} {slB : (Nat → Int32)} {slF : (Nat → Int32)} {slT : (Nat → Int32)} {at9 : Nat} {wd9 : Int32} {got : (Nat → Int32)} {ans : Int32} {worst : UInt32} (hG : zAl G = false) {c r w cnt lim : Nat} (hM : zMd s c r w cnt lim) (y : Nat) (hy : y < 16) : zRun G mX10_fresh 0 0 [.ref 114, .int (nI y)] (zHp S X (s, past, aside, pasts, txt, typed, thrown, line, need, left, slits, slB, slF, slT, at9, wd9, got, ans, worst) out) (.inr (some (.int (nI (rFre s (zFl (rW s y) line c) c y))))) (zHp S X (s, past, aside, pasts, txt, typed, thrown, (zFl (rW s y) line c), need, left, slits, slB, slF, slT, at9, wd9, got, ans, worst) out) := by
  have hM9 := hM
  obtain ⟨h0, h1, h2, h3, h4, hc1, hc, hr1, hr, hw, hn, hl⟩ := hM
  refine zRun_of (by decide +kernel) rfl rfl (Nat.le_of_ble_eq_true rfl) ?_
  suffices hs : ∀ (o9 : zO) (h9 : zH), (Sum.inr (some (.int (nI (rFre s (zFl (rW s y) line c) c y)))) : zO) = o9 → (zHp S X (s, past, aside, pasts, txt, typed, thrown, (zFl (rW s y) line c), need, left, slits, slB, slF, slT, at9, wd9, got, ans, worst) out) = h9 → zPW G mX10_fresh 0 0 o9 h9 0 0 0 [(0, .ref 114), (1, .int (nI y))] [] (zHp S X (s, past, aside, pasts, txt, typed, thrown, line, need, left, slits, slB, slF, slT, at9, wd9, got, ans, worst) out) from hs _ _ rfl rfl
  intro o9 h9 ho9 hh9
  refine z_aload_n 0 dX10_fresh_0 rfl rfl ?_
  refine z_iload_n 1 dX10_fresh_1 rfl rfl ?_
  refine z_callV (N := mX10_copies) 1 [.int (nI y)] [] lX10_copies ⟨zw_1440, zw_1442, zw_79⟩ rfl zgo_114 rfl rfl (Nat.le_of_ble_eq_true rfl) (by decide) ⟨zlt, zlt⟩ ⟨Nat.zero_le _, Nat.zero_le _⟩ zal (m_copies hG hM9 y (by omega)) dX10_fresh_2 ?_
  refine z_iconst (v := nI 0) dX10_fresh_5 (by decide) ?_
  refine z_istore_n (lv' := [(2, .int (nI 0)), (0, .ref 114), (1, .int (nI y))]) dX10_fresh_6 rfl (by decide) rfl ?_
  refine z_iconst (v := nI 0) dX10_fresh_7 (by decide) ?_
  refine z_istore_n (lv' := [(3, .int (nI 0)), (2, .int (nI 0)), (0, .ref 114), (1, .int (nI y))]) dX10_fresh_8 rfl (by decide) rfl ?_
  refine z_iconst (v := nI 0) dX10_fresh_9 (by decide) ?_
  refine z_istore (lv' := [(4, .int (nI 0)), (3, .int (nI 0)), (2, .int (nI 0)), (0, .ref 114), (1, .int (nI y))]) dX10_fresh_10 (by decide) rfl ?_
  have L12_1 : ∀ (d k : Nat), k ≤ c → c + 1 ≤ k + d → zPW G mX10_fresh 0 0 o9 h9 0 0 12 [(4, .int (nI k)), (3, .int (zB (rOl s (zFl (rW s y) line c) y k))), (2, .int (nI (zCt (fun b => rEnd (zFl (rW s y) line c) c b && !rOl s (zFl (rW s y) line c) y (b + 1)) k))), (0, .ref 114), (1, .int (nI y))] [] (zHp S X (s, past, aside, pasts, txt, typed, thrown, (zFl (rW s y) line c), need, left, slits, slB, slF, slT, at9, wd9, got, ans, worst) out) := by
    intro d
    induction d with
    | zero => intro k hk hd; exact absurd hd (by omega)
    | succ d ih =>
      intro k hk_k hd_k
      have ih12 := ih
      clear ih
      refine z_iload 0 dX10_fresh_12 rfl ?_
      refine z_aload_n 3 dX10_fresh_14 rfl rfl ?_
      refine z_get (v := .ref 115) 0 zgo_114 rfl inX10 (by decide) zw_1178 rfl rfl dX10_fresh_15 ?_
      refine z_iconst (v := nI 0) dX10_fresh_18 (by decide) ?_
      refine z_ialdN (f := s) (n := 1371) (j := 0) zga_115 (by omega) (by decide) dX10_fresh_19 ?_
      refine z_top (v2 := .int (nI c)) (by rw [h0]) ?_
      refine z_icmp_ge (tgt := 127) dX10_fresh_20 (by decide) (fun c_20 => ?_) (fun c_20 => ?_)
      · skip
        have f_20 := m_le (by omega) (by omega) c_20
        have e_k : k = c := by omega
        rw [e_k]
        refine z_iload_n 2 dX10_fresh_127 rfl rfl ?_
        exact z_iret rfl dX10_fresh_128 (zo_i ho9 (by rfl)) (zo_h hh9 (by rfl)) (Nat.zero_le _) (Nat.zero_le _)
      · skip
        have f_20 := m_nle (by omega) (by omega) c_20
        have J64_40 : zPW G mX10_fresh 0 0 o9 h9 0 0 64 [(4, .int (nI k)), (3, .int (zB (rOl s (zFl (rW s y) line c) y k))), (2, .int (nI (zCt (fun b => rEnd (zFl (rW s y) line c) c b && !rOl s (zFl (rW s y) line c) y (b + 1)) k))), (0, .ref 114), (1, .int (nI y))] [.int (zB (rOl s (zFl (rW s y) line c) y (k + 1)))] (zHp S X (s, past, aside, pasts, txt, typed, thrown, (zFl (rW s y) line c), need, left, slits, slB, slF, slT, at9, wd9, got, ans, worst) out) := by
          refine z_istore_n (lv' := [(3, .int (zB (rOl s (zFl (rW s y) line c) y (k + 1)))), (4, .int (nI k)), (2, .int (nI (zCt (fun b => rEnd (zFl (rW s y) line c) c b && !rOl s (zFl (rW s y) line c) y (b + 1)) k))), (0, .ref 114), (1, .int (nI y))]) dX10_fresh_64 rfl (by decide) rfl ?_
          have J102_42 : zPW G mX10_fresh 0 0 o9 h9 0 0 102 [(3, .int (zB (rOl s (zFl (rW s y) line c) y (k + 1)))), (4, .int (nI k)), (2, .int (nI (zCt (fun b => rEnd (zFl (rW s y) line c) c b && !rOl s (zFl (rW s y) line c) y (b + 1)) k))), (0, .ref 114), (1, .int (nI y))] [.int (zB (rEnd (zFl (rW s y) line c) c k))] (zHp S X (s, past, aside, pasts, txt, typed, thrown, (zFl (rW s y) line c), need, left, slits, slB, slF, slT, at9, wd9, got, ans, worst) out) := by
            refine z_istore (lv' := [(5, .int (zB (rEnd (zFl (rW s y) line c) c k))), (3, .int (zB (rOl s (zFl (rW s y) line c) y (k + 1)))), (4, .int (nI k)), (2, .int (nI (zCt (fun b => rEnd (zFl (rW s y) line c) c b && !rOl s (zFl (rW s y) line c) y (b + 1)) k))), (0, .ref 114), (1, .int (nI y))]) dX10_fresh_102 (by decide) rfl ?_
            refine z_iload_n 3 dX10_fresh_104 rfl rfl ?_
            refine z_iload 0 dX10_fresh_105 rfl ?_
            refine z_if_eq (tgt := 118) dX10_fresh_107 (by decide) (fun c_107 => ?_) (fun c_107 => ?_)
            · skip
              have b_107 := zB_0.mp c_107
              refine z_iconst (v := nI 0) dX10_fresh_118 (by decide) ?_
              refine z_iaddN (a := zCt (fun b => rEnd (zFl (rW s y) line c) c b && !rOl s (zFl (rW s y) line c) y (b + 1)) k) (b := 0) dX10_fresh_119 ?_
              refine z_istore_n (lv' := [(2, .int (nI ((zCt (fun b => rEnd (zFl (rW s y) line c) c b && !rOl s (zFl (rW s y) line c) y (b + 1)) k) + 0))), (5, .int (zB (rEnd (zFl (rW s y) line c) c k))), (3, .int (zB (rOl s (zFl (rW s y) line c) y (k + 1)))), (4, .int (nI k)), (0, .ref 114), (1, .int (nI y))]) dX10_fresh_120 rfl (by decide) rfl ?_
              refine z_iinc (v := nI (k + 1)) (lv' := [(4, .int (nI (k + 1))), (2, .int (nI ((zCt (fun b => rEnd (zFl (rW s y) line c) c b && !rOl s (zFl (rW s y) line c) y (b + 1)) k) + 0))), (5, .int (zB (rEnd (zFl (rW s y) line c) c k))), (3, .int (zB (rOl s (zFl (rW s y) line c) y (k + 1)))), (0, .ref 114), (1, .int (nI y))]) 3 dX10_fresh_121 rfl (nI_1 _) (by decide) rfl ?_
              refine z_goto (tgt := 12) dX10_fresh_124 (by decide) ?_
              refine z_sub [0, 3, 1, 4, 5] (lv' := [(4, .int (nI (k + 1))), (3, .int (zB (rOl s (zFl (rW s y) line c) y (k + 1)))), (2, .int (nI ((zCt (fun b => rEnd (zFl (rW s y) line c) c b && !rOl s (zFl (rW s y) line c) y (b + 1)) k) + 0))), (0, .ref 114), (1, .int (nI y))]) rfl ?_
              refine z_eqs (lv2 := [(4, .int (nI ((k + 1)))), (3, .int (zB (rOl s (zFl (rW s y) line c) y (k + 1)))), (2, .int (nI (zCt (fun b => rEnd (zFl (rW s y) line c) c b && !rOl s (zFl (rW s y) line c) y (b + 1)) (k + 1)))), (0, .ref 114), (1, .int (nI y))]) (h2 := (zHp S X (s, past, aside, pasts, txt, typed, thrown, (zFl (rW s y) line c), need, left, slits, slB, slF, slT, at9, wd9, got, ans, worst) out)) (by first | rw [zCt_T (p := (fun b => rEnd (zFl (rW s y) line c) c b && !rOl s (zFl (rW s y) line c) y (b + 1))) (by simp [c_20, f_20, b_107])] | rw [zCt_F (p := (fun b => rEnd (zFl (rW s y) line c) c b && !rOl s (zFl (rW s y) line c) y (b + 1))) (by simp [c_20, f_20, b_107])]) (by rfl) ?_
              exact ih12 (k + 1) (by omega) (by omega)
            · skip
              have b_107 := zB_tt c_107
              refine z_iload_n 1 dX10_fresh_110 rfl rfl ?_
              refine z_if_ne (tgt := 118) dX10_fresh_111 (by decide) (fun c_111 => ?_) (fun c_111 => ?_)
              · skip
                have b_111 := zB_tt c_111
                refine z_iconst (v := nI 0) dX10_fresh_118 (by decide) ?_
                refine z_iaddN (a := zCt (fun b => rEnd (zFl (rW s y) line c) c b && !rOl s (zFl (rW s y) line c) y (b + 1)) k) (b := 0) dX10_fresh_119 ?_
                refine z_istore_n (lv' := [(2, .int (nI ((zCt (fun b => rEnd (zFl (rW s y) line c) c b && !rOl s (zFl (rW s y) line c) y (b + 1)) k) + 0))), (5, .int (zB (rEnd (zFl (rW s y) line c) c k))), (3, .int (zB (rOl s (zFl (rW s y) line c) y (k + 1)))), (4, .int (nI k)), (0, .ref 114), (1, .int (nI y))]) dX10_fresh_120 rfl (by decide) rfl ?_
                refine z_iinc (v := nI (k + 1)) (lv' := [(4, .int (nI (k + 1))), (2, .int (nI ((zCt (fun b => rEnd (zFl (rW s y) line c) c b && !rOl s (zFl (rW s y) line c) y (b + 1)) k) + 0))), (5, .int (zB (rEnd (zFl (rW s y) line c) c k))), (3, .int (zB (rOl s (zFl (rW s y) line c) y (k + 1)))), (0, .ref 114), (1, .int (nI y))]) 3 dX10_fresh_121 rfl (nI_1 _) (by decide) rfl ?_
                refine z_goto (tgt := 12) dX10_fresh_124 (by decide) ?_
                refine z_sub [0, 3, 1, 4, 5] (lv' := [(4, .int (nI (k + 1))), (3, .int (zB (rOl s (zFl (rW s y) line c) y (k + 1)))), (2, .int (nI ((zCt (fun b => rEnd (zFl (rW s y) line c) c b && !rOl s (zFl (rW s y) line c) y (b + 1)) k) + 0))), (0, .ref 114), (1, .int (nI y))]) rfl ?_
                refine z_eqs (lv2 := [(4, .int (nI ((k + 1)))), (3, .int (zB (rOl s (zFl (rW s y) line c) y (k + 1)))), (2, .int (nI (zCt (fun b => rEnd (zFl (rW s y) line c) c b && !rOl s (zFl (rW s y) line c) y (b + 1)) (k + 1)))), (0, .ref 114), (1, .int (nI y))]) (h2 := (zHp S X (s, past, aside, pasts, txt, typed, thrown, (zFl (rW s y) line c), need, left, slits, slB, slF, slT, at9, wd9, got, ans, worst) out)) (by first | rw [zCt_T (p := (fun b => rEnd (zFl (rW s y) line c) c b && !rOl s (zFl (rW s y) line c) y (b + 1))) (by simp [c_20, f_20, b_107, b_111])] | rw [zCt_F (p := (fun b => rEnd (zFl (rW s y) line c) c b && !rOl s (zFl (rW s y) line c) y (b + 1))) (by simp [c_20, f_20, b_107, b_111])]) (by rfl) ?_
                exact ih12 (k + 1) (by omega) (by omega)
              · skip
                have b_111 := zB_0.mp c_111
                refine z_iconst (v := nI 1) dX10_fresh_114 (by decide) ?_
                refine z_goto (tgt := 119) dX10_fresh_115 (by decide) ?_
                refine z_iaddN (a := zCt (fun b => rEnd (zFl (rW s y) line c) c b && !rOl s (zFl (rW s y) line c) y (b + 1)) k) (b := 1) dX10_fresh_119 ?_
                refine z_istore_n (lv' := [(2, .int (nI ((zCt (fun b => rEnd (zFl (rW s y) line c) c b && !rOl s (zFl (rW s y) line c) y (b + 1)) k) + 1))), (5, .int (zB (rEnd (zFl (rW s y) line c) c k))), (3, .int (zB (rOl s (zFl (rW s y) line c) y (k + 1)))), (4, .int (nI k)), (0, .ref 114), (1, .int (nI y))]) dX10_fresh_120 rfl (by decide) rfl ?_
                refine z_iinc (v := nI (k + 1)) (lv' := [(4, .int (nI (k + 1))), (2, .int (nI ((zCt (fun b => rEnd (zFl (rW s y) line c) c b && !rOl s (zFl (rW s y) line c) y (b + 1)) k) + 1))), (5, .int (zB (rEnd (zFl (rW s y) line c) c k))), (3, .int (zB (rOl s (zFl (rW s y) line c) y (k + 1)))), (0, .ref 114), (1, .int (nI y))]) 3 dX10_fresh_121 rfl (nI_1 _) (by decide) rfl ?_
                refine z_goto (tgt := 12) dX10_fresh_124 (by decide) ?_
                refine z_sub [0, 3, 1, 4, 5] (lv' := [(4, .int (nI (k + 1))), (3, .int (zB (rOl s (zFl (rW s y) line c) y (k + 1)))), (2, .int (nI ((zCt (fun b => rEnd (zFl (rW s y) line c) c b && !rOl s (zFl (rW s y) line c) y (b + 1)) k) + 1))), (0, .ref 114), (1, .int (nI y))]) rfl ?_
                refine z_eqs (lv2 := [(4, .int (nI ((k + 1)))), (3, .int (zB (rOl s (zFl (rW s y) line c) y (k + 1)))), (2, .int (nI (zCt (fun b => rEnd (zFl (rW s y) line c) c b && !rOl s (zFl (rW s y) line c) y (b + 1)) (k + 1)))), (0, .ref 114), (1, .int (nI y))]) (h2 := (zHp S X (s, past, aside, pasts, txt, typed, thrown, (zFl (rW s y) line c), need, left, slits, slB, slF, slT, at9, wd9, got, ans, worst) out)) (by first | rw [zCt_T (p := (fun b => rEnd (zFl (rW s y) line c) c b && !rOl s (zFl (rW s y) line c) y (b + 1))) (by simp [c_20, f_20, b_107, b_111])] | rw [zCt_F (p := (fun b => rEnd (zFl (rW s y) line c) c b && !rOl s (zFl (rW s y) line c) y (b + 1))) (by simp [c_20, f_20, b_107, b_111])]) (by rfl) ?_
                exact ih12 (k + 1) (by omega) (by omega)
          refine z_iload 1 dX10_fresh_65 rfl ?_
          refine z_iconst (v := nI 1) dX10_fresh_67 (by decide) ?_
          refine z_iaddN (a := k) (b := 1) dX10_fresh_68 ?_
          refine z_aload_n 3 dX10_fresh_69 rfl rfl ?_
          refine z_get (v := .ref 115) 0 zgo_114 rfl inX10 (by decide) zw_1178 rfl rfl dX10_fresh_70 ?_
          refine z_iconst (v := nI 0) dX10_fresh_73 (by decide) ?_
          refine z_ialdN (f := s) (n := 1371) (j := 0) zga_115 (by omega) (by decide) dX10_fresh_74 ?_
          refine z_top (v2 := .int (nI c)) (by rw [h0]) ?_
          refine z_icmp_eq (tgt := 97) dX10_fresh_75 (by decide) (fun c_75 => ?_) (fun c_75 => ?_)
          · skip
            have f_75 := m_eq (by omega) (by omega) c_75
            refine z_iconst (v := nI 1) dX10_fresh_97 (by decide) ?_
            refine z_goto (tgt := 102) dX10_fresh_98 (by decide) ?_
            refine z_top (v2 := .int (zB (rEnd (zFl (rW s y) line c) c k))) (by simp [zB, rEnd, nI_0, nI_one, c_20, f_20, c_75, f_75]) ?_
            exact J102_42
          · skip
            have f_75 := m_ne (by omega) (by omega) c_75
            refine z_aload_n 3 dX10_fresh_78 rfl rfl ?_
            refine z_get (v := .ref 119) 7 zgo_114 rfl inX10 (by decide) zw_1185 rfl rfl dX10_fresh_79 ?_
            refine z_iload 1 dX10_fresh_82 rfl ?_
            refine z_iconst (v := nI 1) dX10_fresh_84 (by decide) ?_
            refine z_iaddN (a := k) (b := 1) dX10_fresh_85 ?_
            refine z_ialdN (f := (zFl (rW s y) line c)) (n := 20) (j := k + 1) zga_119 (by omega) (by decide) dX10_fresh_86 ?_
            refine z_aload_n 3 dX10_fresh_87 rfl rfl ?_
            refine z_get (v := .ref 119) 7 zgo_114 rfl inX10 (by decide) zw_1185 rfl rfl dX10_fresh_88 ?_
            refine z_iload 1 dX10_fresh_91 rfl ?_
            refine z_ialdN (f := (zFl (rW s y) line c)) (n := 20) (j := k) zga_119 (by omega) (by decide) dX10_fresh_93 ?_
            refine z_icmp_eq (tgt := 101) dX10_fresh_94 (by decide) (fun c_94 => ?_) (fun c_94 => ?_)
            · skip
              refine z_iconst (v := nI 0) dX10_fresh_101 (by decide) ?_
              refine z_top (v2 := .int (zB (rEnd (zFl (rW s y) line c) c k))) (by simp [zB, rEnd, nI_0, nI_one, c_20, f_20, c_75, f_75, c_94]) ?_
              exact J102_42
            · skip
              refine z_iconst (v := nI 1) dX10_fresh_97 (by decide) ?_
              refine z_goto (tgt := 102) dX10_fresh_98 (by decide) ?_
              refine z_top (v2 := .int (zB (rEnd (zFl (rW s y) line c) c k))) (by simp [zB, rEnd, nI_0, nI_one, c_20, f_20, c_75, f_75, c_94]) ?_
              exact J102_42
        refine z_aload_n 3 dX10_fresh_23 rfl rfl ?_
        refine z_iload 0 dX10_fresh_24 rfl ?_
        refine z_callV (N := mX10_begins) 1 [.int (nI k)] [] lX10_begins ⟨zw_1368, zw_1370, zw_65⟩ rfl zgo_114 rfl rfl (Nat.le_of_ble_eq_true rfl) (by decide) ⟨zlt, zlt⟩ ⟨Nat.zero_le _, Nat.zero_le _⟩ (fun _ => rfl) (m_begins hG k (by omega)) dX10_fresh_26 ?_
        refine z_if_ne (tgt := 36) dX10_fresh_29 (by decide) (fun c_29 => ?_) (fun c_29 => ?_)
        · skip
          have b_29 := zB_tt c_29
          refine z_iload_n 4 dX10_fresh_36 rfl rfl ?_
          refine z_if_le (tgt := 63) dX10_fresh_37 (by decide) (fun c_37 => ?_) (fun c_37 => ?_)
          · skip
            have g_37 : ¬ 0 < y := by have := m_z_le_t (by omega) c_37; omega
            refine z_iconst (v := nI 0) dX10_fresh_63 (by decide) ?_
            refine z_top (v2 := .int (zB (rOl s (zFl (rW s y) line c) y (k + 1)))) (by simp [zB, rOl, nI_0, nI_one, c_20, f_20, b_29, c_37, g_37]) ?_
            exact J64_40
          · skip
            have g_37 : 0 < y := m_z_le_f (by omega) c_37
            refine z_aload_n 3 dX10_fresh_40 rfl rfl ?_
            refine z_iload_n 4 dX10_fresh_41 rfl rfl ?_
            refine z_iconst (v := nI 1) dX10_fresh_42 (by decide) ?_
            refine z_isubN (a := y) (b := 1) (by omega) dX10_fresh_43 ?_
            refine z_iload 0 dX10_fresh_44 rfl ?_
            refine z_callV (N := mX10_woven) 2 [.int (nI (y - 1)), .int (nI k)] [] lX10_woven ⟨zw_1328, zw_1330, zw_57⟩ rfl zgo_114 rfl rfl (Nat.le_of_ble_eq_true rfl) (by decide) ⟨zlt, zlt⟩ ⟨Nat.zero_le _, Nat.zero_le _⟩ (fun _ => rfl) (m_woven hG (y - 1) k (by omega) (by omega)) dX10_fresh_46 ?_
            refine z_aload_n 3 dX10_fresh_49 rfl rfl ?_
            refine z_get (v := .ref 119) 7 zgo_114 rfl inX10 (by decide) zw_1185 rfl rfl dX10_fresh_50 ?_
            refine z_iload 0 dX10_fresh_53 rfl ?_
            refine z_ialdN (f := (zFl (rW s y) line c)) (n := 20) (j := k) zga_119 (by omega) (by decide) dX10_fresh_55 ?_
            refine z_icmp_ne (tgt := 63) dX10_fresh_56 (by decide) (fun c_56 => ?_) (fun c_56 => ?_)
            · skip
              refine z_iconst (v := nI 0) dX10_fresh_63 (by decide) ?_
              refine z_top (v2 := .int (zB (rOl s (zFl (rW s y) line c) y (k + 1)))) (by simp [zB, rOl, nI_0, nI_one, c_20, f_20, b_29, c_37, g_37, c_56]) ?_
              exact J64_40
            · skip
              refine z_iconst (v := nI 1) dX10_fresh_59 (by decide) ?_
              refine z_goto (tgt := 64) dX10_fresh_60 (by decide) ?_
              refine z_top (v2 := .int (zB (rOl s (zFl (rW s y) line c) y (k + 1)))) (by simp [zB, rOl, nI_0, nI_one, c_20, f_20, b_29, c_37, g_37, c_56]) ?_
              exact J64_40
        · skip
          have b_29 := zB_0.mp c_29
          refine z_iload_n 1 dX10_fresh_32 rfl rfl ?_
          refine z_if_ne (tgt := 59) dX10_fresh_33 (by decide) (fun c_33 => ?_) (fun c_33 => ?_)
          · skip
            have b_33 := zB_tt c_33
            refine z_iconst (v := nI 1) dX10_fresh_59 (by decide) ?_
            refine z_goto (tgt := 64) dX10_fresh_60 (by decide) ?_
            refine z_top (v2 := .int (zB (rOl s (zFl (rW s y) line c) y (k + 1)))) (by simp [zB, rOl, nI_0, nI_one, c_20, f_20, b_29, b_33]) ?_
            exact J64_40
          · skip
            have b_33 := zB_0.mp c_33
            refine z_iload_n 4 dX10_fresh_36 rfl rfl ?_
            refine z_if_le (tgt := 63) dX10_fresh_37 (by decide) (fun c_37 => ?_) (fun c_37 => ?_)
            · skip
              have g_37 : ¬ 0 < y := by have := m_z_le_t (by omega) c_37; omega
              refine z_iconst (v := nI 0) dX10_fresh_63 (by decide) ?_
              refine z_top (v2 := .int (zB (rOl s (zFl (rW s y) line c) y (k + 1)))) (by simp [zB, rOl, nI_0, nI_one, c_20, f_20, b_29, b_33, c_37, g_37]) ?_
              exact J64_40
            · skip
              have g_37 : 0 < y := m_z_le_f (by omega) c_37
              refine z_aload_n 3 dX10_fresh_40 rfl rfl ?_
              refine z_iload_n 4 dX10_fresh_41 rfl rfl ?_
              refine z_iconst (v := nI 1) dX10_fresh_42 (by decide) ?_
              refine z_isubN (a := y) (b := 1) (by omega) dX10_fresh_43 ?_
              refine z_iload 0 dX10_fresh_44 rfl ?_
              refine z_callV (N := mX10_woven) 2 [.int (nI (y - 1)), .int (nI k)] [] lX10_woven ⟨zw_1328, zw_1330, zw_57⟩ rfl zgo_114 rfl rfl (Nat.le_of_ble_eq_true rfl) (by decide) ⟨zlt, zlt⟩ ⟨Nat.zero_le _, Nat.zero_le _⟩ (fun _ => rfl) (m_woven hG (y - 1) k (by omega) (by omega)) dX10_fresh_46 ?_
              refine z_aload_n 3 dX10_fresh_49 rfl rfl ?_
              refine z_get (v := .ref 119) 7 zgo_114 rfl inX10 (by decide) zw_1185 rfl rfl dX10_fresh_50 ?_
              refine z_iload 0 dX10_fresh_53 rfl ?_
              refine z_ialdN (f := (zFl (rW s y) line c)) (n := 20) (j := k) zga_119 (by omega) (by decide) dX10_fresh_55 ?_
              refine z_icmp_ne (tgt := 63) dX10_fresh_56 (by decide) (fun c_56 => ?_) (fun c_56 => ?_)
              · skip
                refine z_iconst (v := nI 0) dX10_fresh_63 (by decide) ?_
                refine z_top (v2 := .int (zB (rOl s (zFl (rW s y) line c) y (k + 1)))) (by simp [zB, rOl, nI_0, nI_one, c_20, f_20, b_29, b_33, c_37, g_37, c_56]) ?_
                exact J64_40
              · skip
                refine z_iconst (v := nI 1) dX10_fresh_59 (by decide) ?_
                refine z_goto (tgt := 64) dX10_fresh_60 (by decide) ?_
                refine z_top (v2 := .int (zB (rOl s (zFl (rW s y) line c) y (k + 1)))) (by simp [zB, rOl, nI_0, nI_one, c_20, f_20, b_29, b_33, c_37, g_37, c_56]) ?_
                exact J64_40
  refine z_sub [0, 1, 2, 3, 4] (lv' := [(4, .int (nI 0)), (3, .int (nI 0)), (2, .int (nI 0)), (0, .ref 114), (1, .int (nI y))]) rfl ?_
  refine z_eqs (lv2 := [(4, .int (nI 0)), (3, .int (zB (rOl s (zFl (rW s y) line c) y 0))), (2, .int (nI (zCt (fun b => rEnd (zFl (rW s y) line c) c b && !rOl s (zFl (rW s y) line c) y (b + 1)) 0))), (0, .ref 114), (1, .int (nI y))]) (h2 := (zHp S X (s, past, aside, pasts, txt, typed, thrown, (zFl (rW s y) line c), need, left, slits, slB, slF, slT, at9, wd9, got, ans, worst) out)) (by rfl) (by rfl) ?_
  exact L12_1 (c + 1) 0 (by omega) (by omega)

set_option maxHeartbeats 4000000 in
set_option maxRecDepth 100000 in
theorem m_wrong {G : zT} {S : zS} {X : zXr} {out : Nat → Int64} {s : (Nat → Int32)} {past : (Nat → Int32)} {aside : (Nat → Int32)} {pasts : Nat} {txt : (Nat → Int32)} {typed : Nat} {thrown : Int32} {line : (Nat → Int32)} {need : (Nat → Int32)} {left : (Nat → Int32)} {slits : Nat} {slB : (Nat → Int32)} {slF : (Nat → Int32)} {slT : (Nat → Int32)} {at9 : Nat} {wd9 : Int32} {got : (Nat → Int32)} {ans : Int32} {worst : UInt32} (hG : zAl G = false) {c r w cnt lim : Nat} (hM : zMd s c r w cnt lim) (y : Nat) (hy : y < 16) : zRun G mX10_wrong 0 0 [.ref 114, .int (nI y)] (zHp S X (s, past, aside, pasts, txt, typed, thrown, line, need, left, slits, slB, slF, slT, at9, wd9, got, ans, worst) out) (.inr (some (.int (nI (zCt (fun b => !(rW s y b == rD s c y b)) c))))) (zHp S X (s, past, aside, pasts, txt, typed, thrown, line, need, left, slits, slB, slF, slT, at9, wd9, got, ans, worst) out) := by
  have hM9 := hM
  obtain ⟨h0, h1, h2, h3, h4, hc1, hc, hr1, hr, hw, hn, hl⟩ := hM
  refine zRun_of (by decide +kernel) rfl rfl (Nat.le_of_ble_eq_true rfl) ?_
  suffices hs : ∀ (o9 : zO) (h9 : zH), (Sum.inr (some (.int (nI (zCt (fun b => !(rW s y b == rD s c y b)) c)))) : zO) = o9 → (zHp S X (s, past, aside, pasts, txt, typed, thrown, line, need, left, slits, slB, slF, slT, at9, wd9, got, ans, worst) out) = h9 → zPW G mX10_wrong 0 0 o9 h9 0 0 0 [(0, .ref 114), (1, .int (nI y))] [] (zHp S X (s, past, aside, pasts, txt, typed, thrown, line, need, left, slits, slB, slF, slT, at9, wd9, got, ans, worst) out) from hs _ _ rfl rfl
  intro o9 h9 ho9 hh9
  refine z_iconst (v := nI 0) dX10_wrong_0 (by decide) ?_
  refine z_istore_n (lv' := [(2, .int (nI 0)), (0, .ref 114), (1, .int (nI y))]) dX10_wrong_1 rfl (by decide) rfl ?_
  refine z_iconst (v := nI 0) dX10_wrong_2 (by decide) ?_
  refine z_istore_n (lv' := [(3, .int (nI 0)), (2, .int (nI 0)), (0, .ref 114), (1, .int (nI y))]) dX10_wrong_3 rfl (by decide) rfl ?_
  have L4_1 : ∀ (d k : Nat), k ≤ c → c + 1 ≤ k + d → zPW G mX10_wrong 0 0 o9 h9 0 0 4 [(3, .int (nI k)), (2, .int (nI (zCt (fun b => !(rW s y b == rD s c y b)) k))), (0, .ref 114), (1, .int (nI y))] [] (zHp S X (s, past, aside, pasts, txt, typed, thrown, line, need, left, slits, slB, slF, slT, at9, wd9, got, ans, worst) out) := by
    intro d
    induction d with
    | zero => intro k hk hd; exact absurd hd (by omega)
    | succ d ih =>
      intro k hk_k hd_k
      have ih4 := ih
      clear ih
      refine z_iload_n 0 dX10_wrong_4 rfl rfl ?_
      refine z_aload_n 2 dX10_wrong_5 rfl rfl ?_
      refine z_get (v := .ref 115) 0 zgo_114 rfl inX10 (by decide) zw_1178 rfl rfl dX10_wrong_6 ?_
      refine z_iconst (v := nI 0) dX10_wrong_9 (by decide) ?_
      refine z_ialdN (f := s) (n := 1371) (j := 0) zga_115 (by omega) (by decide) dX10_wrong_10 ?_
      refine z_top (v2 := .int (nI c)) (by rw [h0]) ?_
      refine z_icmp_ge (tgt := 43) dX10_wrong_11 (by decide) (fun c_11 => ?_) (fun c_11 => ?_)
      · skip
        have f_11 := m_le (by omega) (by omega) c_11
        have e_k : k = c := by omega
        rw [e_k]
        refine z_iload_n 1 dX10_wrong_43 rfl rfl ?_
        exact z_iret rfl dX10_wrong_44 (zo_i ho9 (by rfl)) (zo_h hh9 (by rfl)) (Nat.zero_le _) (Nat.zero_le _)
      · skip
        have f_11 := m_nle (by omega) (by omega) c_11
        refine z_iload_n 1 dX10_wrong_14 rfl rfl ?_
        refine z_aload_n 2 dX10_wrong_15 rfl rfl ?_
        refine z_iload_n 3 dX10_wrong_16 rfl rfl ?_
        refine z_iload_n 0 dX10_wrong_17 rfl rfl ?_
        refine z_callV (N := mX10_woven) 2 [.int (nI y), .int (nI k)] [.int (nI (zCt (fun b => !(rW s y b == rD s c y b)) k))] lX10_woven ⟨zw_1328, zw_1330, zw_57⟩ rfl zgo_114 rfl rfl (Nat.le_of_ble_eq_true rfl) (by decide) ⟨zlt, zlt⟩ ⟨Nat.zero_le _, Nat.zero_le _⟩ (fun _ => rfl) (m_woven hG y k (by omega) (by omega)) dX10_wrong_18 ?_
        refine z_aload_n 2 dX10_wrong_21 rfl rfl ?_
        refine z_iload_n 3 dX10_wrong_22 rfl rfl ?_
        refine z_iload_n 0 dX10_wrong_23 rfl rfl ?_
        refine z_callV (N := mX10_drawn) 2 [.int (nI y), .int (nI k)] [.int (rW s y k), .int (nI (zCt (fun b => !(rW s y b == rD s c y b)) k))] lX10_drawn ⟨zw_1360, zw_1362, zw_63⟩ rfl zgo_114 rfl rfl (Nat.le_of_ble_eq_true rfl) (by decide) ⟨zlt, zlt⟩ ⟨Nat.zero_le _, Nat.zero_le _⟩ (fun _ => rfl) (m_drawn hG hM9 y k (by omega) (by omega)) dX10_wrong_24 ?_
        refine z_icmp_ne (tgt := 34) dX10_wrong_27 (by decide) (fun c_27 => ?_) (fun c_27 => ?_)
        · skip
          refine z_iconst (v := nI 1) dX10_wrong_34 (by decide) ?_
          refine z_iaddN (a := zCt (fun b => !(rW s y b == rD s c y b)) k) (b := 1) dX10_wrong_35 ?_
          refine z_istore_n (lv' := [(2, .int (nI ((zCt (fun b => !(rW s y b == rD s c y b)) k) + 1))), (3, .int (nI k)), (0, .ref 114), (1, .int (nI y))]) dX10_wrong_36 rfl (by decide) rfl ?_
          refine z_iinc (v := nI (k + 1)) (lv' := [(3, .int (nI (k + 1))), (2, .int (nI ((zCt (fun b => !(rW s y b == rD s c y b)) k) + 1))), (0, .ref 114), (1, .int (nI y))]) 1 dX10_wrong_37 rfl (nI_1 _) (by decide) rfl ?_
          refine z_goto (tgt := 4) dX10_wrong_40 (by decide) ?_
          refine z_sub [0, 1, 2, 3] (lv' := [(3, .int (nI (k + 1))), (2, .int (nI ((zCt (fun b => !(rW s y b == rD s c y b)) k) + 1))), (0, .ref 114), (1, .int (nI y))]) rfl ?_
          refine z_eqs (lv2 := [(3, .int (nI ((k + 1)))), (2, .int (nI (zCt (fun b => !(rW s y b == rD s c y b)) (k + 1)))), (0, .ref 114), (1, .int (nI y))]) (h2 := (zHp S X (s, past, aside, pasts, txt, typed, thrown, line, need, left, slits, slB, slF, slT, at9, wd9, got, ans, worst) out)) (by first | rw [zCt_T (p := (fun b => !(rW s y b == rD s c y b))) (by simp [c_11, f_11, c_27])] | rw [zCt_F (p := (fun b => !(rW s y b == rD s c y b))) (by simp [c_11, f_11, c_27])]) (by rfl) ?_
          exact ih4 (k + 1) (by omega) (by omega)
        · skip
          refine z_iconst (v := nI 0) dX10_wrong_30 (by decide) ?_
          refine z_goto (tgt := 35) dX10_wrong_31 (by decide) ?_
          refine z_iaddN (a := zCt (fun b => !(rW s y b == rD s c y b)) k) (b := 0) dX10_wrong_35 ?_
          refine z_istore_n (lv' := [(2, .int (nI ((zCt (fun b => !(rW s y b == rD s c y b)) k) + 0))), (3, .int (nI k)), (0, .ref 114), (1, .int (nI y))]) dX10_wrong_36 rfl (by decide) rfl ?_
          refine z_iinc (v := nI (k + 1)) (lv' := [(3, .int (nI (k + 1))), (2, .int (nI ((zCt (fun b => !(rW s y b == rD s c y b)) k) + 0))), (0, .ref 114), (1, .int (nI y))]) 1 dX10_wrong_37 rfl (nI_1 _) (by decide) rfl ?_
          refine z_goto (tgt := 4) dX10_wrong_40 (by decide) ?_
          refine z_sub [0, 1, 2, 3] (lv' := [(3, .int (nI (k + 1))), (2, .int (nI ((zCt (fun b => !(rW s y b == rD s c y b)) k) + 0))), (0, .ref 114), (1, .int (nI y))]) rfl ?_
          refine z_eqs (lv2 := [(3, .int (nI ((k + 1)))), (2, .int (nI (zCt (fun b => !(rW s y b == rD s c y b)) (k + 1)))), (0, .ref 114), (1, .int (nI y))]) (h2 := (zHp S X (s, past, aside, pasts, txt, typed, thrown, line, need, left, slits, slB, slF, slT, at9, wd9, got, ans, worst) out)) (by first | rw [zCt_T (p := (fun b => !(rW s y b == rD s c y b))) (by simp [c_11, f_11, c_27])] | rw [zCt_F (p := (fun b => !(rW s y b == rD s c y b))) (by simp [c_11, f_11, c_27])]) (by rfl) ?_
          exact ih4 (k + 1) (by omega) (by omega)
  refine z_sub [0, 1, 2, 3] (lv' := [(3, .int (nI 0)), (2, .int (nI 0)), (0, .ref 114), (1, .int (nI y))]) rfl ?_
  refine z_eqs (lv2 := [(3, .int (nI 0)), (2, .int (nI (zCt (fun b => !(rW s y b == rD s c y b)) 0))), (0, .ref 114), (1, .int (nI y))]) (h2 := (zHp S X (s, past, aside, pasts, txt, typed, thrown, line, need, left, slits, slB, slF, slT, at9, wd9, got, ans, worst) out)) (by rfl) (by rfl) ?_
  exact L4_1 (c + 1) 0 (by omega) (by omega)

set_option maxHeartbeats 4000000 in
set_option maxRecDepth 100000 in
theorem m_lotsIn {G : zT} {S : zS} {X : zXr} {out : Nat → Int64} {s : (Nat → Int32)} {past : (Nat → Int32)} {aside : (Nat → Int32)} {pasts : Nat} {txt : (Nat → Int32)} {typed : Nat} {thrown : Int32} {line : (Nat → Int32)} {need : (Nat → Int32)} {left : (Nat → Int32)} {slits : Nat} {slB : (Nat → Int32)} {slF : (Nat → Int32)} {slT : (Nat → Int32)} {at9 : Nat} {wd9 : Int32} {got : (Nat → Int32)} {ans : Int32} {worst : UInt32} (hG : zAl G = false) {c r w cnt lim : Nat} (hM : zMd s c r w cnt lim) (y : Nat) (hy : y < 16) : zRun G mX10_lotsIn 0 0 [.ref 114, .int (nI y)] (zHp S X (s, past, aside, pasts, txt, typed, thrown, line, need, left, slits, slB, slF, slT, at9, wd9, got, ans, worst) out) (.inr (some (.int (nI (zCt (fun l => rAny (fun b => rY s y b == nI l) c) cnt))))) (zHp S X (s, past, aside, pasts, txt, typed, thrown, line, need, left, slits, slB, slF, slT, at9, wd9, got, ans, worst) out) := by
  have hM9 := hM
  obtain ⟨h0, h1, h2, h3, h4, hc1, hc, hr1, hr, hw, hn, hl⟩ := hM
  refine zRun_of (by decide +kernel) rfl rfl (Nat.le_of_ble_eq_true rfl) ?_
  suffices hs : ∀ (o9 : zO) (h9 : zH), (Sum.inr (some (.int (nI (zCt (fun l => rAny (fun b => rY s y b == nI l) c) cnt)))) : zO) = o9 → (zHp S X (s, past, aside, pasts, txt, typed, thrown, line, need, left, slits, slB, slF, slT, at9, wd9, got, ans, worst) out) = h9 → zPW G mX10_lotsIn 0 0 o9 h9 0 0 0 [(0, .ref 114), (1, .int (nI y))] [] (zHp S X (s, past, aside, pasts, txt, typed, thrown, line, need, left, slits, slB, slF, slT, at9, wd9, got, ans, worst) out) from hs _ _ rfl rfl
  intro o9 h9 ho9 hh9
  refine z_iconst (v := nI 0) dX10_lotsIn_0 (by decide) ?_
  refine z_istore_n (lv' := [(2, .int (nI 0)), (0, .ref 114), (1, .int (nI y))]) dX10_lotsIn_1 rfl (by decide) rfl ?_
  refine z_iconst (v := nI 0) dX10_lotsIn_2 (by decide) ?_
  refine z_istore_n (lv' := [(3, .int (nI 0)), (2, .int (nI 0)), (0, .ref 114), (1, .int (nI y))]) dX10_lotsIn_3 rfl (by decide) rfl ?_
  have L4_1 : ∀ (d k : Nat), k ≤ cnt → cnt + 1 ≤ k + d → zPW G mX10_lotsIn 0 0 o9 h9 0 0 4 [(3, .int (nI k)), (2, .int (nI (zCt (fun l => rAny (fun b => rY s y b == nI l) c) k))), (0, .ref 114), (1, .int (nI y))] [] (zHp S X (s, past, aside, pasts, txt, typed, thrown, line, need, left, slits, slB, slF, slT, at9, wd9, got, ans, worst) out) := by
    intro d
    induction d with
    | zero => intro k hk hd; exact absurd hd (by omega)
    | succ d ih =>
      intro k hk_k hd_k
      have ih4 := ih
      clear ih
      refine z_iload_n 0 dX10_lotsIn_4 rfl rfl ?_
      refine z_aload_n 2 dX10_lotsIn_5 rfl rfl ?_
      refine z_get (v := .ref 115) 0 zgo_114 rfl inX10 (by decide) zw_1178 rfl rfl dX10_lotsIn_6 ?_
      refine z_iconst (v := nI 3) dX10_lotsIn_9 (by decide) ?_
      refine z_ialdN (f := s) (n := 1371) (j := 3) zga_115 (by omega) (by decide) dX10_lotsIn_10 ?_
      refine z_top (v2 := .int (nI cnt)) (by rw [h3]) ?_
      refine z_icmp_ge (tgt := 79) dX10_lotsIn_11 (by decide) (fun c_11 => ?_) (fun c_11 => ?_)
      · skip
        have f_11 := m_le (by omega) (by omega) c_11
        have e_k : k = cnt := by omega
        rw [e_k]
        refine z_iload_n 1 dX10_lotsIn_79 rfl rfl ?_
        exact z_iret rfl dX10_lotsIn_80 (zo_i ho9 (by rfl)) (zo_h hh9 (by rfl)) (Nat.zero_le _) (Nat.zero_le _)
      · skip
        have f_11 := m_nle (by omega) (by omega) c_11
        refine z_iconst (v := nI 0) dX10_lotsIn_14 (by decide) ?_
        refine z_istore (lv' := [(4, .int (nI 0)), (3, .int (nI k)), (2, .int (nI (zCt (fun l => rAny (fun b => rY s y b == nI l) c) k))), (0, .ref 114), (1, .int (nI y))]) dX10_lotsIn_15 (by decide) rfl ?_
        refine z_iconst (v := nI 0) dX10_lotsIn_17 (by decide) ?_
        refine z_istore (lv' := [(5, .int (nI 0)), (4, .int (nI 0)), (3, .int (nI k)), (2, .int (nI (zCt (fun l => rAny (fun b => rY s y b == nI l) c) k))), (0, .ref 114), (1, .int (nI y))]) dX10_lotsIn_18 (by decide) rfl ?_
        have L20_2 : ∀ (d j : Nat), j ≤ c → c + 1 ≤ j + d → zPW G mX10_lotsIn 0 0 o9 h9 0 0 20 [(5, .int (nI j)), (4, .int (zB (rAny (fun b => rY s y b == nI k) j))), (3, .int (nI k)), (2, .int (nI (zCt (fun l => rAny (fun b => rY s y b == nI l) c) k))), (0, .ref 114), (1, .int (nI y))] [] (zHp S X (s, past, aside, pasts, txt, typed, thrown, line, need, left, slits, slB, slF, slT, at9, wd9, got, ans, worst) out) := by
          intro d
          induction d with
          | zero => intro j hk hd; exact absurd hd (by omega)
          | succ d ih =>
            intro j hk_j hd_j
            have ih20 := ih
            clear ih
            refine z_iload 0 dX10_lotsIn_20 rfl ?_
            refine z_aload_n 4 dX10_lotsIn_22 rfl rfl ?_
            refine z_get (v := .ref 115) 0 zgo_114 rfl inX10 (by decide) zw_1178 rfl rfl dX10_lotsIn_23 ?_
            refine z_iconst (v := nI 0) dX10_lotsIn_26 (by decide) ?_
            refine z_ialdN (f := s) (n := 1371) (j := 0) zga_115 (by omega) (by decide) dX10_lotsIn_27 ?_
            refine z_top (v2 := .int (nI c)) (by rw [h0]) ?_
            refine z_icmp_ge (tgt := 60) dX10_lotsIn_28 (by decide) (fun c_28 => ?_) (fun c_28 => ?_)
            · skip
              have f_28 := m_le (by omega) (by omega) c_28
              have e_j : j = c := by omega
              rw [e_j]
              refine z_iload_n 3 dX10_lotsIn_60 rfl rfl ?_
              refine z_iload 1 dX10_lotsIn_61 rfl ?_
              refine z_if_eq (tgt := 70) dX10_lotsIn_63 (by decide) (fun c_63 => ?_) (fun c_63 => ?_)
              · skip
                have b_63 := zB_0.mp c_63
                refine z_iconst (v := nI 0) dX10_lotsIn_70 (by decide) ?_
                refine z_iaddN (a := zCt (fun l => rAny (fun b => rY s y b == nI l) c) k) (b := 0) dX10_lotsIn_71 ?_
                refine z_istore_n (lv' := [(2, .int (nI ((zCt (fun l => rAny (fun b => rY s y b == nI l) c) k) + 0))), (5, .int (nI c)), (4, .int (zB (rAny (fun b => rY s y b == nI k) c))), (3, .int (nI k)), (0, .ref 114), (1, .int (nI y))]) dX10_lotsIn_72 rfl (by decide) rfl ?_
                refine z_iinc (v := nI (k + 1)) (lv' := [(3, .int (nI (k + 1))), (2, .int (nI ((zCt (fun l => rAny (fun b => rY s y b == nI l) c) k) + 0))), (5, .int (nI c)), (4, .int (zB (rAny (fun b => rY s y b == nI k) c))), (0, .ref 114), (1, .int (nI y))]) 3 dX10_lotsIn_73 rfl (nI_1 _) (by decide) rfl ?_
                refine z_goto (tgt := 4) dX10_lotsIn_76 (by decide) ?_
                refine z_sub [0, 1, 4, 5] (lv' := [(3, .int (nI (k + 1))), (2, .int (nI ((zCt (fun l => rAny (fun b => rY s y b == nI l) c) k) + 0))), (0, .ref 114), (1, .int (nI y))]) rfl ?_
                refine z_eqs (lv2 := [(3, .int (nI ((k + 1)))), (2, .int (nI (zCt (fun l => rAny (fun b => rY s y b == nI l) c) (k + 1)))), (0, .ref 114), (1, .int (nI y))]) (h2 := (zHp S X (s, past, aside, pasts, txt, typed, thrown, line, need, left, slits, slB, slF, slT, at9, wd9, got, ans, worst) out)) (by first | rw [zCt_T (p := (fun l => rAny (fun b => rY s y b == nI l) c)) (by simp [c_11, f_11, c_28, f_28, b_63])] | rw [zCt_F (p := (fun l => rAny (fun b => rY s y b == nI l) c)) (by simp [c_11, f_11, c_28, f_28, b_63])]) (by rfl) ?_
                exact ih4 (k + 1) (by omega) (by omega)
              · skip
                have b_63 := zB_tt c_63
                refine z_iconst (v := nI 1) dX10_lotsIn_66 (by decide) ?_
                refine z_goto (tgt := 71) dX10_lotsIn_67 (by decide) ?_
                refine z_iaddN (a := zCt (fun l => rAny (fun b => rY s y b == nI l) c) k) (b := 1) dX10_lotsIn_71 ?_
                refine z_istore_n (lv' := [(2, .int (nI ((zCt (fun l => rAny (fun b => rY s y b == nI l) c) k) + 1))), (5, .int (nI c)), (4, .int (zB (rAny (fun b => rY s y b == nI k) c))), (3, .int (nI k)), (0, .ref 114), (1, .int (nI y))]) dX10_lotsIn_72 rfl (by decide) rfl ?_
                refine z_iinc (v := nI (k + 1)) (lv' := [(3, .int (nI (k + 1))), (2, .int (nI ((zCt (fun l => rAny (fun b => rY s y b == nI l) c) k) + 1))), (5, .int (nI c)), (4, .int (zB (rAny (fun b => rY s y b == nI k) c))), (0, .ref 114), (1, .int (nI y))]) 3 dX10_lotsIn_73 rfl (nI_1 _) (by decide) rfl ?_
                refine z_goto (tgt := 4) dX10_lotsIn_76 (by decide) ?_
                refine z_sub [0, 1, 4, 5] (lv' := [(3, .int (nI (k + 1))), (2, .int (nI ((zCt (fun l => rAny (fun b => rY s y b == nI l) c) k) + 1))), (0, .ref 114), (1, .int (nI y))]) rfl ?_
                refine z_eqs (lv2 := [(3, .int (nI ((k + 1)))), (2, .int (nI (zCt (fun l => rAny (fun b => rY s y b == nI l) c) (k + 1)))), (0, .ref 114), (1, .int (nI y))]) (h2 := (zHp S X (s, past, aside, pasts, txt, typed, thrown, line, need, left, slits, slB, slF, slT, at9, wd9, got, ans, worst) out)) (by first | rw [zCt_T (p := (fun l => rAny (fun b => rY s y b == nI l) c)) (by simp [c_11, f_11, c_28, f_28, b_63])] | rw [zCt_F (p := (fun l => rAny (fun b => rY s y b == nI l) c)) (by simp [c_11, f_11, c_28, f_28, b_63])]) (by rfl) ?_
                exact ih4 (k + 1) (by omega) (by omega)
            · skip
              have f_28 := m_nle (by omega) (by omega) c_28
              have J52_84 : zPW G mX10_lotsIn 0 0 o9 h9 0 0 52 [(5, .int (nI j)), (4, .int (zB (rAny (fun b => rY s y b == nI k) j))), (3, .int (nI k)), (2, .int (nI (zCt (fun l => rAny (fun b => rY s y b == nI l) c) k))), (0, .ref 114), (1, .int (nI y))] [.int (zB (rAny (fun b => rY s y b == nI k) (j + 1)))] (zHp S X (s, past, aside, pasts, txt, typed, thrown, line, need, left, slits, slB, slF, slT, at9, wd9, got, ans, worst) out) := by
                refine z_istore (lv' := [(4, .int (zB (rAny (fun b => rY s y b == nI k) (j + 1)))), (5, .int (nI j)), (3, .int (nI k)), (2, .int (nI (zCt (fun l => rAny (fun b => rY s y b == nI l) c) k))), (0, .ref 114), (1, .int (nI y))]) dX10_lotsIn_52 (by decide) rfl ?_
                refine z_iinc (v := nI (j + 1)) (lv' := [(5, .int (nI (j + 1))), (4, .int (zB (rAny (fun b => rY s y b == nI k) (j + 1)))), (3, .int (nI k)), (2, .int (nI (zCt (fun l => rAny (fun b => rY s y b == nI l) c) k))), (0, .ref 114), (1, .int (nI y))]) 1 dX10_lotsIn_54 rfl (nI_1 _) (by decide) rfl ?_
                refine z_goto (tgt := 20) dX10_lotsIn_57 (by decide) ?_
                refine z_sub [0, 1, 2, 3, 4, 5] (lv' := [(5, .int (nI (j + 1))), (4, .int (zB (rAny (fun b => rY s y b == nI k) (j + 1)))), (3, .int (nI k)), (2, .int (nI (zCt (fun l => rAny (fun b => rY s y b == nI l) c) k))), (0, .ref 114), (1, .int (nI y))]) rfl ?_
                refine z_eqs (lv2 := [(5, .int (nI ((j + 1)))), (4, .int (zB (rAny (fun b => rY s y b == nI k) (j + 1)))), (3, .int (nI k)), (2, .int (nI (zCt (fun l => rAny (fun b => rY s y b == nI l) c) k))), (0, .ref 114), (1, .int (nI y))]) (h2 := (zHp S X (s, past, aside, pasts, txt, typed, thrown, line, need, left, slits, slB, slF, slT, at9, wd9, got, ans, worst) out)) (by rfl) (by rfl) ?_
                exact ih20 (j + 1) (by omega) (by omega)
              refine z_iload 1 dX10_lotsIn_31 rfl ?_
              refine z_if_ne (tgt := 47) dX10_lotsIn_33 (by decide) (fun c_33 => ?_) (fun c_33 => ?_)
              · skip
                have b_33 := zB_tt c_33
                refine z_iconst (v := nI 1) dX10_lotsIn_47 (by decide) ?_
                refine z_goto (tgt := 52) dX10_lotsIn_48 (by decide) ?_
                refine z_top (v2 := .int (zB (rAny (fun b => rY s y b == nI k) (j + 1)))) (by simp [zB, rAny, nI_0, nI_one, c_11, f_11, c_28, f_28, b_33]) ?_
                exact J52_84
              · skip
                have b_33 := zB_0.mp c_33
                refine z_aload_n 4 dX10_lotsIn_36 rfl rfl ?_
                refine z_iload_n 5 dX10_lotsIn_37 rfl rfl ?_
                refine z_iload 0 dX10_lotsIn_38 rfl ?_
                refine z_callV (N := mX10_yarn) 2 [.int (nI y), .int (nI j)] [] lX10_yarn ⟨zw_1400, zw_1402, zw_72⟩ rfl zgo_114 rfl rfl (Nat.le_of_ble_eq_true rfl) (by decide) ⟨zlt, zlt⟩ ⟨Nat.zero_le _, Nat.zero_le _⟩ (fun _ => rfl) (m_yarn hG y j (by omega) (by omega)) dX10_lotsIn_40 ?_
                refine z_iload_n 2 dX10_lotsIn_43 rfl rfl ?_
                refine z_icmp_ne (tgt := 51) dX10_lotsIn_44 (by decide) (fun c_44 => ?_) (fun c_44 => ?_)
                · skip
                  refine z_iconst (v := nI 0) dX10_lotsIn_51 (by decide) ?_
                  refine z_top (v2 := .int (zB (rAny (fun b => rY s y b == nI k) (j + 1)))) (by simp [zB, rAny, nI_0, nI_one, c_11, f_11, c_28, f_28, b_33, c_44]) ?_
                  exact J52_84
                · skip
                  refine z_iconst (v := nI 1) dX10_lotsIn_47 (by decide) ?_
                  refine z_goto (tgt := 52) dX10_lotsIn_48 (by decide) ?_
                  refine z_top (v2 := .int (zB (rAny (fun b => rY s y b == nI k) (j + 1)))) (by simp [zB, rAny, nI_0, nI_one, c_11, f_11, c_28, f_28, b_33, c_44]) ?_
                  exact J52_84
        refine z_sub [0, 1, 2, 3, 4, 5] (lv' := [(5, .int (nI 0)), (4, .int (nI 0)), (3, .int (nI k)), (2, .int (nI (zCt (fun l => rAny (fun b => rY s y b == nI l) c) k))), (0, .ref 114), (1, .int (nI y))]) rfl ?_
        refine z_eqs (lv2 := [(5, .int (nI 0)), (4, .int (zB (rAny (fun b => rY s y b == nI k) 0))), (3, .int (nI k)), (2, .int (nI (zCt (fun l => rAny (fun b => rY s y b == nI l) c) k))), (0, .ref 114), (1, .int (nI y))]) (h2 := (zHp S X (s, past, aside, pasts, txt, typed, thrown, line, need, left, slits, slB, slF, slT, at9, wd9, got, ans, worst) out)) (by rfl) (by rfl) ?_
        exact L20_2 (c + 1) 0 (by omega) (by omega)
  refine z_sub [0, 1, 2, 3] (lv' := [(3, .int (nI 0)), (2, .int (nI 0)), (0, .ref 114), (1, .int (nI y))]) rfl ?_
  refine z_eqs (lv2 := [(3, .int (nI 0)), (2, .int (nI (zCt (fun l => rAny (fun b => rY s y b == nI l) c) 0))), (0, .ref 114), (1, .int (nI y))]) (h2 := (zHp S X (s, past, aside, pasts, txt, typed, thrown, line, need, left, slits, slB, slF, slT, at9, wd9, got, ans, worst) out)) (by rfl) (by rfl) ?_
  exact L4_1 (cnt + 1) 0 (by omega) (by omega)

set_option maxHeartbeats 4000000 in
set_option maxRecDepth 100000 in
theorem m_shuttles {G : zT} {S : zS} {X : zXr} {out : Nat → Int64} {s : (Nat → Int32)} {past : (Nat → Int32)} {aside : (Nat → Int32)} {pasts : Nat} {txt : (Nat → Int32)} {typed : Nat} {thrown : Int32} {line : (Nat → Int32)} {need : (Nat → Int32)} {left : (Nat → Int32)} {slits : Nat} {slB : (Nat → Int32)} {slF : (Nat → Int32)} {slT : (Nat → Int32)} {at9 : Nat} {wd9 : Int32} {got : (Nat → Int32)} {ans : Int32} {worst : UInt32} (hG : zAl G = false) {c r w cnt lim : Nat} (hM : zMd s c r w cnt lim) (y : Nat) (hy : y < 16) : zRun G mX10_shuttles 0 0 [.ref 114, .int (nI y)] (zHp S X (s, past, aside, pasts, txt, typed, thrown, line, need, left, slits, slB, slF, slT, at9, wd9, got, ans, worst) out) (.inr (some (.int (nI (zCt (rBeg (zFl (rW s y) line c)) c))))) (zHp S X (s, past, aside, pasts, txt, typed, thrown, (zFl (rW s y) line c), need, left, slits, slB, slF, slT, at9, wd9, got, ans, worst) out) := by
  have hM9 := hM
  obtain ⟨h0, h1, h2, h3, h4, hc1, hc, hr1, hr, hw, hn, hl⟩ := hM
  refine zRun_of (by decide +kernel) rfl rfl (Nat.le_of_ble_eq_true rfl) ?_
  suffices hs : ∀ (o9 : zO) (h9 : zH), (Sum.inr (some (.int (nI (zCt (rBeg (zFl (rW s y) line c)) c)))) : zO) = o9 → (zHp S X (s, past, aside, pasts, txt, typed, thrown, (zFl (rW s y) line c), need, left, slits, slB, slF, slT, at9, wd9, got, ans, worst) out) = h9 → zPW G mX10_shuttles 0 0 o9 h9 0 0 0 [(0, .ref 114), (1, .int (nI y))] [] (zHp S X (s, past, aside, pasts, txt, typed, thrown, line, need, left, slits, slB, slF, slT, at9, wd9, got, ans, worst) out) from hs _ _ rfl rfl
  intro o9 h9 ho9 hh9
  refine z_aload_n 0 dX10_shuttles_0 rfl rfl ?_
  refine z_iload_n 1 dX10_shuttles_1 rfl rfl ?_
  refine z_callV (N := mX10_copies) 1 [.int (nI y)] [] lX10_copies ⟨zw_1440, zw_1442, zw_79⟩ rfl zgo_114 rfl rfl (Nat.le_of_ble_eq_true rfl) (by decide) ⟨zlt, zlt⟩ ⟨Nat.zero_le _, Nat.zero_le _⟩ zal (m_copies hG hM9 y (by omega)) dX10_shuttles_2 ?_
  refine z_aload_n 0 dX10_shuttles_5 rfl rfl ?_
  refine z_callV (N := mX10_runs) 0 [] [] lX10_runs ⟨zw_1444, zw_1446, zw_80⟩ rfl zgo_114 rfl rfl (Nat.le_of_ble_eq_true rfl) (by decide) ⟨zlt, zlt⟩ ⟨Nat.zero_le _, Nat.zero_le _⟩ (fun _ => rfl) (m_runs hG hM9) dX10_shuttles_6 ?_
  exact z_iret rfl dX10_shuttles_9 (zo_i ho9 (by rfl)) (zo_h hh9 (by rfl)) (Nat.zero_le _) (Nat.zero_le _)

set_option maxHeartbeats 4000000 in
set_option maxRecDepth 100000 in
theorem m_parts {G : zT} {S : zS} {X : zXr} {out : Nat → Int64} {s : (Nat → Int32)} {past : (Nat → Int32)} {aside : (Nat → Int32)} {pasts : Nat} {txt : (Nat → Int32)} {typed : Nat} {thrown : Int32} {line : (Nat → Int32)} {need : (Nat → Int32)} {left : (Nat → Int32)} {slits : Nat} {slB : (Nat → Int32)} {slF : (Nat → Int32)} {slT : (Nat → Int32)} {at9 : Nat} {wd9 : Int32} {got : (Nat → Int32)} {ans : Int32} {worst : UInt32} (hG : zAl G = false) {c r w cnt lim : Nat} (hM : zMd s c r w cnt lim) (y b : Nat) (hy : y ≤ w) (hb : b + 1 < c) : zRun G mX10_parts 0 0 [.ref 114, .int (nI y), .int (nI b)] (zHp S X (s, past, aside, pasts, txt, typed, thrown, line, need, left, slits, slB, slF, slT, at9, wd9, got, ans, worst) out) (.inr (some (.int (zB (rPt s w y b))))) (zHp S X (s, past, aside, pasts, txt, typed, thrown, line, need, left, slits, slB, slF, slT, at9, wd9, got, ans, worst) out) := by
  have hM9 := hM
  obtain ⟨h0, h1, h2, h3, h4, hc1, hc, hr1, hr, hw, hn, hl⟩ := hM
  refine zRun_of (by decide +kernel) rfl rfl (Nat.le_of_ble_eq_true rfl) ?_
  suffices hs : ∀ (o9 : zO) (h9 : zH), (Sum.inr (some (.int (zB (rPt s w y b)))) : zO) = o9 → (zHp S X (s, past, aside, pasts, txt, typed, thrown, line, need, left, slits, slB, slF, slT, at9, wd9, got, ans, worst) out) = h9 → zPW G mX10_parts 0 0 o9 h9 0 0 0 [(0, .ref 114), (1, .int (nI y)), (2, .int (nI b))] [] (zHp S X (s, past, aside, pasts, txt, typed, thrown, line, need, left, slits, slB, slF, slT, at9, wd9, got, ans, worst) out) from hs _ _ rfl rfl
  intro o9 h9 ho9 hh9
  have J30_8 : zPW G mX10_parts 0 0 o9 h9 0 0 30 [(0, .ref 114), (1, .int (nI y)), (2, .int (nI b))] [.int (zB (rPt s w y b))] (zHp S X (s, past, aside, pasts, txt, typed, thrown, line, need, left, slits, slB, slF, slT, at9, wd9, got, ans, worst) out) := by
    exact z_zret rfl (by exact zB_n _) dX10_parts_30 (zo_i ho9 (by rfl)) (zo_h hh9 (by rfl)) (Nat.zero_le _) (Nat.zero_le _)
  refine z_aload_n 0 dX10_parts_0 rfl rfl ?_
  refine z_iload_n 1 dX10_parts_1 rfl rfl ?_
  refine z_callV (N := mX10_isWoven) 1 [.int (nI y)] [] lX10_isWoven ⟨zw_1324, zw_1326, zw_56⟩ rfl zgo_114 rfl rfl (Nat.le_of_ble_eq_true rfl) (by decide) ⟨zlt, zlt⟩ ⟨Nat.zero_le _, Nat.zero_le _⟩ (fun _ => rfl) (m_isWoven hG hM9 (nI y)) dX10_parts_2 ?_
  refine z_top (v2 := .int (zB (decide (y < w)))) (by rw [zIn_n (by omega) (by omega)]) ?_
  refine z_if_eq (tgt := 29) dX10_parts_5 (by decide) (fun c_5 => ?_) (fun c_5 => ?_)
  · skip
    have b_5 := zB_0.mp c_5
    refine z_iconst (v := nI 0) dX10_parts_29 (by decide) ?_
    refine z_top (v2 := .int (zB (rPt s w y b))) (by simp [zB, rPt, nI_0, nI_one, b_5]) ?_
    exact J30_8
  · skip
    have b_5 := zB_tt c_5
    have g_5 := of_decide_eq_true b_5
    refine z_aload_n 0 dX10_parts_8 rfl rfl ?_
    refine z_iload_n 1 dX10_parts_9 rfl rfl ?_
    refine z_iload_n 2 dX10_parts_10 rfl rfl ?_
    refine z_callV (N := mX10_woven) 2 [.int (nI y), .int (nI b)] [] lX10_woven ⟨zw_1328, zw_1330, zw_57⟩ rfl zgo_114 rfl rfl (Nat.le_of_ble_eq_true rfl) (by decide) ⟨zlt, zlt⟩ ⟨Nat.zero_le _, Nat.zero_le _⟩ (fun _ => rfl) (m_woven hG y b (by omega) (by omega)) dX10_parts_11 ?_
    refine z_aload_n 0 dX10_parts_14 rfl rfl ?_
    refine z_iload_n 1 dX10_parts_15 rfl rfl ?_
    refine z_iload_n 2 dX10_parts_16 rfl rfl ?_
    refine z_iconst (v := nI 1) dX10_parts_17 (by decide) ?_
    refine z_iaddN (a := b) (b := 1) dX10_parts_18 ?_
    refine z_callV (N := mX10_woven) 2 [.int (nI y), .int (nI (b + 1))] [.int (rW s y b)] lX10_woven ⟨zw_1328, zw_1330, zw_57⟩ rfl zgo_114 rfl rfl (Nat.le_of_ble_eq_true rfl) (by decide) ⟨zlt, zlt⟩ ⟨Nat.zero_le _, Nat.zero_le _⟩ (fun _ => rfl) (m_woven hG y (b + 1) (by omega) (by omega)) dX10_parts_19 ?_
    refine z_icmp_eq (tgt := 29) dX10_parts_22 (by decide) (fun c_22 => ?_) (fun c_22 => ?_)
    · skip
      refine z_iconst (v := nI 0) dX10_parts_29 (by decide) ?_
      refine z_top (v2 := .int (zB (rPt s w y b))) (by simp [zB, rPt, nI_0, nI_one, b_5, c_22]) ?_
      exact J30_8
    · skip
      refine z_iconst (v := nI 1) dX10_parts_25 (by decide) ?_
      refine z_goto (tgt := 30) dX10_parts_26 (by decide) ?_
      refine z_top (v2 := .int (zB (rPt s w y b))) (by simp [zB, rPt, nI_0, nI_one, b_5, c_22]) ?_
      exact J30_8

set_option maxHeartbeats 4000000 in
set_option maxRecDepth 100000 in
theorem m_cellsWith {G : zT} {S : zS} {X : zXr} {out : Nat → Int64} {s : (Nat → Int32)} {past : (Nat → Int32)} {aside : (Nat → Int32)} {pasts : Nat} {txt : (Nat → Int32)} {typed : Nat} {thrown : Int32} {line : (Nat → Int32)} {need : (Nat → Int32)} {left : (Nat → Int32)} {slits : Nat} {slB : (Nat → Int32)} {slF : (Nat → Int32)} {slT : (Nat → Int32)} {at9 : Nat} {wd9 : Int32} {got : (Nat → Int32)} {ans : Int32} {worst : UInt32} (hG : zAl G = false) {c r w cnt lim : Nat} (hM : zMd s c r w cnt lim) (l : Int32) : zRun G mX10_cellsWith 0 0 [.ref 114, .int l] (zHp S X (s, past, aside, pasts, txt, typed, thrown, line, need, left, slits, slB, slF, slT, at9, wd9, got, ans, worst) out) (.inr (some (.int (nI (zSN (fun y => zCt (fun b => rY s y b == l) c) w))))) (zHp S X (s, past, aside, pasts, txt, typed, thrown, line, need, left, slits, slB, slF, slT, at9, wd9, got, ans, worst) out) := by
  have hM9 := hM
  obtain ⟨h0, h1, h2, h3, h4, hc1, hc, hr1, hr, hw, hn, hl⟩ := hM
  refine zRun_of (by decide +kernel) rfl rfl (Nat.le_of_ble_eq_true rfl) ?_
  suffices hs : ∀ (o9 : zO) (h9 : zH), (Sum.inr (some (.int (nI (zSN (fun y => zCt (fun b => rY s y b == l) c) w)))) : zO) = o9 → (zHp S X (s, past, aside, pasts, txt, typed, thrown, line, need, left, slits, slB, slF, slT, at9, wd9, got, ans, worst) out) = h9 → zPW G mX10_cellsWith 0 0 o9 h9 0 0 0 [(0, .ref 114), (1, .int l)] [] (zHp S X (s, past, aside, pasts, txt, typed, thrown, line, need, left, slits, slB, slF, slT, at9, wd9, got, ans, worst) out) from hs _ _ rfl rfl
  intro o9 h9 ho9 hh9
  refine z_iconst (v := nI 0) dX10_cellsWith_0 (by decide) ?_
  refine z_istore_n (lv' := [(2, .int (nI 0)), (0, .ref 114), (1, .int l)]) dX10_cellsWith_1 rfl (by decide) rfl ?_
  refine z_iconst (v := nI 0) dX10_cellsWith_2 (by decide) ?_
  refine z_istore_n (lv' := [(3, .int (nI 0)), (2, .int (nI 0)), (0, .ref 114), (1, .int l)]) dX10_cellsWith_3 rfl (by decide) rfl ?_
  have L4_1 : ∀ (d k : Nat), k ≤ w → w + 1 ≤ k + d → zPW G mX10_cellsWith 0 0 o9 h9 0 0 4 [(3, .int (nI k)), (2, .int (nI (zSN (fun y => zCt (fun b => rY s y b == l) c) k))), (0, .ref 114), (1, .int l)] [] (zHp S X (s, past, aside, pasts, txt, typed, thrown, line, need, left, slits, slB, slF, slT, at9, wd9, got, ans, worst) out) := by
    intro d
    induction d with
    | zero => intro k hk hd; exact absurd hd (by omega)
    | succ d ih =>
      intro k hk_k hd_k
      have ih4 := ih
      clear ih
      refine z_iload_n 0 dX10_cellsWith_4 rfl rfl ?_
      refine z_aload_n 2 dX10_cellsWith_5 rfl rfl ?_
      refine z_get (v := .ref 115) 0 zgo_114 rfl inX10 (by decide) zw_1178 rfl rfl dX10_cellsWith_6 ?_
      refine z_iconst (v := nI 2) dX10_cellsWith_9 (by decide) ?_
      refine z_ialdN (f := s) (n := 1371) (j := 2) zga_115 (by omega) (by decide) dX10_cellsWith_10 ?_
      refine z_top (v2 := .int (nI w)) (by rw [h2]) ?_
      refine z_icmp_ge (tgt := 59) dX10_cellsWith_11 (by decide) (fun c_11 => ?_) (fun c_11 => ?_)
      · skip
        have f_11 := m_le (by omega) (by omega) c_11
        have e_k : k = w := by omega
        rw [e_k]
        refine z_iload_n 1 dX10_cellsWith_59 rfl rfl ?_
        exact z_iret rfl dX10_cellsWith_60 (zo_i ho9 (by rfl)) (zo_h hh9 (by rfl)) (Nat.zero_le _) (Nat.zero_le _)
      · skip
        have f_11 := m_nle (by omega) (by omega) c_11
        refine z_iconst (v := nI 0) dX10_cellsWith_14 (by decide) ?_
        refine z_istore (lv' := [(4, .int (nI 0)), (3, .int (nI k)), (2, .int (nI (zSN (fun y => zCt (fun b => rY s y b == l) c) k))), (0, .ref 114), (1, .int l)]) dX10_cellsWith_15 (by decide) rfl ?_
        have L17_2 : ∀ (d j : Nat), j ≤ c → c + 1 ≤ j + d → zPW G mX10_cellsWith 0 0 o9 h9 0 0 17 [(4, .int (nI j)), (3, .int (nI k)), (2, .int (nI (zSN (fun y => zCt (fun b => rY s y b == l) c) k + zCt (fun b => rY s k b == l) j))), (0, .ref 114), (1, .int l)] [] (zHp S X (s, past, aside, pasts, txt, typed, thrown, line, need, left, slits, slB, slF, slT, at9, wd9, got, ans, worst) out) := by
          intro d
          induction d with
          | zero => intro j hk hd; exact absurd hd (by omega)
          | succ d ih =>
            intro j hk_j hd_j
            have ih17 := ih
            clear ih
            refine z_iload 0 dX10_cellsWith_17 rfl ?_
            refine z_aload_n 3 dX10_cellsWith_19 rfl rfl ?_
            refine z_get (v := .ref 115) 0 zgo_114 rfl inX10 (by decide) zw_1178 rfl rfl dX10_cellsWith_20 ?_
            refine z_iconst (v := nI 0) dX10_cellsWith_23 (by decide) ?_
            refine z_ialdN (f := s) (n := 1371) (j := 0) zga_115 (by omega) (by decide) dX10_cellsWith_24 ?_
            refine z_top (v2 := .int (nI c)) (by rw [h0]) ?_
            refine z_icmp_ge (tgt := 53) dX10_cellsWith_25 (by decide) (fun c_25 => ?_) (fun c_25 => ?_)
            · skip
              have f_25 := m_le (by omega) (by omega) c_25
              have e_j : j = c := by omega
              rw [e_j]
              refine z_iinc (v := nI (k + 1)) (lv' := [(3, .int (nI (k + 1))), (4, .int (nI c)), (2, .int (nI (zSN (fun y => zCt (fun b => rY s y b == l) c) k + zCt (fun b => rY s k b == l) c))), (0, .ref 114), (1, .int l)]) 1 dX10_cellsWith_53 rfl (nI_1 _) (by decide) rfl ?_
              refine z_goto (tgt := 4) dX10_cellsWith_56 (by decide) ?_
              refine z_sub [0, 2, 3, 4] (lv' := [(3, .int (nI (k + 1))), (2, .int (nI (zSN (fun y => zCt (fun b => rY s y b == l) c) k + zCt (fun b => rY s k b == l) c))), (0, .ref 114), (1, .int l)]) rfl ?_
              refine z_eqs (lv2 := [(3, .int (nI ((k + 1)))), (2, .int (nI (zSN (fun y => zCt (fun b => rY s y b == l) c) (k + 1)))), (0, .ref 114), (1, .int l)]) (h2 := (zHp S X (s, past, aside, pasts, txt, typed, thrown, line, need, left, slits, slB, slF, slT, at9, wd9, got, ans, worst) out)) (by rfl) (by rfl) ?_
              exact ih4 (k + 1) (by omega) (by omega)
            · skip
              have f_25 := m_nle (by omega) (by omega) c_25
              refine z_iload_n 2 dX10_cellsWith_28 rfl rfl ?_
              refine z_aload_n 3 dX10_cellsWith_29 rfl rfl ?_
              refine z_iload_n 1 dX10_cellsWith_30 rfl rfl ?_
              refine z_iload 0 dX10_cellsWith_31 rfl ?_
              refine z_callV (N := mX10_yarn) 2 [.int (nI k), .int (nI j)] [.int (nI (zSN (fun y => zCt (fun b => rY s y b == l) c) k + zCt (fun b => rY s k b == l) j))] lX10_yarn ⟨zw_1400, zw_1402, zw_72⟩ rfl zgo_114 rfl rfl (Nat.le_of_ble_eq_true rfl) (by decide) ⟨zlt, zlt⟩ ⟨Nat.zero_le _, Nat.zero_le _⟩ (fun _ => rfl) (m_yarn hG k j (by omega) (by omega)) dX10_cellsWith_33 ?_
              refine z_iload_n 4 dX10_cellsWith_36 rfl rfl ?_
              refine z_icmp_ne (tgt := 44) dX10_cellsWith_37 (by decide) (fun c_37 => ?_) (fun c_37 => ?_)
              · skip
                refine z_iconst (v := nI 0) dX10_cellsWith_44 (by decide) ?_
                refine z_iaddN (a := zSN (fun y => zCt (fun b => rY s y b == l) c) k + zCt (fun b => rY s k b == l) j) (b := 0) dX10_cellsWith_45 ?_
                refine z_istore_n (lv' := [(2, .int (nI ((zSN (fun y => zCt (fun b => rY s y b == l) c) k + zCt (fun b => rY s k b == l) j) + 0))), (4, .int (nI j)), (3, .int (nI k)), (0, .ref 114), (1, .int l)]) dX10_cellsWith_46 rfl (by decide) rfl ?_
                refine z_iinc (v := nI (j + 1)) (lv' := [(4, .int (nI (j + 1))), (2, .int (nI ((zSN (fun y => zCt (fun b => rY s y b == l) c) k + zCt (fun b => rY s k b == l) j) + 0))), (3, .int (nI k)), (0, .ref 114), (1, .int l)]) 1 dX10_cellsWith_47 rfl (nI_1 _) (by decide) rfl ?_
                refine z_goto (tgt := 17) dX10_cellsWith_50 (by decide) ?_
                refine z_sub [0, 2, 1, 3, 4] (lv' := [(4, .int (nI (j + 1))), (3, .int (nI k)), (2, .int (nI ((zSN (fun y => zCt (fun b => rY s y b == l) c) k + zCt (fun b => rY s k b == l) j) + 0))), (0, .ref 114), (1, .int l)]) rfl ?_
                refine z_eqs (lv2 := [(4, .int (nI ((j + 1)))), (3, .int (nI k)), (2, .int (nI (zSN (fun y => zCt (fun b => rY s y b == l) c) k + zCt (fun b => rY s k b == l) (j + 1)))), (0, .ref 114), (1, .int l)]) (h2 := (zHp S X (s, past, aside, pasts, txt, typed, thrown, line, need, left, slits, slB, slF, slT, at9, wd9, got, ans, worst) out)) (by first | rw [Nat.add_assoc, zCt_T (p := (fun b => rY s k b == l)) (by simp [c_11, f_11, c_25, f_25, c_37])] | rw [Nat.add_assoc, zCt_F (p := (fun b => rY s k b == l)) (by simp [c_11, f_11, c_25, f_25, c_37])]) (by rfl) ?_
                exact ih17 (j + 1) (by omega) (by omega)
              · skip
                refine z_iconst (v := nI 1) dX10_cellsWith_40 (by decide) ?_
                refine z_goto (tgt := 45) dX10_cellsWith_41 (by decide) ?_
                refine z_iaddN (a := zSN (fun y => zCt (fun b => rY s y b == l) c) k + zCt (fun b => rY s k b == l) j) (b := 1) dX10_cellsWith_45 ?_
                refine z_istore_n (lv' := [(2, .int (nI ((zSN (fun y => zCt (fun b => rY s y b == l) c) k + zCt (fun b => rY s k b == l) j) + 1))), (4, .int (nI j)), (3, .int (nI k)), (0, .ref 114), (1, .int l)]) dX10_cellsWith_46 rfl (by decide) rfl ?_
                refine z_iinc (v := nI (j + 1)) (lv' := [(4, .int (nI (j + 1))), (2, .int (nI ((zSN (fun y => zCt (fun b => rY s y b == l) c) k + zCt (fun b => rY s k b == l) j) + 1))), (3, .int (nI k)), (0, .ref 114), (1, .int l)]) 1 dX10_cellsWith_47 rfl (nI_1 _) (by decide) rfl ?_
                refine z_goto (tgt := 17) dX10_cellsWith_50 (by decide) ?_
                refine z_sub [0, 2, 1, 3, 4] (lv' := [(4, .int (nI (j + 1))), (3, .int (nI k)), (2, .int (nI ((zSN (fun y => zCt (fun b => rY s y b == l) c) k + zCt (fun b => rY s k b == l) j) + 1))), (0, .ref 114), (1, .int l)]) rfl ?_
                refine z_eqs (lv2 := [(4, .int (nI ((j + 1)))), (3, .int (nI k)), (2, .int (nI (zSN (fun y => zCt (fun b => rY s y b == l) c) k + zCt (fun b => rY s k b == l) (j + 1)))), (0, .ref 114), (1, .int l)]) (h2 := (zHp S X (s, past, aside, pasts, txt, typed, thrown, line, need, left, slits, slB, slF, slT, at9, wd9, got, ans, worst) out)) (by first | rw [Nat.add_assoc, zCt_T (p := (fun b => rY s k b == l)) (by simp [c_11, f_11, c_25, f_25, c_37])] | rw [Nat.add_assoc, zCt_F (p := (fun b => rY s k b == l)) (by simp [c_11, f_11, c_25, f_25, c_37])]) (by rfl) ?_
                exact ih17 (j + 1) (by omega) (by omega)
        refine z_sub [0, 1, 2, 3, 4] (lv' := [(4, .int (nI 0)), (3, .int (nI k)), (2, .int (nI (zSN (fun y => zCt (fun b => rY s y b == l) c) k))), (0, .ref 114), (1, .int l)]) rfl ?_
        refine z_eqs (lv2 := [(4, .int (nI 0)), (3, .int (nI k)), (2, .int (nI (zSN (fun y => zCt (fun b => rY s y b == l) c) k + zCt (fun b => rY s k b == l) 0))), (0, .ref 114), (1, .int l)]) (h2 := (zHp S X (s, past, aside, pasts, txt, typed, thrown, line, need, left, slits, slB, slF, slT, at9, wd9, got, ans, worst) out)) (by rfl) (by rfl) ?_
        exact L17_2 (c + 1) 0 (by omega) (by omega)
  refine z_sub [0, 1, 2, 3] (lv' := [(3, .int (nI 0)), (2, .int (nI 0)), (0, .ref 114), (1, .int l)]) rfl ?_
  refine z_eqs (lv2 := [(3, .int (nI 0)), (2, .int (nI (zSN (fun y => zCt (fun b => rY s y b == l) c) 0))), (0, .ref 114), (1, .int l)]) (h2 := (zHp S X (s, past, aside, pasts, txt, typed, thrown, line, need, left, slits, slB, slF, slT, at9, wd9, got, ans, worst) out)) (by rfl) (by rfl) ?_
  exact L4_1 (w + 1) 0 (by omega) (by omega)

set_option maxHeartbeats 4000000 in
set_option maxRecDepth 100000 in
theorem m_lotsOf {G : zT} {S : zS} {X : zXr} {out : Nat → Int64} {s : (Nat → Int32)} {past : (Nat → Int32)} {aside : (Nat → Int32)} {pasts : Nat} {txt : (Nat → Int32)} {typed : Nat} {thrown : Int32} {line : (Nat → Int32)} {need : (Nat → Int32)} {left : (Nat → Int32)} {slits : Nat} {slB : (Nat → Int32)} {slF : (Nat → Int32)} {slT : (Nat → Int32)} {at9 : Nat} {wd9 : Int32} {got : (Nat → Int32)} {ans : Int32} {worst : UInt32} (hG : zAl G = false) {c r w cnt lim : Nat} (hM : zMd s c r w cnt lim) (v : Int32) : zRun G mX10_lotsOf 0 0 [.ref 114, .int v] (zHp S X (s, past, aside, pasts, txt, typed, thrown, line, need, left, slits, slB, slF, slT, at9, wd9, got, ans, worst) out) (.inr (some (.int (nI (zCt (fun l => s (7 + 4 * l) == v) cnt))))) (zHp S X (s, past, aside, pasts, txt, typed, thrown, line, need, left, slits, slB, slF, slT, at9, wd9, got, ans, worst) out) := by
  have hM9 := hM
  obtain ⟨h0, h1, h2, h3, h4, hc1, hc, hr1, hr, hw, hn, hl⟩ := hM
  refine zRun_of (by decide +kernel) rfl rfl (Nat.le_of_ble_eq_true rfl) ?_
  suffices hs : ∀ (o9 : zO) (h9 : zH), (Sum.inr (some (.int (nI (zCt (fun l => s (7 + 4 * l) == v) cnt)))) : zO) = o9 → (zHp S X (s, past, aside, pasts, txt, typed, thrown, line, need, left, slits, slB, slF, slT, at9, wd9, got, ans, worst) out) = h9 → zPW G mX10_lotsOf 0 0 o9 h9 0 0 0 [(0, .ref 114), (1, .int v)] [] (zHp S X (s, past, aside, pasts, txt, typed, thrown, line, need, left, slits, slB, slF, slT, at9, wd9, got, ans, worst) out) from hs _ _ rfl rfl
  intro o9 h9 ho9 hh9
  refine z_iconst (v := nI 0) dX10_lotsOf_0 (by decide) ?_
  refine z_istore_n (lv' := [(2, .int (nI 0)), (0, .ref 114), (1, .int v)]) dX10_lotsOf_1 rfl (by decide) rfl ?_
  refine z_iconst (v := nI 0) dX10_lotsOf_2 (by decide) ?_
  refine z_istore_n (lv' := [(3, .int (nI 0)), (2, .int (nI 0)), (0, .ref 114), (1, .int v)]) dX10_lotsOf_3 rfl (by decide) rfl ?_
  have L4_1 : ∀ (d k : Nat), k ≤ cnt → cnt + 1 ≤ k + d → zPW G mX10_lotsOf 0 0 o9 h9 0 0 4 [(3, .int (nI k)), (2, .int (nI (zCt (fun l => s (7 + 4 * l) == v) k))), (0, .ref 114), (1, .int v)] [] (zHp S X (s, past, aside, pasts, txt, typed, thrown, line, need, left, slits, slB, slF, slT, at9, wd9, got, ans, worst) out) := by
    intro d
    induction d with
    | zero => intro k hk hd; exact absurd hd (by omega)
    | succ d ih =>
      intro k hk_k hd_k
      have ih4 := ih
      clear ih
      refine z_iload_n 0 dX10_lotsOf_4 rfl rfl ?_
      refine z_aload_n 2 dX10_lotsOf_5 rfl rfl ?_
      refine z_get (v := .ref 115) 0 zgo_114 rfl inX10 (by decide) zw_1178 rfl rfl dX10_lotsOf_6 ?_
      refine z_iconst (v := nI 3) dX10_lotsOf_9 (by decide) ?_
      refine z_ialdN (f := s) (n := 1371) (j := 3) zga_115 (by omega) (by decide) dX10_lotsOf_10 ?_
      refine z_top (v2 := .int (nI cnt)) (by rw [h3]) ?_
      refine z_icmp_ge (tgt := 38) dX10_lotsOf_11 (by decide) (fun c_11 => ?_) (fun c_11 => ?_)
      · skip
        have f_11 := m_le (by omega) (by omega) c_11
        have e_k : k = cnt := by omega
        rw [e_k]
        refine z_iload_n 1 dX10_lotsOf_38 rfl rfl ?_
        exact z_iret rfl dX10_lotsOf_39 (zo_i ho9 (by rfl)) (zo_h hh9 (by rfl)) (Nat.zero_le _) (Nat.zero_le _)
      · skip
        have f_11 := m_nle (by omega) (by omega) c_11
        refine z_iload_n 1 dX10_lotsOf_14 rfl rfl ?_
        refine z_aload_n 2 dX10_lotsOf_15 rfl rfl ?_
        refine z_iload_n 0 dX10_lotsOf_16 rfl rfl ?_
        refine z_iconst (v := nI 0) dX10_lotsOf_17 (by decide) ?_
        refine z_callV (N := mX10_its) 2 [.int (nI k), .int (nI 0)] [.int (nI (zCt (fun l => s (7 + 4 * l) == v) k))] lX10_its ⟨zw_1380, zw_1382, zw_68⟩ rfl zgo_114 rfl rfl (Nat.le_of_ble_eq_true rfl) (by decide) ⟨zlt, zlt⟩ ⟨Nat.zero_le _, Nat.zero_le _⟩ (fun _ => rfl) (m_itsN hG k 0 (by omega) (by omega)) dX10_lotsOf_18 ?_
        refine z_top (v2 := .int (s (7 + 4 * k))) (by rfl) ?_
        refine z_iload_n 3 dX10_lotsOf_21 rfl rfl ?_
        refine z_icmp_ne (tgt := 29) dX10_lotsOf_22 (by decide) (fun c_22 => ?_) (fun c_22 => ?_)
        · skip
          refine z_iconst (v := nI 0) dX10_lotsOf_29 (by decide) ?_
          refine z_iaddN (a := zCt (fun l => s (7 + 4 * l) == v) k) (b := 0) dX10_lotsOf_30 ?_
          refine z_istore_n (lv' := [(2, .int (nI ((zCt (fun l => s (7 + 4 * l) == v) k) + 0))), (3, .int (nI k)), (0, .ref 114), (1, .int v)]) dX10_lotsOf_31 rfl (by decide) rfl ?_
          refine z_iinc (v := nI (k + 1)) (lv' := [(3, .int (nI (k + 1))), (2, .int (nI ((zCt (fun l => s (7 + 4 * l) == v) k) + 0))), (0, .ref 114), (1, .int v)]) 1 dX10_lotsOf_32 rfl (nI_1 _) (by decide) rfl ?_
          refine z_goto (tgt := 4) dX10_lotsOf_35 (by decide) ?_
          refine z_sub [0, 1, 2, 3] (lv' := [(3, .int (nI (k + 1))), (2, .int (nI ((zCt (fun l => s (7 + 4 * l) == v) k) + 0))), (0, .ref 114), (1, .int v)]) rfl ?_
          refine z_eqs (lv2 := [(3, .int (nI ((k + 1)))), (2, .int (nI (zCt (fun l => s (7 + 4 * l) == v) (k + 1)))), (0, .ref 114), (1, .int v)]) (h2 := (zHp S X (s, past, aside, pasts, txt, typed, thrown, line, need, left, slits, slB, slF, slT, at9, wd9, got, ans, worst) out)) (by first | rw [zCt_T (p := (fun l => s (7 + 4 * l) == v)) (by simp [c_11, f_11, c_22])] | rw [zCt_F (p := (fun l => s (7 + 4 * l) == v)) (by simp [c_11, f_11, c_22])]) (by rfl) ?_
          exact ih4 (k + 1) (by omega) (by omega)
        · skip
          refine z_iconst (v := nI 1) dX10_lotsOf_25 (by decide) ?_
          refine z_goto (tgt := 30) dX10_lotsOf_26 (by decide) ?_
          refine z_iaddN (a := zCt (fun l => s (7 + 4 * l) == v) k) (b := 1) dX10_lotsOf_30 ?_
          refine z_istore_n (lv' := [(2, .int (nI ((zCt (fun l => s (7 + 4 * l) == v) k) + 1))), (3, .int (nI k)), (0, .ref 114), (1, .int v)]) dX10_lotsOf_31 rfl (by decide) rfl ?_
          refine z_iinc (v := nI (k + 1)) (lv' := [(3, .int (nI (k + 1))), (2, .int (nI ((zCt (fun l => s (7 + 4 * l) == v) k) + 1))), (0, .ref 114), (1, .int v)]) 1 dX10_lotsOf_32 rfl (nI_1 _) (by decide) rfl ?_
          refine z_goto (tgt := 4) dX10_lotsOf_35 (by decide) ?_
          refine z_sub [0, 1, 2, 3] (lv' := [(3, .int (nI (k + 1))), (2, .int (nI ((zCt (fun l => s (7 + 4 * l) == v) k) + 1))), (0, .ref 114), (1, .int v)]) rfl ?_
          refine z_eqs (lv2 := [(3, .int (nI ((k + 1)))), (2, .int (nI (zCt (fun l => s (7 + 4 * l) == v) (k + 1)))), (0, .ref 114), (1, .int v)]) (h2 := (zHp S X (s, past, aside, pasts, txt, typed, thrown, line, need, left, slits, slB, slF, slT, at9, wd9, got, ans, worst) out)) (by first | rw [zCt_T (p := (fun l => s (7 + 4 * l) == v)) (by simp [c_11, f_11, c_22])] | rw [zCt_F (p := (fun l => s (7 + 4 * l) == v)) (by simp [c_11, f_11, c_22])]) (by rfl) ?_
          exact ih4 (k + 1) (by omega) (by omega)
  refine z_sub [0, 1, 2, 3] (lv' := [(3, .int (nI 0)), (2, .int (nI 0)), (0, .ref 114), (1, .int v)]) rfl ?_
  refine z_eqs (lv2 := [(3, .int (nI 0)), (2, .int (nI (zCt (fun l => s (7 + 4 * l) == v) 0))), (0, .ref 114), (1, .int v)]) (h2 := (zHp S X (s, past, aside, pasts, txt, typed, thrown, line, need, left, slits, slB, slF, slT, at9, wd9, got, ans, worst) out)) (by rfl) (by rfl) ?_
  exact L4_1 (cnt + 1) 0 (by omega) (by omega)

set_option maxHeartbeats 4000000 in
set_option maxRecDepth 100000 in
theorem m_planted {G : zT} {S : zS} {X : zXr} {out : Nat → Int64} {s : (Nat → Int32)} {past : (Nat → Int32)} {aside : (Nat → Int32)} {pasts : Nat} {txt : (Nat → Int32)} {typed : Nat} {thrown : Int32} {line : (Nat → Int32)} {need : (Nat → Int32)} {left : (Nat → Int32)} {slits : Nat} {slB : (Nat → Int32)} {slF : (Nat → Int32)} {slT : (Nat → Int32)} {at9 : Nat} {wd9 : Int32} {got : (Nat → Int32)} {ans : Int32} {worst : UInt32} (hG : zAl G = false) {c r w cnt lim : Nat} (hM : zMd s c r w cnt lim) : zRun G mX10_planted 0 0 [.ref 114] (zHp S X (s, past, aside, pasts, txt, typed, thrown, line, need, left, slits, slB, slF, slT, at9, wd9, got, ans, worst) out) (.inr (some (.int (nI (zCt (fun b => !decide (s (71 + b) < 0)) c))))) (zHp S X (s, past, aside, pasts, txt, typed, thrown, line, need, left, slits, slB, slF, slT, at9, wd9, got, ans, worst) out) := by
  have hM9 := hM
  obtain ⟨h0, h1, h2, h3, h4, hc1, hc, hr1, hr, hw, hn, hl⟩ := hM
  refine zRun_of (by decide +kernel) rfl rfl (Nat.le_of_ble_eq_true rfl) ?_
  suffices hs : ∀ (o9 : zO) (h9 : zH), (Sum.inr (some (.int (nI (zCt (fun b => !decide (s (71 + b) < 0)) c)))) : zO) = o9 → (zHp S X (s, past, aside, pasts, txt, typed, thrown, line, need, left, slits, slB, slF, slT, at9, wd9, got, ans, worst) out) = h9 → zPW G mX10_planted 0 0 o9 h9 0 0 0 [(0, .ref 114)] [] (zHp S X (s, past, aside, pasts, txt, typed, thrown, line, need, left, slits, slB, slF, slT, at9, wd9, got, ans, worst) out) from hs _ _ rfl rfl
  intro o9 h9 ho9 hh9
  refine z_iconst (v := nI 0) dX10_planted_0 (by decide) ?_
  refine z_istore_n (lv' := [(1, .int (nI 0)), (0, .ref 114)]) dX10_planted_1 rfl (by decide) rfl ?_
  refine z_iconst (v := nI 0) dX10_planted_2 (by decide) ?_
  refine z_istore_n (lv' := [(2, .int (nI 0)), (1, .int (nI 0)), (0, .ref 114)]) dX10_planted_3 rfl (by decide) rfl ?_
  have L4_1 : ∀ (d k : Nat), k ≤ c → c + 1 ≤ k + d → zPW G mX10_planted 0 0 o9 h9 0 0 4 [(2, .int (nI k)), (1, .int (nI (zCt (fun b => !decide (s (71 + b) < 0)) k))), (0, .ref 114)] [] (zHp S X (s, past, aside, pasts, txt, typed, thrown, line, need, left, slits, slB, slF, slT, at9, wd9, got, ans, worst) out) := by
    intro d
    induction d with
    | zero => intro k hk hd; exact absurd hd (by omega)
    | succ d ih =>
      intro k hk_k hd_k
      have ih4 := ih
      clear ih
      refine z_iload_n 0 dX10_planted_4 rfl rfl ?_
      refine z_aload_n 2 dX10_planted_5 rfl rfl ?_
      refine z_get (v := .ref 115) 0 zgo_114 rfl inX10 (by decide) zw_1178 rfl rfl dX10_planted_6 ?_
      refine z_iconst (v := nI 0) dX10_planted_9 (by decide) ?_
      refine z_ialdN (f := s) (n := 1371) (j := 0) zga_115 (by omega) (by decide) dX10_planted_10 ?_
      refine z_top (v2 := .int (nI c)) (by rw [h0]) ?_
      refine z_icmp_ge (tgt := 40) dX10_planted_11 (by decide) (fun c_11 => ?_) (fun c_11 => ?_)
      · skip
        have f_11 := m_le (by omega) (by omega) c_11
        have e_k : k = c := by omega
        rw [e_k]
        refine z_iload_n 1 dX10_planted_40 rfl rfl ?_
        exact z_iret rfl dX10_planted_41 (zo_i ho9 (by rfl)) (zo_h hh9 (by rfl)) (Nat.zero_le _) (Nat.zero_le _)
      · skip
        have f_11 := m_nle (by omega) (by omega) c_11
        refine z_iload_n 1 dX10_planted_14 rfl rfl ?_
        refine z_aload_n 2 dX10_planted_15 rfl rfl ?_
        refine z_get (v := .ref 115) 0 zgo_114 rfl inX10 (by decide) zw_1178 rfl rfl dX10_planted_16 ?_
        refine z_bipush (v := nI 71) dX10_planted_19 (by decide) ?_
        refine z_iload_n 0 dX10_planted_21 rfl rfl ?_
        refine z_iaddN (a := 71) (b := k) dX10_planted_22 ?_
        refine z_ialdN (f := s) (n := 1371) (j := 71 + k) zga_115 (by omega) (by decide) dX10_planted_23 ?_
        refine z_if_ge (tgt := 31) dX10_planted_24 (by decide) (fun c_24 => ?_) (fun c_24 => ?_)
        · skip
          have g_24 := Int32.not_lt.mpr c_24
          refine z_iconst (v := nI 1) dX10_planted_31 (by decide) ?_
          refine z_iaddN (a := zCt (fun b => !decide (s (71 + b) < 0)) k) (b := 1) dX10_planted_32 ?_
          refine z_istore_n (lv' := [(1, .int (nI ((zCt (fun b => !decide (s (71 + b) < 0)) k) + 1))), (2, .int (nI k)), (0, .ref 114)]) dX10_planted_33 rfl (by decide) rfl ?_
          refine z_iinc (v := nI (k + 1)) (lv' := [(2, .int (nI (k + 1))), (1, .int (nI ((zCt (fun b => !decide (s (71 + b) < 0)) k) + 1))), (0, .ref 114)]) 1 dX10_planted_34 rfl (nI_1 _) (by decide) rfl ?_
          refine z_goto (tgt := 4) dX10_planted_37 (by decide) ?_
          refine z_sub [0, 1, 2] (lv' := [(2, .int (nI (k + 1))), (1, .int (nI ((zCt (fun b => !decide (s (71 + b) < 0)) k) + 1))), (0, .ref 114)]) rfl ?_
          refine z_eqs (lv2 := [(2, .int (nI ((k + 1)))), (1, .int (nI (zCt (fun b => !decide (s (71 + b) < 0)) (k + 1)))), (0, .ref 114)]) (h2 := (zHp S X (s, past, aside, pasts, txt, typed, thrown, line, need, left, slits, slB, slF, slT, at9, wd9, got, ans, worst) out)) (by first | rw [zCt_T (p := (fun b => !decide (s (71 + b) < 0))) (by simp [c_11, f_11, c_24, g_24])] | rw [zCt_F (p := (fun b => !decide (s (71 + b) < 0))) (by simp [c_11, f_11, c_24, g_24])]) (by rfl) ?_
          exact ih4 (k + 1) (by omega) (by omega)
        · skip
          have g_24 := Int32.not_le.mp c_24
          refine z_iconst (v := nI 0) dX10_planted_27 (by decide) ?_
          refine z_goto (tgt := 32) dX10_planted_28 (by decide) ?_
          refine z_iaddN (a := zCt (fun b => !decide (s (71 + b) < 0)) k) (b := 0) dX10_planted_32 ?_
          refine z_istore_n (lv' := [(1, .int (nI ((zCt (fun b => !decide (s (71 + b) < 0)) k) + 0))), (2, .int (nI k)), (0, .ref 114)]) dX10_planted_33 rfl (by decide) rfl ?_
          refine z_iinc (v := nI (k + 1)) (lv' := [(2, .int (nI (k + 1))), (1, .int (nI ((zCt (fun b => !decide (s (71 + b) < 0)) k) + 0))), (0, .ref 114)]) 1 dX10_planted_34 rfl (nI_1 _) (by decide) rfl ?_
          refine z_goto (tgt := 4) dX10_planted_37 (by decide) ?_
          refine z_sub [0, 1, 2] (lv' := [(2, .int (nI (k + 1))), (1, .int (nI ((zCt (fun b => !decide (s (71 + b) < 0)) k) + 0))), (0, .ref 114)]) rfl ?_
          refine z_eqs (lv2 := [(2, .int (nI ((k + 1)))), (1, .int (nI (zCt (fun b => !decide (s (71 + b) < 0)) (k + 1)))), (0, .ref 114)]) (h2 := (zHp S X (s, past, aside, pasts, txt, typed, thrown, line, need, left, slits, slB, slF, slT, at9, wd9, got, ans, worst) out)) (by first | rw [zCt_T (p := (fun b => !decide (s (71 + b) < 0))) (by simp [c_11, f_11, c_24, g_24])] | rw [zCt_F (p := (fun b => !decide (s (71 + b) < 0))) (by simp [c_11, f_11, c_24, g_24])]) (by rfl) ?_
          exact ih4 (k + 1) (by omega) (by omega)
  refine z_sub [0, 1, 2] (lv' := [(2, .int (nI 0)), (1, .int (nI 0)), (0, .ref 114)]) rfl ?_
  refine z_eqs (lv2 := [(2, .int (nI 0)), (1, .int (nI (zCt (fun b => !decide (s (71 + b) < 0)) 0))), (0, .ref 114)]) (h2 := (zHp S X (s, past, aside, pasts, txt, typed, thrown, line, need, left, slits, slB, slF, slT, at9, wd9, got, ans, worst) out)) (by rfl) (by rfl) ?_
  exact L4_1 (c + 1) 0 (by omega) (by omega)

