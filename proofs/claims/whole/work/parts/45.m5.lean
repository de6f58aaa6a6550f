def rAd (s : Nat → Int32) (cnt : Nat) (v l sh : Int32) : Nat → Int32 := upd (upd (upd (upd (upd s (7 + 4 * cnt) v) (7 + 4 * cnt + 1) l) (7 + 4 * cnt + 2) l) (7 + 4 * cnt + 3) sh) 3 (nI (cnt + 1))

set_option maxHeartbeats 4000000 in
set_option maxRecDepth 100000 in
theorem m_adds {G : zT} {S : zS} {X : zXr} {out : Nat → Int64} {s : (Nat → Int32)} {past : (Nat → Int32)} {aside : (Nat → Int32)} {pasts : Nat} {txt : (Nat → Int32)} {typed : Nat} {thrown : Int32} {line : (Nat → Int32)} {need : (Nat → Int32)} {left : (Nat → Int32)} {slits : Nat} {slB : (Nat → Int32)} {slF : (Nat → Int32)} {slT : (Nat → Int32)} {at9 : Nat} {wd9 : Int32} {got : (Nat → Int32)} {ans : Int32} {worst : UInt32} (hG : zAl G = false) {c r w cnt lim : Nat} (hM : zMd s c r w cnt lim) (v l sh : Int32) (hok : (zFr (nI 0) v (nI 7) && (zFr (nI 1) l (nI 999) && rShd sh)) = true) (hn16 : cnt < 16) : zRun G mX10_adds 0 0 [.ref 114, .int v, .int l, .int sh] (zHp S X (s, past, aside, pasts, txt, typed, thrown, line, need, left, slits, slB, slF, slT, at9, wd9, got, ans, worst) out) (.inr (some (.int (nI 0)))) (zHp S X ((rAd s cnt v l sh), past, aside, pasts, txt, typed, thrown, line, need, left, slits, slB, slF, slT, at9, wd9, got, (nI cnt), worst) out) := by
  have hM9 := hM
  obtain ⟨h0, h1, h2, h3, h4, hc1, hc, hr1, hr, hw, hn, hl⟩ := hM
  rw [Bool.and_eq_true, Bool.and_eq_true] at hok
  refine zRun_of (by decide +kernel) rfl rfl (Nat.le_of_ble_eq_true rfl) ?_
  suffices hs : ∀ (o9 : zO) (h9 : zH), (Sum.inr (some (.int (nI 0))) : zO) = o9 → (zHp S X ((rAd s cnt v l sh), past, aside, pasts, txt, typed, thrown, line, need, left, slits, slB, slF, slT, at9, wd9, got, (nI cnt), worst) out) = h9 → zPW G mX10_adds 0 0 o9 h9 0 0 0 [(0, .ref 114), (1, .int v), (2, .int l), (3, .int sh)] [] (zHp S X (s, past, aside, pasts, txt, typed, thrown, line, need, left, slits, slB, slF, slT, at9, wd9, got, ans, worst) out) from hs _ _ rfl rfl
  intro o9 h9 ho9 hh9
  refine z_iload_n 1 dX10_adds_0 rfl rfl ?_
  refine z_iconst (v := nI 0) dX10_adds_1 (by decide) ?_
  refine z_bipush (v := nI 7) dX10_adds_2 (by decide) ?_
  refine z_callS (N := mX10_in) 3 [.int v, .int (nI 0), .int (nI 7)] [] lX10_in ⟨zw_1252, zw_1253⟩ rfl rfl rfl (Nat.le_of_ble_eq_true rfl) (by decide) ⟨zlt, zlt⟩ hG ⟨Nat.zero_le _, Nat.zero_le _⟩ (m_in hG v (nI 0) (nI 7)) dX10_adds_4 ?_
  refine z_if_eq (tgt := 28) dX10_adds_7 (by decide) (fun c_7 => ?_) (fun c_7 => ?_)
  · exfalso; rw [hok.1] at c_7; exact absurd c_7 (by decide)
  · skip
    have b_7 := zB_tt c_7
    refine z_iload_n 2 dX10_adds_10 rfl rfl ?_
    refine z_iconst (v := nI 1) dX10_adds_11 (by decide) ?_
    refine z_sipush (v := nI 999) dX10_adds_12 (by decide) ?_
    refine z_callS (N := mX10_in) 3 [.int l, .int (nI 1), .int (nI 999)] [] lX10_in ⟨zw_1252, zw_1253⟩ rfl rfl rfl (Nat.le_of_ble_eq_true rfl) (by decide) ⟨zlt, zlt⟩ hG ⟨Nat.zero_le _, Nat.zero_le _⟩ (m_in hG l (nI 1) (nI 999)) dX10_adds_15 ?_
    refine z_if_eq (tgt := 28) dX10_adds_18 (by decide) (fun c_18 => ?_) (fun c_18 => ?_)
    · exfalso; rw [hok.2.1] at c_18; exact absurd c_18 (by decide)
    · skip
      have b_18 := zB_tt c_18
      refine z_iload_n 3 dX10_adds_21 rfl rfl ?_
      refine z_callS (N := mX10_isShade) 1 [.int sh] [] lX10_isShade ⟨zw_1291, zw_1292⟩ rfl rfl rfl (Nat.le_of_ble_eq_true rfl) (by decide) ⟨zlt, zlt⟩ hG ⟨Nat.zero_le _, Nat.zero_le _⟩ (m_isShade hG sh) dX10_adds_22 ?_
      refine z_if_ne (tgt := 30) dX10_adds_25 (by decide) (fun c_25 => ?_) (fun c_25 => ?_)
      · skip
        have b_25 := zB_tt c_25
        refine z_aload_n 0 dX10_adds_30 rfl rfl ?_
        refine z_get (v := .ref 115) 0 zgo_114 rfl inX10 (by decide) zw_1178 rfl rfl dX10_adds_31 ?_
        refine z_iconst (v := nI 3) dX10_adds_34 (by decide) ?_
        refine z_ialdN (f := s) (n := 1371) (j := 3) zga_115 (by omega) (by decide) dX10_adds_35 ?_
        refine z_top (v2 := .int (nI cnt)) (by rw [h3]) ?_
        refine z_bipush (v := nI 16) dX10_adds_36 (by decide) ?_
        refine z_icmp_ne (tgt := 43) dX10_adds_38 (by decide) (fun c_38 => ?_) (fun c_38 => ?_)
        · skip
          have f_38 := m_ne (by omega) (by omega) c_38
          refine z_aload_n 0 dX10_adds_43 rfl rfl ?_
          refine z_aload_n 0 dX10_adds_44 rfl rfl ?_
          refine z_get (v := .ref 115) 0 zgo_114 rfl inX10 (by decide) zw_1178 rfl rfl dX10_adds_45 ?_
          refine z_iconst (v := nI 3) dX10_adds_48 (by decide) ?_
          refine z_ialdN (f := s) (n := 1371) (j := 3) zga_115 (by omega) (by decide) dX10_adds_49 ?_
          refine z_top (v2 := .int (nI cnt)) (by rw [h3]) ?_
          refine z_puti 17 tyX10 zgo_114 rfl inX10 tyX10_ok nmX10 (by decide) zw_1195 rfl rfl (by decide +kernel) (Nat.le_of_ble_eq_true rfl) dX10_adds_50 ?_
          refine z_eqh (h2 := (zHp S X (s, past, aside, pasts, txt, typed, thrown, line, need, left, slits, slB, slF, slT, at9, wd9, got, (nI cnt), worst) out)) zsf_114_17 ?_
          refine z_bipush (v := nI 7) dX10_adds_53 (by decide) ?_
          refine z_iconst (v := nI 4) dX10_adds_55 (by decide) ?_
          refine z_aload_n 0 dX10_adds_56 rfl rfl ?_
          refine z_get (v := .ref 115) 0 zgo_114 rfl inX10 (by decide) zw_1178 rfl rfl dX10_adds_57 ?_
          refine z_iconst (v := nI 3) dX10_adds_60 (by decide) ?_
          refine z_ialdN (f := s) (n := 1371) (j := 3) zga_115 (by omega) (by decide) dX10_adds_61 ?_
          refine z_top (v2 := .int (nI cnt)) (by rw [h3]) ?_
          refine z_imulN (a := 4) (b := cnt) dX10_adds_62 ?_
          refine z_iaddN (a := 7) (b := 4 * cnt) dX10_adds_63 ?_
          refine z_istore (lv' := [(4, .int (nI (7 + 4 * cnt))), (0, .ref 114), (1, .int v), (2, .int l), (3, .int sh)]) dX10_adds_64 (by decide) rfl ?_
          refine z_aload_n 1 dX10_adds_66 rfl rfl ?_
          refine z_get (v := .ref 115) 0 zgo_114 rfl inX10 (by decide) zw_1178 rfl rfl dX10_adds_67 ?_
          refine z_iload 0 dX10_adds_70 rfl ?_
          refine z_iload_n 2 dX10_adds_72 rfl rfl ?_
          refine z_iastN (f := s) (n := 1371) (j := 7 + 4 * cnt) zga_115 (by omega) (by decide) dX10_adds_73 ?_
          refine z_eqh (h2 := (zHp S X ((upd s (7 + 4 * cnt) v), past, aside, pasts, txt, typed, thrown, line, need, left, slits, slB, slF, slT, at9, wd9, got, (nI cnt), worst) out)) zsa_115 ?_
          refine z_aload_n 1 dX10_adds_74 rfl rfl ?_
          refine z_get (v := .ref 115) 0 zgo_114 rfl inX10 (by decide) zw_1178 rfl rfl dX10_adds_75 ?_
          refine z_iload 0 dX10_adds_78 rfl ?_
          refine z_iconst (v := nI 1) dX10_adds_80 (by decide) ?_
          refine z_iaddN (a := 7 + 4 * cnt) (b := 1) dX10_adds_81 ?_
          refine z_iload_n 3 dX10_adds_82 rfl rfl ?_
          refine z_iastN (f := (upd s (7 + 4 * cnt) v)) (n := 1371) (j := 7 + 4 * cnt + 1) zga_115 (by omega) (by decide) dX10_adds_83 ?_
          refine z_eqh (h2 := (zHp S X ((upd (upd s (7 + 4 * cnt) v) (7 + 4 * cnt + 1) l), past, aside, pasts, txt, typed, thrown, line, need, left, slits, slB, slF, slT, at9, wd9, got, (nI cnt), worst) out)) zsa_115 ?_
          refine z_aload_n 1 dX10_adds_84 rfl rfl ?_
          refine z_get (v := .ref 115) 0 zgo_114 rfl inX10 (by decide) zw_1178 rfl rfl dX10_adds_85 ?_
          refine z_iload 0 dX10_adds_88 rfl ?_
          refine z_iconst (v := nI 2) dX10_adds_90 (by decide) ?_
          refine z_iaddN (a := 7 + 4 * cnt) (b := 2) dX10_adds_91 ?_
          refine z_iload_n 3 dX10_adds_92 rfl rfl ?_
          refine z_iastN (f := (upd (upd s (7 + 4 * cnt) v) (7 + 4 * cnt + 1) l)) (n := 1371) (j := 7 + 4 * cnt + 2) zga_115 (by omega) (by decide) dX10_adds_93 ?_
          refine z_eqh (h2 := (zHp S X ((upd (upd (upd s (7 + 4 * cnt) v) (7 + 4 * cnt + 1) l) (7 + 4 * cnt + 2) l), past, aside, pasts, txt, typed, thrown, line, need, left, slits, slB, slF, slT, at9, wd9, got, (nI cnt), worst) out)) zsa_115 ?_
          refine z_aload_n 1 dX10_adds_94 rfl rfl ?_
          refine z_get (v := .ref 115) 0 zgo_114 rfl inX10 (by decide) zw_1178 rfl rfl dX10_adds_95 ?_
          refine z_iload 0 dX10_adds_98 rfl ?_
          refine z_iconst (v := nI 3) dX10_adds_100 (by decide) ?_
          refine z_iaddN (a := 7 + 4 * cnt) (b := 3) dX10_adds_101 ?_
          refine z_iload_n 4 dX10_adds_102 rfl rfl ?_
          refine z_iastN (f := (upd (upd (upd s (7 + 4 * cnt) v) (7 + 4 * cnt + 1) l) (7 + 4 * cnt + 2) l)) (n := 1371) (j := 7 + 4 * cnt + 3) zga_115 (by omega) (by decide) dX10_adds_103 ?_
          refine z_eqh (h2 := (zHp S X ((upd (upd (upd (upd s (7 + 4 * cnt) v) (7 + 4 * cnt + 1) l) (7 + 4 * cnt + 2) l) (7 + 4 * cnt + 3) sh), past, aside, pasts, txt, typed, thrown, line, need, left, slits, slB, slF, slT, at9, wd9, got, (nI cnt), worst) out)) zsa_115 ?_
          refine z_aload_n 1 dX10_adds_104 rfl rfl ?_
          refine z_get (v := .ref 115) 0 zgo_114 rfl inX10 (by decide) zw_1178 rfl rfl dX10_adds_105 ?_
          refine z_iconst (v := nI 3) dX10_adds_108 (by decide) ?_
          refine z_dup2 dX10_adds_109 rfl rfl ?_
          refine z_ialdN (f := (upd (upd (upd (upd s (7 + 4 * cnt) v) (7 + 4 * cnt + 1) l) (7 + 4 * cnt + 2) l) (7 + 4 * cnt + 3) sh)) (n := 1371) (j := 3) zga_115 (by omega) (by decide) dX10_adds_110 ?_
          refine z_top (v2 := .int (nI cnt)) (by show Value.int (upd _ _ _ 3) = _; unfold upd; rw [if_neg (by omega), if_neg (by omega), if_neg (by omega), if_neg (by omega), h3]) ?_
          refine z_iconst (v := nI 1) dX10_adds_111 (by decide) ?_
          refine z_iaddN (a := cnt) (b := 1) dX10_adds_112 ?_
          refine z_iastN (f := (upd (upd (upd (upd s (7 + 4 * cnt) v) (7 + 4 * cnt + 1) l) (7 + 4 * cnt + 2) l) (7 + 4 * cnt + 3) sh)) (n := 1371) (j := 3) zga_115 (by omega) (by decide) dX10_adds_113 ?_
          refine z_eqh (h2 := (zHp S X ((upd (upd (upd (upd (upd s (7 + 4 * cnt) v) (7 + 4 * cnt + 1) l) (7 + 4 * cnt + 2) l) (7 + 4 * cnt + 3) sh) 3 (nI (cnt + 1))), past, aside, pasts, txt, typed, thrown, line, need, left, slits, slB, slF, slT, at9, wd9, got, (nI cnt), worst) out)) zsa_115 ?_
          refine z_iconst (v := nI 0) dX10_adds_114 (by decide) ?_
          exact z_iret rfl dX10_adds_115 (zo_i ho9 (by rfl)) (zo_h hh9 (by rfl)) (Nat.zero_le _) (Nat.zero_le _)
        · exfalso; have := m_eq (by omega) (by omega) c_38; omega
      · exfalso; rw [hok.2.2] at c_25; exact absurd c_25 (by decide)

set_option maxHeartbeats 4000000 in
set_option maxRecDepth 100000 in
theorem m_adds_1 {G : zT} {S : zS} {X : zXr} {out : Nat → Int64} {s : (Nat → Int32)} {past : (Nat → Int32)} {aside : (Nat → Int32)} {pasts : Nat} {txt : (Nat → Int32)} {typed : Nat} {thrown : Int32} {line : (Nat → Int32)} {need : (Nat → Int32)} {left : (Nat → Int32)} {slits : Nat} {slB : (Nat → Int32)} {slF : (Nat → Int32)} {slT : (Nat → Int32)} {at9 : Nat} {wd9 : Int32} {got : (Nat → Int32)} {ans : Int32} {worst : UInt32} (hG : zAl G = false) {c r w cnt lim : Nat} (hM : zMd s c r w cnt lim) (v l sh : Int32) (hok : (zFr (nI 0) v (nI 7) && (zFr (nI 1) l (nI 999) && rShd sh)) = false) : zRun G mX10_adds 0 0 [.ref 114, .int v, .int l, .int sh] (zHp S X (s, past, aside, pasts, txt, typed, thrown, line, need, left, slits, slB, slF, slT, at9, wd9, got, ans, worst) out) (.inr (some (.int (nI 1)))) (zHp S X (s, past, aside, pasts, txt, typed, thrown, line, need, left, slits, slB, slF, slT, at9, wd9, got, ans, worst) out) := by
  have hM9 := hM
  obtain ⟨h0, h1, h2, h3, h4, hc1, hc, hr1, hr, hw, hn, hl⟩ := hM
  refine zRun_of (by decide +kernel) rfl rfl (Nat.le_of_ble_eq_true rfl) ?_
  suffices hs : ∀ (o9 : zO) (h9 : zH), (Sum.inr (some (.int (nI 1))) : zO) = o9 → (zHp S X (s, past, aside, pasts, txt, typed, thrown, line, need, left, slits, slB, slF, slT, at9, wd9, got, ans, worst) out) = h9 → zPW G mX10_adds 0 0 o9 h9 0 0 0 [(0, .ref 114), (1, .int v), (2, .int l), (3, .int sh)] [] (zHp S X (s, past, aside, pasts, txt, typed, thrown, line, need, left, slits, slB, slF, slT, at9, wd9, got, ans, worst) out) from hs _ _ rfl rfl
  intro o9 h9 ho9 hh9
  refine z_iload_n 1 dX10_adds_0 rfl rfl ?_
  refine z_iconst (v := nI 0) dX10_adds_1 (by decide) ?_
  refine z_bipush (v := nI 7) dX10_adds_2 (by decide) ?_
  refine z_callS (N := mX10_in) 3 [.int v, .int (nI 0), .int (nI 7)] [] lX10_in ⟨zw_1252, zw_1253⟩ rfl rfl rfl (Nat.le_of_ble_eq_true rfl) (by decide) ⟨zlt, zlt⟩ hG ⟨Nat.zero_le _, Nat.zero_le _⟩ (m_in hG v (nI 0) (nI 7)) dX10_adds_4 ?_
  refine z_if_eq (tgt := 28) dX10_adds_7 (by decide) (fun c_7 => ?_) (fun c_7 => ?_)
  · skip
    have b_7 := zB_0.mp c_7
    refine z_iconst (v := nI 1) dX10_adds_28 (by decide) ?_
    exact z_iret rfl dX10_adds_29 (zo_i ho9 (by rfl)) (zo_h hh9 (by rfl)) (Nat.zero_le _) (Nat.zero_le _)
  · skip
    have b_7 := zB_tt c_7
    refine z_iload_n 2 dX10_adds_10 rfl rfl ?_
    refine z_iconst (v := nI 1) dX10_adds_11 (by decide) ?_
    refine z_sipush (v := nI 999) dX10_adds_12 (by decide) ?_
    refine z_callS (N := mX10_in) 3 [.int l, .int (nI 1), .int (nI 999)] [] lX10_in ⟨zw_1252, zw_1253⟩ rfl rfl rfl (Nat.le_of_ble_eq_true rfl) (by decide) ⟨zlt, zlt⟩ hG ⟨Nat.zero_le _, Nat.zero_le _⟩ (m_in hG l (nI 1) (nI 999)) dX10_adds_15 ?_
    refine z_if_eq (tgt := 28) dX10_adds_18 (by decide) (fun c_18 => ?_) (fun c_18 => ?_)
    · skip
      have b_18 := zB_0.mp c_18
      refine z_iconst (v := nI 1) dX10_adds_28 (by decide) ?_
      exact z_iret rfl dX10_adds_29 (zo_i ho9 (by rfl)) (zo_h hh9 (by rfl)) (Nat.zero_le _) (Nat.zero_le _)
    · skip
      have b_18 := zB_tt c_18
      refine z_iload_n 3 dX10_adds_21 rfl rfl ?_
      refine z_callS (N := mX10_isShade) 1 [.int sh] [] lX10_isShade ⟨zw_1291, zw_1292⟩ rfl rfl rfl (Nat.le_of_ble_eq_true rfl) (by decide) ⟨zlt, zlt⟩ hG ⟨Nat.zero_le _, Nat.zero_le _⟩ (m_isShade hG sh) dX10_adds_22 ?_
      refine z_if_ne (tgt := 30) dX10_adds_25 (by decide) (fun c_25 => ?_) (fun c_25 => ?_)
      · exfalso; rw [zB_tt c_25, b_7, b_18] at hok; exact absurd hok (by decide)
      · skip
        have b_25 := zB_0.mp c_25
        refine z_iconst (v := nI 1) dX10_adds_28 (by decide) ?_
        exact z_iret rfl dX10_adds_29 (zo_i ho9 (by rfl)) (zo_h hh9 (by rfl)) (Nat.zero_le _) (Nat.zero_le _)

set_option maxHeartbeats 4000000 in
set_option maxRecDepth 100000 in
theorem m_adds_2 {G : zT} {S : zS} {X : zXr} {out : Nat → Int64} {s : (Nat → Int32)} {past : (Nat → Int32)} {aside : (Nat → Int32)} {pasts : Nat} {txt : (Nat → Int32)} {typed : Nat} {thrown : Int32} {line : (Nat → Int32)} {need : (Nat → Int32)} {left : (Nat → Int32)} {slits : Nat} {slB : (Nat → Int32)} {slF : (Nat → Int32)} {slT : (Nat → Int32)} {at9 : Nat} {wd9 : Int32} {got : (Nat → Int32)} {ans : Int32} {worst : UInt32} (hG : zAl G = false) {c r w cnt lim : Nat} (hM : zMd s c r w cnt lim) (v l sh : Int32) (hok : (zFr (nI 0) v (nI 7) && (zFr (nI 1) l (nI 999) && rShd sh)) = true) (hn16 : cnt = 16) : zRun G mX10_adds 0 0 [.ref 114, .int v, .int l, .int sh] (zHp S X (s, past, aside, pasts, txt, typed, thrown, line, need, left, slits, slB, slF, slT, at9, wd9, got, ans, worst) out) (.inr (some (.int (nI 2)))) (zHp S X (s, past, aside, pasts, txt, typed, thrown, line, need, left, slits, slB, slF, slT, at9, wd9, got, ans, worst) out) := by
  have hM9 := hM
  obtain ⟨h0, h1, h2, h3, h4, hc1, hc, hr1, hr, hw, hn, hl⟩ := hM
  rw [Bool.and_eq_true, Bool.and_eq_true] at hok
  refine zRun_of (by decide +kernel) rfl rfl (Nat.le_of_ble_eq_true rfl) ?_
  suffices hs : ∀ (o9 : zO) (h9 : zH), (Sum.inr (some (.int (nI 2))) : zO) = o9 → (zHp S X (s, past, aside, pasts, txt, typed, thrown, line, need, left, slits, slB, slF, slT, at9, wd9, got, ans, worst) out) = h9 → zPW G mX10_adds 0 0 o9 h9 0 0 0 [(0, .ref 114), (1, .int v), (2, .int l), (3, .int sh)] [] (zHp S X (s, past, aside, pasts, txt, typed, thrown, line, need, left, slits, slB, slF, slT, at9, wd9, got, ans, worst) out) from hs _ _ rfl rfl
  intro o9 h9 ho9 hh9
  refine z_iload_n 1 dX10_adds_0 rfl rfl ?_
  refine z_iconst (v := nI 0) dX10_adds_1 (by decide) ?_
  refine z_bipush (v := nI 7) dX10_adds_2 (by decide) ?_
  refine z_callS (N := mX10_in) 3 [.int v, .int (nI 0), .int (nI 7)] [] lX10_in ⟨zw_1252, zw_1253⟩ rfl rfl rfl (Nat.le_of_ble_eq_true rfl) (by decide) ⟨zlt, zlt⟩ hG ⟨Nat.zero_le _, Nat.zero_le _⟩ (m_in hG v (nI 0) (nI 7)) dX10_adds_4 ?_
  refine z_if_eq (tgt := 28) dX10_adds_7 (by decide) (fun c_7 => ?_) (fun c_7 => ?_)
  · exfalso; rw [hok.1] at c_7; exact absurd c_7 (by decide)
  · skip
    have b_7 := zB_tt c_7
    refine z_iload_n 2 dX10_adds_10 rfl rfl ?_
    refine z_iconst (v := nI 1) dX10_adds_11 (by decide) ?_
    refine z_sipush (v := nI 999) dX10_adds_12 (by decide) ?_
    refine z_callS (N := mX10_in) 3 [.int l, .int (nI 1), .int (nI 999)] [] lX10_in ⟨zw_1252, zw_1253⟩ rfl rfl rfl (Nat.le_of_ble_eq_true rfl) (by decide) ⟨zlt, zlt⟩ hG ⟨Nat.zero_le _, Nat.zero_le _⟩ (m_in hG l (nI 1) (nI 999)) dX10_adds_15 ?_
    refine z_if_eq (tgt := 28) dX10_adds_18 (by decide) (fun c_18 => ?_) (fun c_18 => ?_)
    · exfalso; rw [hok.2.1] at c_18; exact absurd c_18 (by decide)
    · skip
      have b_18 := zB_tt c_18
      refine z_iload_n 3 dX10_adds_21 rfl rfl ?_
      refine z_callS (N := mX10_isShade) 1 [.int sh] [] lX10_isShade ⟨zw_1291, zw_1292⟩ rfl rfl rfl (Nat.le_of_ble_eq_true rfl) (by decide) ⟨zlt, zlt⟩ hG ⟨Nat.zero_le _, Nat.zero_le _⟩ (m_isShade hG sh) dX10_adds_22 ?_
      refine z_if_ne (tgt := 30) dX10_adds_25 (by decide) (fun c_25 => ?_) (fun c_25 => ?_)
      · skip
        have b_25 := zB_tt c_25
        refine z_aload_n 0 dX10_adds_30 rfl rfl ?_
        refine z_get (v := .ref 115) 0 zgo_114 rfl inX10 (by decide) zw_1178 rfl rfl dX10_adds_31 ?_
        refine z_iconst (v := nI 3) dX10_adds_34 (by decide) ?_
        refine z_ialdN (f := s) (n := 1371) (j := 3) zga_115 (by omega) (by decide) dX10_adds_35 ?_
        refine z_top (v2 := .int (nI cnt)) (by rw [h3]) ?_
        refine z_bipush (v := nI 16) dX10_adds_36 (by decide) ?_
        refine z_icmp_ne (tgt := 43) dX10_adds_38 (by decide) (fun c_38 => ?_) (fun c_38 => ?_)
        · exfalso; exact c_38 (by rw [hn16])
        · skip
          refine z_iconst (v := nI 2) dX10_adds_41 (by decide) ?_
          exact z_iret rfl dX10_adds_42 (zo_i ho9 (by rfl)) (zo_h hh9 (by rfl)) (Nat.zero_le _) (Nat.zero_le _)
      · exfalso; rw [hok.2.2] at c_25; exact absurd c_25 (by decide)

set_option maxHeartbeats 4000000 in
set_option maxRecDepth 100000 in
theorem m_ends0 {G : zT} {S : zS} {X : zXr} {out : Nat → Int64} {s : (Nat → Int32)} {past : (Nat → Int32)} {aside : (Nat → Int32)} {pasts : Nat} {txt : (Nat → Int32)} {typed : Nat} {thrown : Int32} {line : (Nat → Int32)} {need : (Nat → Int32)} {left : (Nat → Int32)} {slits : Nat} {slB : (Nat → Int32)} {slF : (Nat → Int32)} {slT : (Nat → Int32)} {at9 : Nat} {wd9 : Int32} {got : (Nat → Int32)} {ans : Int32} {worst : UInt32} (hG : zAl G = false) (hp4 : pasts ≤ 4) : zRun G mX10_ends 0 0 [.ref 114, .int (nI 0)] (zHp S X (s, past, aside, pasts, txt, typed, thrown, line, need, left, slits, slB, slF, slT, at9, wd9, got, ans, worst) out) (.inr (some (.int ans))) (zHp S X (s, (rSv past aside pasts), aside, (min (pasts + 1) 4), txt, typed, (nI 0), line, need, left, slits, slB, slF, slT, at9, wd9, got, ans, worst) out) := by
  refine zRun_of (by decide +kernel) rfl rfl (Nat.le_of_ble_eq_true rfl) ?_
  suffices hs : ∀ (o9 : zO) (h9 : zH), (Sum.inr (some (.int ans)) : zO) = o9 → (zHp S X (s, (rSv past aside pasts), aside, (min (pasts + 1) 4), txt, typed, (nI 0), line, need, left, slits, slB, slF, slT, at9, wd9, got, ans, worst) out) = h9 → zPW G mX10_ends 0 0 o9 h9 0 0 0 [(0, .ref 114), (1, .int (nI 0))] [] (zHp S X (s, past, aside, pasts, txt, typed, thrown, line, need, left, slits, slB, slF, slT, at9, wd9, got, ans, worst) out) from hs _ _ rfl rfl
  intro o9 h9 ho9 hh9
  refine z_iload_n 1 dX10_ends_0 rfl rfl ?_
  refine z_if_le (tgt := 10) dX10_ends_1 (by decide) (fun c_1 => ?_) (fun c_1 => ?_)
  · skip
    refine z_aload_n 0 dX10_ends_10 rfl rfl ?_
    refine z_callV (N := mX10_saves) 0 [] [] lX10_saves ⟨zw_1263, zw_1265, zw_47⟩ rfl zgo_114 rfl rfl (Nat.le_of_ble_eq_true rfl) (by decide) ⟨zlt, zlt⟩ ⟨Nat.zero_le _, Nat.zero_le _⟩ zal (m_saves hG hp4) dX10_ends_11 ?_
    refine z_aload_n 0 dX10_ends_14 rfl rfl ?_
    refine z_aload_n 0 dX10_ends_15 rfl rfl ?_
    refine z_get (v := .int ans) 17 zgo_114 rfl inX10 (by decide) zw_1195 rfl rfl dX10_ends_16 ?_
    refine z_callV (N := mX10_tells) 1 [.int ans] [] lX10_tells ⟨zw_1267, zw_1269, zw_48⟩ rfl zgo_114 rfl rfl (Nat.le_of_ble_eq_true rfl) (by decide) ⟨zlt, zlt⟩ ⟨Nat.zero_le _, Nat.zero_le _⟩ zal (m_tells hG ans) dX10_ends_19 ?_
    exact z_iret rfl dX10_ends_22 (zo_i ho9 (by rfl)) (zo_h hh9 (by rfl)) (Nat.zero_le _) (Nat.zero_le _)
  · exfalso; revert c_1; decide

set_option maxHeartbeats 4000000 in
set_option maxRecDepth 100000 in
theorem m_ends1 {G : zT} {S : zS} {X : zXr} {out : Nat → Int64} {s : (Nat → Int32)} {past : (Nat → Int32)} {aside : (Nat → Int32)} {pasts : Nat} {txt : (Nat → Int32)} {typed : Nat} {thrown : Int32} {line : (Nat → Int32)} {need : (Nat → Int32)} {left : (Nat → Int32)} {slits : Nat} {slB : (Nat → Int32)} {slF : (Nat → Int32)} {slT : (Nat → Int32)} {at9 : Nat} {wd9 : Int32} {got : (Nat → Int32)} {ans : Int32} {worst : UInt32} (hG : zAl G = false) : zRun G mX10_ends 0 0 [.ref 114, .int (nI 1)] (zHp S X (s, past, aside, pasts, txt, typed, thrown, line, need, left, slits, slB, slF, slT, at9, wd9, got, ans, worst) out) (.inr (some (.int (nI 0)))) (zHp S X (s, past, aside, pasts, txt, typed, (nI 1), line, need, left, slits, slB, slF, slT, at9, wd9, got, ans, worst) out) := by
  refine zRun_of (by decide +kernel) rfl rfl (Nat.le_of_ble_eq_true rfl) ?_
  suffices hs : ∀ (o9 : zO) (h9 : zH), (Sum.inr (some (.int (nI 0))) : zO) = o9 → (zHp S X (s, past, aside, pasts, txt, typed, (nI 1), line, need, left, slits, slB, slF, slT, at9, wd9, got, ans, worst) out) = h9 → zPW G mX10_ends 0 0 o9 h9 0 0 0 [(0, .ref 114), (1, .int (nI 1))] [] (zHp S X (s, past, aside, pasts, txt, typed, thrown, line, need, left, slits, slB, slF, slT, at9, wd9, got, ans, worst) out) from hs _ _ rfl rfl
  intro o9 h9 ho9 hh9
  refine z_iload_n 1 dX10_ends_0 rfl rfl ?_
  refine z_if_le (tgt := 10) dX10_ends_1 (by decide) (fun c_1 => ?_) (fun c_1 => ?_)
  · exfalso; revert c_1; decide
  · skip
    refine z_aload_n 0 dX10_ends_4 rfl rfl ?_
    refine z_iload_n 1 dX10_ends_5 rfl rfl ?_
    refine z_callV (N := mX10_fails) 1 [.int (nI 1)] [] lX10_fails ⟨zw_1259, zw_1261, zw_46⟩ rfl zgo_114 rfl rfl (Nat.le_of_ble_eq_true rfl) (by decide) ⟨zlt, zlt⟩ ⟨Nat.zero_le _, Nat.zero_le _⟩ zal (m_fails hG (nI 1)) dX10_ends_6 ?_
    exact z_iret rfl dX10_ends_9 (zo_i ho9 (by rfl)) (zo_h hh9 (by rfl)) (Nat.zero_le _) (Nat.zero_le _)

set_option maxHeartbeats 4000000 in
set_option maxRecDepth 100000 in
theorem m_ends2 {G : zT} {S : zS} {X : zXr} {out : Nat → Int64} {s : (Nat → Int32)} {past : (Nat → Int32)} {aside : (Nat → Int32)} {pasts : Nat} {txt : (Nat → Int32)} {typed : Nat} {thrown : Int32} {line : (Nat → Int32)} {need : (Nat → Int32)} {left : (Nat → Int32)} {slits : Nat} {slB : (Nat → Int32)} {slF : (Nat → Int32)} {slT : (Nat → Int32)} {at9 : Nat} {wd9 : Int32} {got : (Nat → Int32)} {ans : Int32} {worst : UInt32} (hG : zAl G = false) : zRun G mX10_ends 0 0 [.ref 114, .int (nI 2)] (zHp S X (s, past, aside, pasts, txt, typed, thrown, line, need, left, slits, slB, slF, slT, at9, wd9, got, ans, worst) out) (.inr (some (.int (nI 0)))) (zHp S X (s, past, aside, pasts, txt, typed, (nI 2), line, need, left, slits, slB, slF, slT, at9, wd9, got, ans, worst) out) := by
  refine zRun_of (by decide +kernel) rfl rfl (Nat.le_of_ble_eq_true rfl) ?_
  suffices hs : ∀ (o9 : zO) (h9 : zH), (Sum.inr (some (.int (nI 0))) : zO) = o9 → (zHp S X (s, past, aside, pasts, txt, typed, (nI 2), line, need, left, slits, slB, slF, slT, at9, wd9, got, ans, worst) out) = h9 → zPW G mX10_ends 0 0 o9 h9 0 0 0 [(0, .ref 114), (1, .int (nI 2))] [] (zHp S X (s, past, aside, pasts, txt, typed, thrown, line, need, left, slits, slB, slF, slT, at9, wd9, got, ans, worst) out) from hs _ _ rfl rfl
  intro o9 h9 ho9 hh9
  refine z_iload_n 1 dX10_ends_0 rfl rfl ?_
  refine z_if_le (tgt := 10) dX10_ends_1 (by decide) (fun c_1 => ?_) (fun c_1 => ?_)
  · exfalso; revert c_1; decide
  · skip
    refine z_aload_n 0 dX10_ends_4 rfl rfl ?_
    refine z_iload_n 1 dX10_ends_5 rfl rfl ?_
    refine z_callV (N := mX10_fails) 1 [.int (nI 2)] [] lX10_fails ⟨zw_1259, zw_1261, zw_46⟩ rfl zgo_114 rfl rfl (Nat.le_of_ble_eq_true rfl) (by decide) ⟨zlt, zlt⟩ ⟨Nat.zero_le _, Nat.zero_le _⟩ zal (m_fails hG (nI 2)) dX10_ends_6 ?_
    exact z_iret rfl dX10_ends_9 (zo_i ho9 (by rfl)) (zo_h hh9 (by rfl)) (Nat.zero_le _) (Nat.zero_le _)

set_option maxHeartbeats 4000000 in
set_option maxRecDepth 100000 in
theorem m_begin {G : zT} {S : zS} {X : zXr} {out : Nat → Int64} {s : (Nat → Int32)} {past : (Nat → Int32)} {aside : (Nat → Int32)} {pasts : Nat} {txt : (Nat → Int32)} {typed : Nat} {thrown : Int32} {line : (Nat → Int32)} {need : (Nat → Int32)} {left : (Nat → Int32)} {slits : Nat} {slB : (Nat → Int32)} {slF : (Nat → Int32)} {slT : (Nat → Int32)} {at9 : Nat} {wd9 : Int32} {got : (Nat → Int32)} {ans : Int32} {worst : UInt32} (hG : zAl G = false) {c r w cnt lim : Nat} (hM : zMd s c r w cnt lim) (hp4 : pasts ≤ 4) (a b : Nat) (hok : (zFr (nI 1) (nI a) (nI 20) && zFr (nI 1) (nI b) (nI 16)) = true) : zRun G mX10_begin 0 0 [.ref 114, .int (nI a), .int (nI b)] (zHp S X (s, past, aside, pasts, txt, typed, thrown, line, need, left, slits, slB, slF, slT, at9, wd9, got, ans, worst) out) (.inr (some (.int ((nI w))))) (zHp S X ((rCl s a b), (rSv past (zFl s aside 1371) pasts), (zFl s aside 1371), (min (pasts + 1) 4), txt, typed, (nI 0), line, need, left, slits, slB, slF, slT, at9, wd9, got, (nI w), worst) out) := by
  have hM9 := hM
  refine zRun_of (by decide +kernel) rfl rfl (Nat.le_of_ble_eq_true rfl) ?_
  suffices hs : ∀ (o9 : zO) (h9 : zH), (Sum.inr (some (.int ((nI w)))) : zO) = o9 → (zHp S X ((rCl s a b), (rSv past (zFl s aside 1371) pasts), (zFl s aside 1371), (min (pasts + 1) 4), txt, typed, (nI 0), line, need, left, slits, slB, slF, slT, at9, wd9, got, (nI w), worst) out) = h9 → zPW G mX10_begin 0 0 o9 h9 0 0 0 [(0, .ref 114), (1, .int (nI a)), (2, .int (nI b))] [] (zHp S X (s, past, aside, pasts, txt, typed, thrown, line, need, left, slits, slB, slF, slT, at9, wd9, got, ans, worst) out) from hs _ _ rfl rfl
  intro o9 h9 ho9 hh9
  refine z_aload_n 0 dX10_begin_0 rfl rfl ?_
  refine z_callV (N := mX10_hold) 0 [] [] lX10_hold ⟨zw_1244, zw_1246, zw_43⟩ rfl zgo_114 rfl rfl (Nat.le_of_ble_eq_true rfl) (by decide) ⟨zlt, zlt⟩ ⟨Nat.zero_le _, Nat.zero_le _⟩ zal (m_hold hG) dX10_begin_1 ?_
  refine z_aload_n 0 dX10_begin_4 rfl rfl ?_
  refine z_aload_n 0 dX10_begin_5 rfl rfl ?_
  refine z_iload_n 1 dX10_begin_6 rfl rfl ?_
  refine z_iload_n 2 dX10_begin_7 rfl rfl ?_
  refine z_callV (N := mX10_cloths) 2 [.int (nI a), .int (nI b)] [.ref 114] lX10_cloths ⟨zw_1248, zw_1250, zw_44⟩ rfl zgo_114 rfl rfl (Nat.le_of_ble_eq_true rfl) (by decide) ⟨zlt, zlt⟩ ⟨Nat.zero_le _, Nat.zero_le _⟩ zal (m_cloths hG hM9 a b hok) dX10_begin_8 ?_
  refine z_callV (N := mX10_ends) 1 [.int (nI 0)] [] lX10_ends ⟨zw_1255, zw_1257, zw_45⟩ rfl zgo_114 rfl rfl (Nat.le_of_ble_eq_true rfl) (by decide) ⟨zlt, zlt⟩ ⟨Nat.zero_le _, Nat.zero_le _⟩ zal (m_ends0 hG hp4) dX10_begin_11 ?_
  exact z_iret rfl dX10_begin_14 (zo_i ho9 (by rfl)) (zo_h hh9 (by rfl)) (Nat.zero_le _) (Nat.zero_le _)

set_option maxHeartbeats 4000000 in
set_option maxRecDepth 100000 in
theorem m_begin_1 {G : zT} {S : zS} {X : zXr} {out : Nat → Int64} {s : (Nat → Int32)} {past : (Nat → Int32)} {aside : (Nat → Int32)} {pasts : Nat} {txt : (Nat → Int32)} {typed : Nat} {thrown : Int32} {line : (Nat → Int32)} {need : (Nat → Int32)} {left : (Nat → Int32)} {slits : Nat} {slB : (Nat → Int32)} {slF : (Nat → Int32)} {slT : (Nat → Int32)} {at9 : Nat} {wd9 : Int32} {got : (Nat → Int32)} {ans : Int32} {worst : UInt32} (hG : zAl G = false) (a b : Int32) (hok : (zFr (nI 1) a (nI 20) && zFr (nI 1) b (nI 16)) = false) : zRun G mX10_begin 0 0 [.ref 114, .int a, .int b] (zHp S X (s, past, aside, pasts, txt, typed, thrown, line, need, left, slits, slB, slF, slT, at9, wd9, got, ans, worst) out) (.inr (some (.int (nI 0)))) (zHp S X (s, past, (zFl s aside 1371), pasts, txt, typed, (nI 1), line, need, left, slits, slB, slF, slT, at9, wd9, got, ans, worst) out) := by
  refine zRun_of (by decide +kernel) rfl rfl (Nat.le_of_ble_eq_true rfl) ?_
  suffices hs : ∀ (o9 : zO) (h9 : zH), (Sum.inr (some (.int (nI 0))) : zO) = o9 → (zHp S X (s, past, (zFl s aside 1371), pasts, txt, typed, (nI 1), line, need, left, slits, slB, slF, slT, at9, wd9, got, ans, worst) out) = h9 → zPW G mX10_begin 0 0 o9 h9 0 0 0 [(0, .ref 114), (1, .int a), (2, .int b)] [] (zHp S X (s, past, aside, pasts, txt, typed, thrown, line, need, left, slits, slB, slF, slT, at9, wd9, got, ans, worst) out) from hs _ _ rfl rfl
  intro o9 h9 ho9 hh9
  refine z_aload_n 0 dX10_begin_0 rfl rfl ?_
  refine z_callV (N := mX10_hold) 0 [] [] lX10_hold ⟨zw_1244, zw_1246, zw_43⟩ rfl zgo_114 rfl rfl (Nat.le_of_ble_eq_true rfl) (by decide) ⟨zlt, zlt⟩ ⟨Nat.zero_le _, Nat.zero_le _⟩ zal (m_hold hG) dX10_begin_1 ?_
  refine z_aload_n 0 dX10_begin_4 rfl rfl ?_
  refine z_aload_n 0 dX10_begin_5 rfl rfl ?_
  refine z_iload_n 1 dX10_begin_6 rfl rfl ?_
  refine z_iload_n 2 dX10_begin_7 rfl rfl ?_
  refine z_callV (N := mX10_cloths) 2 [.int a, .int b] [.ref 114] lX10_cloths ⟨zw_1248, zw_1250, zw_44⟩ rfl zgo_114 rfl rfl (Nat.le_of_ble_eq_true rfl) (by decide) ⟨zlt, zlt⟩ ⟨Nat.zero_le _, Nat.zero_le _⟩ (fun _ => rfl) (m_cloths_x hG a b hok) dX10_begin_8 ?_
  refine z_callV (N := mX10_ends) 1 [.int (nI 1)] [] lX10_ends ⟨zw_1255, zw_1257, zw_45⟩ rfl zgo_114 rfl rfl (Nat.le_of_ble_eq_true rfl) (by decide) ⟨zlt, zlt⟩ ⟨Nat.zero_le _, Nat.zero_le _⟩ zal (m_ends1 hG) dX10_begin_11 ?_
  exact z_iret rfl dX10_begin_14 (zo_i ho9 (by rfl)) (zo_h hh9 (by rfl)) (Nat.zero_le _) (Nat.zero_le _)

set_option maxHeartbeats 4000000 in
set_option maxRecDepth 100000 in
theorem m_fill {G : zT} {S : zS} {X : zXr} {out : Nat → Int64} {s : (Nat → Int32)} {past : (Nat → Int32)} {aside : (Nat → Int32)} {pasts : Nat} {txt : (Nat → Int32)} {typed : Nat} {thrown : Int32} {line : (Nat → Int32)} {need : (Nat → Int32)} {left : (Nat → Int32)} {slits : Nat} {slB : (Nat → Int32)} {slF : (Nat → Int32)} {slT : (Nat → Int32)} {at9 : Nat} {wd9 : Int32} {got : (Nat → Int32)} {ans : Int32} {worst : UInt32} (hG : zAl G = false) {c r w cnt lim : Nat} (hM : zMd s c r w cnt lim) (hp4 : pasts ≤ 4) (x y u z : Nat) (k9 : Int32) (hxu : x ≤ u) (hu : u < c) (hyz : y ≤ z) (hz : z < r) (hk : zFr (nI 0) k9 (nI 7) = true) : zRun G mX10_fill 0 0 [.ref 114, .int (nI x), .int (nI y), .int (nI u), .int (nI z), .int k9] (zHp S X (s, past, aside, pasts, txt, typed, thrown, line, need, left, slits, slB, slF, slT, at9, wd9, got, ans, worst) out) (.inr (some (.int ((nI (rFl x y u k9 (z + 1 - y) (s, 0)).2))))) (zHp S X ((rFl x y u k9 (z + 1 - y) (s, 0)).1, (rSv past (zFl s aside 1371) pasts), (zFl s aside 1371), (min (pasts + 1) 4), txt, typed, (nI 0), line, need, left, slits, slB, slF, slT, at9, wd9, got, (nI (rFl x y u k9 (z + 1 - y) (s, 0)).2), worst) out) := by
  have hM9 := hM
  refine zRun_of (by decide +kernel) rfl rfl (Nat.le_of_ble_eq_true rfl) ?_
  suffices hs : ∀ (o9 : zO) (h9 : zH), (Sum.inr (some (.int ((nI (rFl x y u k9 (z + 1 - y) (s, 0)).2)))) : zO) = o9 → (zHp S X ((rFl x y u k9 (z + 1 - y) (s, 0)).1, (rSv past (zFl s aside 1371) pasts), (zFl s aside 1371), (min (pasts + 1) 4), txt, typed, (nI 0), line, need, left, slits, slB, slF, slT, at9, wd9, got, (nI (rFl x y u k9 (z + 1 - y) (s, 0)).2), worst) out) = h9 → zPW G mX10_fill 0 0 o9 h9 0 0 0 [(0, .ref 114), (1, .int (nI x)), (2, .int (nI y)), (3, .int (nI u)), (4, .int (nI z)), (5, .int k9)] [] (zHp S X (s, past, aside, pasts, txt, typed, thrown, line, need, left, slits, slB, slF, slT, at9, wd9, got, ans, worst) out) from hs _ _ rfl rfl
  intro o9 h9 ho9 hh9
  refine z_aload_n 0 dX10_fill_0 rfl rfl ?_
  refine z_callV (N := mX10_hold) 0 [] [] lX10_hold ⟨zw_1244, zw_1246, zw_43⟩ rfl zgo_114 rfl rfl (Nat.le_of_ble_eq_true rfl) (by decide) ⟨zlt, zlt⟩ ⟨Nat.zero_le _, Nat.zero_le _⟩ zal (m_hold hG) dX10_fill_1 ?_
  refine z_aload_n 0 dX10_fill_4 rfl rfl ?_
  refine z_aload_n 0 dX10_fill_5 rfl rfl ?_
  refine z_iload_n 1 dX10_fill_6 rfl rfl ?_
  refine z_iload_n 2 dX10_fill_7 rfl rfl ?_
  refine z_iload_n 3 dX10_fill_8 rfl rfl ?_
  refine z_iload 4 dX10_fill_9 rfl ?_
  refine z_iload 5 dX10_fill_11 rfl ?_
  refine z_callV (N := mX10_fills) 5 [.int (nI x), .int (nI y), .int (nI u), .int (nI z), .int k9] [.ref 114] lX10_fills ⟨zw_1275, zw_1277, zw_49⟩ rfl zgo_114 rfl rfl (Nat.le_of_ble_eq_true rfl) (by decide) ⟨zlt, zlt⟩ ⟨Nat.zero_le _, Nat.zero_le _⟩ zal (m_fills hG hM9 x y u z k9 hxu hu hyz hz hk) dX10_fill_13 ?_
  refine z_callV (N := mX10_ends) 1 [.int (nI 0)] [] lX10_ends ⟨zw_1255, zw_1257, zw_45⟩ rfl zgo_114 rfl rfl (Nat.le_of_ble_eq_true rfl) (by decide) ⟨zlt, zlt⟩ ⟨Nat.zero_le _, Nat.zero_le _⟩ zal (m_ends0 hG hp4) dX10_fill_16 ?_
  exact z_iret rfl dX10_fill_19 (zo_i ho9 (by rfl)) (zo_h hh9 (by rfl)) (Nat.zero_le _) (Nat.zero_le _)

set_option maxHeartbeats 4000000 in
set_option maxRecDepth 100000 in
theorem m_fill_1 {G : zT} {S : zS} {X : zXr} {out : Nat → Int64} {s : (Nat → Int32)} {past : (Nat → Int32)} {aside : (Nat → Int32)} {pasts : Nat} {txt : (Nat → Int32)} {typed : Nat} {thrown : Int32} {line : (Nat → Int32)} {need : (Nat → Int32)} {left : (Nat → Int32)} {slits : Nat} {slB : (Nat → Int32)} {slF : (Nat → Int32)} {slT : (Nat → Int32)} {at9 : Nat} {wd9 : Int32} {got : (Nat → Int32)} {ans : Int32} {worst : UInt32} (hG : zAl G = false) {c r w cnt lim : Nat} (hM : zMd s c r w cnt lim) (x y u z k9 : Int32) (hok : ((zIn x (nI c) && zIn y (nI r)) && (zIn u (nI c) && zIn z (nI r))) = false) : zRun G mX10_fill 0 0 [.ref 114, .int x, .int y, .int u, .int z, .int k9] (zHp S X (s, past, aside, pasts, txt, typed, thrown, line, need, left, slits, slB, slF, slT, at9, wd9, got, ans, worst) out) (.inr (some (.int (nI 0)))) (zHp S X (s, past, (zFl s aside 1371), pasts, txt, typed, (nI 1), line, need, left, slits, slB, slF, slT, at9, wd9, got, ans, worst) out) := by
  have hM9 := hM
  refine zRun_of (by decide +kernel) rfl rfl (Nat.le_of_ble_eq_true rfl) ?_
  suffices hs : ∀ (o9 : zO) (h9 : zH), (Sum.inr (some (.int (nI 0))) : zO) = o9 → (zHp S X (s, past, (zFl s aside 1371), pasts, txt, typed, (nI 1), line, need, left, slits, slB, slF, slT, at9, wd9, got, ans, worst) out) = h9 → zPW G mX10_fill 0 0 o9 h9 0 0 0 [(0, .ref 114), (1, .int x), (2, .int y), (3, .int u), (4, .int z), (5, .int k9)] [] (zHp S X (s, past, aside, pasts, txt, typed, thrown, line, need, left, slits, slB, slF, slT, at9, wd9, got, ans, worst) out) from hs _ _ rfl rfl
  intro o9 h9 ho9 hh9
  refine z_aload_n 0 dX10_fill_0 rfl rfl ?_
  refine z_callV (N := mX10_hold) 0 [] [] lX10_hold ⟨zw_1244, zw_1246, zw_43⟩ rfl zgo_114 rfl rfl (Nat.le_of_ble_eq_true rfl) (by decide) ⟨zlt, zlt⟩ ⟨Nat.zero_le _, Nat.zero_le _⟩ zal (m_hold hG) dX10_fill_1 ?_
  refine z_aload_n 0 dX10_fill_4 rfl rfl ?_
  refine z_aload_n 0 dX10_fill_5 rfl rfl ?_
  refine z_iload_n 1 dX10_fill_6 rfl rfl ?_
  refine z_iload_n 2 dX10_fill_7 rfl rfl ?_
  refine z_iload_n 3 dX10_fill_8 rfl rfl ?_
  refine z_iload 4 dX10_fill_9 rfl ?_
  refine z_iload 5 dX10_fill_11 rfl ?_
  refine z_callV (N := mX10_fills) 5 [.int x, .int y, .int u, .int z, .int k9] [.ref 114] lX10_fills ⟨zw_1275, zw_1277, zw_49⟩ rfl zgo_114 rfl rfl (Nat.le_of_ble_eq_true rfl) (by decide) ⟨zlt, zlt⟩ ⟨Nat.zero_le _, Nat.zero_le _⟩ (fun _ => rfl) (m_fills_1 hG hM9 x y u z k9 hok) dX10_fill_13 ?_
  refine z_callV (N := mX10_ends) 1 [.int (nI 1)] [] lX10_ends ⟨zw_1255, zw_1257, zw_45⟩ rfl zgo_114 rfl rfl (Nat.le_of_ble_eq_true rfl) (by decide) ⟨zlt, zlt⟩ ⟨Nat.zero_le _, Nat.zero_le _⟩ zal (m_ends1 hG) dX10_fill_16 ?_
  exact z_iret rfl dX10_fill_19 (zo_i ho9 (by rfl)) (zo_h hh9 (by rfl)) (Nat.zero_le _) (Nat.zero_le _)

set_option maxHeartbeats 4000000 in
set_option maxRecDepth 100000 in
theorem m_fill_2 {G : zT} {S : zS} {X : zXr} {out : Nat → Int64} {s : (Nat → Int32)} {past : (Nat → Int32)} {aside : (Nat → Int32)} {pasts : Nat} {txt : (Nat → Int32)} {typed : Nat} {thrown : Int32} {line : (Nat → Int32)} {need : (Nat → Int32)} {left : (Nat → Int32)} {slits : Nat} {slB : (Nat → Int32)} {slF : (Nat → Int32)} {slT : (Nat → Int32)} {at9 : Nat} {wd9 : Int32} {got : (Nat → Int32)} {ans : Int32} {worst : UInt32} (hG : zAl G = false) {c r w cnt lim : Nat} (hM : zMd s c r w cnt lim) (x y u z k9 : Int32) (hok : ((zIn x (nI c) && zIn y (nI r)) && (zIn u (nI c) && zIn z (nI r))) = true) (hx2 : u < x ∨ z < y ∨ zFr (nI 0) k9 (nI 7) = false) : zRun G mX10_fill 0 0 [.ref 114, .int x, .int y, .int u, .int z, .int k9] (zHp S X (s, past, aside, pasts, txt, typed, thrown, line, need, left, slits, slB, slF, slT, at9, wd9, got, ans, worst) out) (.inr (some (.int (nI 0)))) (zHp S X (s, past, (zFl s aside 1371), pasts, txt, typed, (nI 2), line, need, left, slits, slB, slF, slT, at9, wd9, got, ans, worst) out) := by
  have hM9 := hM
  refine zRun_of (by decide +kernel) rfl rfl (Nat.le_of_ble_eq_true rfl) ?_
  suffices hs : ∀ (o9 : zO) (h9 : zH), (Sum.inr (some (.int (nI 0))) : zO) = o9 → (zHp S X (s, past, (zFl s aside 1371), pasts, txt, typed, (nI 2), line, need, left, slits, slB, slF, slT, at9, wd9, got, ans, worst) out) = h9 → zPW G mX10_fill 0 0 o9 h9 0 0 0 [(0, .ref 114), (1, .int x), (2, .int y), (3, .int u), (4, .int z), (5, .int k9)] [] (zHp S X (s, past, aside, pasts, txt, typed, thrown, line, need, left, slits, slB, slF, slT, at9, wd9, got, ans, worst) out) from hs _ _ rfl rfl
  intro o9 h9 ho9 hh9
  refine z_aload_n 0 dX10_fill_0 rfl rfl ?_
  refine z_callV (N := mX10_hold) 0 [] [] lX10_hold ⟨zw_1244, zw_1246, zw_43⟩ rfl zgo_114 rfl rfl (Nat.le_of_ble_eq_true rfl) (by decide) ⟨zlt, zlt⟩ ⟨Nat.zero_le _, Nat.zero_le _⟩ zal (m_hold hG) dX10_fill_1 ?_
  refine z_aload_n 0 dX10_fill_4 rfl rfl ?_
  refine z_aload_n 0 dX10_fill_5 rfl rfl ?_
  refine z_iload_n 1 dX10_fill_6 rfl rfl ?_
  refine z_iload_n 2 dX10_fill_7 rfl rfl ?_
  refine z_iload_n 3 dX10_fill_8 rfl rfl ?_
  refine z_iload 4 dX10_fill_9 rfl ?_
  refine z_iload 5 dX10_fill_11 rfl ?_
  refine z_callV (N := mX10_fills) 5 [.int x, .int y, .int u, .int z, .int k9] [.ref 114] lX10_fills ⟨zw_1275, zw_1277, zw_49⟩ rfl zgo_114 rfl rfl (Nat.le_of_ble_eq_true rfl) (by decide) ⟨zlt, zlt⟩ ⟨Nat.zero_le _, Nat.zero_le _⟩ (fun _ => rfl) (m_fills_2 hG hM9 x y u z k9 hok hx2) dX10_fill_13 ?_
  refine z_callV (N := mX10_ends) 1 [.int (nI 2)] [] lX10_ends ⟨zw_1255, zw_1257, zw_45⟩ rfl zgo_114 rfl rfl (Nat.le_of_ble_eq_true rfl) (by decide) ⟨zlt, zlt⟩ ⟨Nat.zero_le _, Nat.zero_le _⟩ zal (m_ends2 hG) dX10_fill_16 ?_
  exact z_iret rfl dX10_fill_19 (zo_i ho9 (by rfl)) (zo_h hh9 (by rfl)) (Nat.zero_le _) (Nat.zero_le _)

set_option maxHeartbeats 4000000 in
set_option maxRecDepth 100000 in
theorem m_addLot {G : zT} {S : zS} {X : zXr} {out : Nat → Int64} {s : (Nat → Int32)} {past : (Nat → Int32)} {aside : (Nat → Int32)} {pasts : Nat} {txt : (Nat → Int32)} {typed : Nat} {thrown : Int32} {line : (Nat → Int32)} {need : (Nat → Int32)} {left : (Nat → Int32)} {slits : Nat} {slB : (Nat → Int32)} {slF : (Nat → Int32)} {slT : (Nat → Int32)} {at9 : Nat} {wd9 : Int32} {got : (Nat → Int32)} {ans : Int32} {worst : UInt32} (hG : zAl G = false) {c r w cnt lim : Nat} (hM : zMd s c r w cnt lim) (hp4 : pasts ≤ 4) (v l sh : Int32) (hok : (zFr (nI 0) v (nI 7) && (zFr (nI 1) l (nI 999) && rShd sh)) = true) (hn16 : cnt < 16) : zRun G mX10_addLot 0 0 [.ref 114, .int v, .int l, .int sh] (zHp S X (s, past, aside, pasts, txt, typed, thrown, line, need, left, slits, slB, slF, slT, at9, wd9, got, ans, worst) out) (.inr (some (.int ((nI cnt))))) (zHp S X ((rAd s cnt v l sh), (rSv past (zFl s aside 1371) pasts), (zFl s aside 1371), (min (pasts + 1) 4), txt, typed, (nI 0), line, need, left, slits, slB, slF, slT, at9, wd9, got, (nI cnt), worst) out) := by
  have hM9 := hM
  refine zRun_of (by decide +kernel) rfl rfl (Nat.le_of_ble_eq_true rfl) ?_
  suffices hs : ∀ (o9 : zO) (h9 : zH), (Sum.inr (some (.int ((nI cnt)))) : zO) = o9 → (zHp S X ((rAd s cnt v l sh), (rSv past (zFl s aside 1371) pasts), (zFl s aside 1371), (min (pasts + 1) 4), txt, typed, (nI 0), line, need, left, slits, slB, slF, slT, at9, wd9, got, (nI cnt), worst) out) = h9 → zPW G mX10_addLot 0 0 o9 h9 0 0 0 [(0, .ref 114), (1, .int v), (2, .int l), (3, .int sh)] [] (zHp S X (s, past, aside, pasts, txt, typed, thrown, line, need, left, slits, slB, slF, slT, at9, wd9, got, ans, worst) out) from hs _ _ rfl rfl
  intro o9 h9 ho9 hh9
  refine z_aload_n 0 dX10_addLot_0 rfl rfl ?_
  refine z_callV (N := mX10_hold) 0 [] [] lX10_hold ⟨zw_1244, zw_1246, zw_43⟩ rfl zgo_114 rfl rfl (Nat.le_of_ble_eq_true rfl) (by decide) ⟨zlt, zlt⟩ ⟨Nat.zero_le _, Nat.zero_le _⟩ zal (m_hold hG) dX10_addLot_1 ?_
  refine z_aload_n 0 dX10_addLot_4 rfl rfl ?_
  refine z_aload_n 0 dX10_addLot_5 rfl rfl ?_
  refine z_iload_n 1 dX10_addLot_6 rfl rfl ?_
  refine z_iload_n 2 dX10_addLot_7 rfl rfl ?_
  refine z_iload_n 3 dX10_addLot_8 rfl rfl ?_
  refine z_callV (N := mX10_adds) 3 [.int v, .int l, .int sh] [.ref 114] lX10_adds ⟨zw_1287, zw_1289, zw_51⟩ rfl zgo_114 rfl rfl (Nat.le_of_ble_eq_true rfl) (by decide) ⟨zlt, zlt⟩ ⟨Nat.zero_le _, Nat.zero_le _⟩ zal (m_adds hG hM9 v l sh hok hn16) dX10_addLot_9 ?_
  refine z_callV (N := mX10_ends) 1 [.int (nI 0)] [] lX10_ends ⟨zw_1255, zw_1257, zw_45⟩ rfl zgo_114 rfl rfl (Nat.le_of_ble_eq_true rfl) (by decide) ⟨zlt, zlt⟩ ⟨Nat.zero_le _, Nat.zero_le _⟩ zal (m_ends0 hG hp4) dX10_addLot_12 ?_
  exact z_iret rfl dX10_addLot_15 (zo_i ho9 (by rfl)) (zo_h hh9 (by rfl)) (Nat.zero_le _) (Nat.zero_le _)

set_option maxHeartbeats 4000000 in
set_option maxRecDepth 100000 in
theorem m_addLot_1 {G : zT} {S : zS} {X : zXr} {out : Nat → Int64} {s : (Nat → Int32)} {past : (Nat → Int32)} {aside : (Nat → Int32)} {pasts : Nat} {txt : (Nat → Int32)} {typed : Nat} {thrown : Int32} {line : (Nat → Int32)} {need : (Nat → Int32)} {left : (Nat → Int32)} {slits : Nat} {slB : (Nat → Int32)} {slF : (Nat → Int32)} {slT : (Nat → Int32)} {at9 : Nat} {wd9 : Int32} {got : (Nat → Int32)} {ans : Int32} {worst : UInt32} (hG : zAl G = false) {c r w cnt lim : Nat} (hM : zMd s c r w cnt lim) (v l sh : Int32) (hok : (zFr (nI 0) v (nI 7) && (zFr (nI 1) l (nI 999) && rShd sh)) = false) : zRun G mX10_addLot 0 0 [.ref 114, .int v, .int l, .int sh] (zHp S X (s, past, aside, pasts, txt, typed, thrown, line, need, left, slits, slB, slF, slT, at9, wd9, got, ans, worst) out) (.inr (some (.int (nI 0)))) (zHp S X (s, past, (zFl s aside 1371), pasts, txt, typed, (nI 1), line, need, left, slits, slB, slF, slT, at9, wd9, got, ans, worst) out) := by
  have hM9 := hM
  refine zRun_of (by decide +kernel) rfl rfl (Nat.le_of_ble_eq_true rfl) ?_
  suffices hs : ∀ (o9 : zO) (h9 : zH), (Sum.inr (some (.int (nI 0))) : zO) = o9 → (zHp S X (s, past, (zFl s aside 1371), pasts, txt, typed, (nI 1), line, need, left, slits, slB, slF, slT, at9, wd9, got, ans, worst) out) = h9 → zPW G mX10_addLot 0 0 o9 h9 0 0 0 [(0, .ref 114), (1, .int v), (2, .int l), (3, .int sh)] [] (zHp S X (s, past, aside, pasts, txt, typed, thrown, line, need, left, slits, slB, slF, slT, at9, wd9, got, ans, worst) out) from hs _ _ rfl rfl
  intro o9 h9 ho9 hh9
  refine z_aload_n 0 dX10_addLot_0 rfl rfl ?_
  refine z_callV (N := mX10_hold) 0 [] [] lX10_hold ⟨zw_1244, zw_1246, zw_43⟩ rfl zgo_114 rfl rfl (Nat.le_of_ble_eq_true rfl) (by decide) ⟨zlt, zlt⟩ ⟨Nat.zero_le _, Nat.zero_le _⟩ zal (m_hold hG) dX10_addLot_1 ?_
  refine z_aload_n 0 dX10_addLot_4 rfl rfl ?_
  refine z_aload_n 0 dX10_addLot_5 rfl rfl ?_
  refine z_iload_n 1 dX10_addLot_6 rfl rfl ?_
  refine z_iload_n 2 dX10_addLot_7 rfl rfl ?_
  refine z_iload_n 3 dX10_addLot_8 rfl rfl ?_
  refine z_callV (N := mX10_adds) 3 [.int v, .int l, .int sh] [.ref 114] lX10_adds ⟨zw_1287, zw_1289, zw_51⟩ rfl zgo_114 rfl rfl (Nat.le_of_ble_eq_true rfl) (by decide) ⟨zlt, zlt⟩ ⟨Nat.zero_le _, Nat.zero_le _⟩ (fun _ => rfl) (m_adds_1 hG hM9 v l sh hok) dX10_addLot_9 ?_
  refine z_callV (N := mX10_ends) 1 [.int (nI 1)] [] lX10_ends ⟨zw_1255, zw_1257, zw_45⟩ rfl zgo_114 rfl rfl (Nat.le_of_ble_eq_true rfl) (by decide) ⟨zlt, zlt⟩ ⟨Nat.zero_le _, Nat.zero_le _⟩ zal (m_ends1 hG) dX10_addLot_12 ?_
  exact z_iret rfl dX10_addLot_15 (zo_i ho9 (by rfl)) (zo_h hh9 (by rfl)) (Nat.zero_le _) (Nat.zero_le _)

set_option maxHeartbeats 4000000 in
set_option maxRecDepth 100000 in
theorem m_addLot_2 {G : zT} {S : zS} {X : zXr} {out : Nat → Int64} {s : (Nat → Int32)} {past : (Nat → Int32)} {aside : (Nat → Int32)} {pasts : Nat} {txt : (Nat → Int32)} {typed : Nat} {thrown : Int32} {line : (Nat → Int32)} {need : (Nat → Int32)} {left : (Nat → Int32)} {slits : Nat} {slB : (Nat → Int32)} {slF : (Nat → Int32)} {slT : (Nat → Int32)} {at9 : Nat} {wd9 : Int32} {got : (Nat → Int32)} {ans : Int32} {worst : UInt32} (hG : zAl G = false) {c r w cnt lim : Nat} (hM : zMd s c r w cnt lim) (v l sh : Int32) (hok : (zFr (nI 0) v (nI 7) && (zFr (nI 1) l (nI 999) && rShd sh)) = true) (hn16 : cnt = 16) : zRun G mX10_addLot 0 0 [.ref 114, .int v, .int l, .int sh] (zHp S X (s, past, aside, pasts, txt, typed, thrown, line, need, left, slits, slB, slF, slT, at9, wd9, got, ans, worst) out) (.inr (some (.int (nI 0)))) (zHp S X (s, past, (zFl s aside 1371), pasts, txt, typed, (nI 2), line, need, left, slits, slB, slF, slT, at9, wd9, got, ans, worst) out) := by
  have hM9 := hM
  refine zRun_of (by decide +kernel) rfl rfl (Nat.le_of_ble_eq_true rfl) ?_
  suffices hs : ∀ (o9 : zO) (h9 : zH), (Sum.inr (some (.int (nI 0))) : zO) = o9 → (zHp S X (s, past, (zFl s aside 1371), pasts, txt, typed, (nI 2), line, need, left, slits, slB, slF, slT, at9, wd9, got, ans, worst) out) = h9 → zPW G mX10_addLot 0 0 o9 h9 0 0 0 [(0, .ref 114), (1, .int v), (2, .int l), (3, .int sh)] [] (zHp S X (s, past, aside, pasts, txt, typed, thrown, line, need, left, slits, slB, slF, slT, at9, wd9, got, ans, worst) out) from hs _ _ rfl rfl
  intro o9 h9 ho9 hh9
  refine z_aload_n 0 dX10_addLot_0 rfl rfl ?_
  refine z_callV (N := mX10_hold) 0 [] [] lX10_hold ⟨zw_1244, zw_1246, zw_43⟩ rfl zgo_114 rfl rfl (Nat.le_of_ble_eq_true rfl) (by decide) ⟨zlt, zlt⟩ ⟨Nat.zero_le _, Nat.zero_le _⟩ zal (m_hold hG) dX10_addLot_1 ?_
  refine z_aload_n 0 dX10_addLot_4 rfl rfl ?_
  refine z_aload_n 0 dX10_addLot_5 rfl rfl ?_
  refine z_iload_n 1 dX10_addLot_6 rfl rfl ?_
  refine z_iload_n 2 dX10_addLot_7 rfl rfl ?_
  refine z_iload_n 3 dX10_addLot_8 rfl rfl ?_
  refine z_callV (N := mX10_adds) 3 [.int v, .int l, .int sh] [.ref 114] lX10_adds ⟨zw_1287, zw_1289, zw_51⟩ rfl zgo_114 rfl rfl (Nat.le_of_ble_eq_true rfl) (by decide) ⟨zlt, zlt⟩ ⟨Nat.zero_le _, Nat.zero_le _⟩ (fun _ => rfl) (m_adds_2 hG hM9 v l sh hok hn16) dX10_addLot_9 ?_
  refine z_callV (N := mX10_ends) 1 [.int (nI 2)] [] lX10_ends ⟨zw_1255, zw_1257, zw_45⟩ rfl zgo_114 rfl rfl (Nat.le_of_ble_eq_true rfl) (by decide) ⟨zlt, zlt⟩ ⟨Nat.zero_le _, Nat.zero_le _⟩ zal (m_ends2 hG) dX10_addLot_12 ?_
  exact z_iret rfl dX10_addLot_15 (zo_i ho9 (by rfl)) (zo_h hh9 (by rfl)) (Nat.zero_le _) (Nat.zero_le _)

set_option maxHeartbeats 4000000 in
set_option maxRecDepth 100000 in
theorem m_setTolerance {G : zT} {S : zS} {X : zXr} {out : Nat → Int64} {s : (Nat → Int32)} {past : (Nat → Int32)} {aside : (Nat → Int32)} {pasts : Nat} {txt : (Nat → Int32)} {typed : Nat} {thrown : Int32} {line : (Nat → Int32)} {need : (Nat → Int32)} {left : (Nat → Int32)} {slits : Nat} {slB : (Nat → Int32)} {slF : (Nat → Int32)} {slT : (Nat → Int32)} {at9 : Nat} {wd9 : Int32} {got : (Nat → Int32)} {ans : Int32} {worst : UInt32} (hG : zAl G = false) (hp4 : pasts ≤ 4) (t : Int32) (ht : rShd t = true) : zRun G mX10_setTolerance 0 0 [.ref 114, .int t] (zHp S X (s, past, aside, pasts, txt, typed, thrown, line, need, left, slits, slB, slF, slT, at9, wd9, got, ans, worst) out) (.inr (some (.int ((s 5))))) (zHp S X ((upd s 5 t), (rSv past (zFl s aside 1371) pasts), (zFl s aside 1371), (min (pasts + 1) 4), txt, typed, (nI 0), line, need, left, slits, slB, slF, slT, at9, wd9, got, (s 5), worst) out) := by
  refine zRun_of (by decide +kernel) rfl rfl (Nat.le_of_ble_eq_true rfl) ?_
  suffices hs : ∀ (o9 : zO) (h9 : zH), (Sum.inr (some (.int ((s 5)))) : zO) = o9 → (zHp S X ((upd s 5 t), (rSv past (zFl s aside 1371) pasts), (zFl s aside 1371), (min (pasts + 1) 4), txt, typed, (nI 0), line, need, left, slits, slB, slF, slT, at9, wd9, got, (s 5), worst) out) = h9 → zPW G mX10_setTolerance 0 0 o9 h9 0 0 0 [(0, .ref 114), (1, .int t)] [] (zHp S X (s, past, aside, pasts, txt, typed, thrown, line, need, left, slits, slB, slF, slT, at9, wd9, got, ans, worst) out) from hs _ _ rfl rfl
  intro o9 h9 ho9 hh9
  refine z_iload_n 1 dX10_setTolerance_0 rfl rfl ?_
  refine z_callS (N := mX10_isShade) 1 [.int t] [] lX10_isShade ⟨zw_1291, zw_1292⟩ rfl rfl rfl (Nat.le_of_ble_eq_true rfl) (by decide) ⟨zlt, zlt⟩ hG ⟨Nat.zero_le _, Nat.zero_le _⟩ (m_isShade hG t) dX10_setTolerance_1 ?_
  refine z_if_ne (tgt := 13) dX10_setTolerance_4 (by decide) (fun c_4 => ?_) (fun c_4 => ?_)
  · skip
    have b_4 := zB_tt c_4
    refine z_aload_n 0 dX10_setTolerance_13 rfl rfl ?_
    refine z_callV (N := mX10_hold) 0 [] [] lX10_hold ⟨zw_1244, zw_1246, zw_43⟩ rfl zgo_114 rfl rfl (Nat.le_of_ble_eq_true rfl) (by decide) ⟨zlt, zlt⟩ ⟨Nat.zero_le _, Nat.zero_le _⟩ zal (m_hold hG) dX10_setTolerance_14 ?_
    refine z_aload_n 0 dX10_setTolerance_17 rfl rfl ?_
    refine z_aload_n 0 dX10_setTolerance_18 rfl rfl ?_
    refine z_get (v := .ref 115) 0 zgo_114 rfl inX10 (by decide) zw_1178 rfl rfl dX10_setTolerance_19 ?_
    refine z_iconst (v := nI 5) dX10_setTolerance_22 (by decide) ?_
    refine z_ialdN (f := s) (n := 1371) (j := 5) zga_115 (by omega) (by decide) dX10_setTolerance_23 ?_
    refine z_puti 17 tyX10 zgo_114 rfl inX10 tyX10_ok nmX10 (by decide) zw_1195 rfl rfl (by decide +kernel) (Nat.le_of_ble_eq_true rfl) dX10_setTolerance_24 ?_
    refine z_eqh (h2 := (zHp S X (s, past, (zFl s aside 1371), pasts, txt, typed, thrown, line, need, left, slits, slB, slF, slT, at9, wd9, got, (s 5), worst) out)) zsf_114_17 ?_
    refine z_aload_n 0 dX10_setTolerance_27 rfl rfl ?_
    refine z_get (v := .ref 115) 0 zgo_114 rfl inX10 (by decide) zw_1178 rfl rfl dX10_setTolerance_28 ?_
    refine z_iconst (v := nI 5) dX10_setTolerance_31 (by decide) ?_
    refine z_iload_n 1 dX10_setTolerance_32 rfl rfl ?_
    refine z_iastN (f := s) (n := 1371) (j := 5) zga_115 (by omega) (by decide) dX10_setTolerance_33 ?_
    refine z_eqh (h2 := (zHp S X ((upd s 5 t), past, (zFl s aside 1371), pasts, txt, typed, thrown, line, need, left, slits, slB, slF, slT, at9, wd9, got, (s 5), worst) out)) zsa_115 ?_
    refine z_aload_n 0 dX10_setTolerance_34 rfl rfl ?_
    refine z_iconst (v := nI 0) dX10_setTolerance_35 (by decide) ?_
    refine z_callV (N := mX10_ends) 1 [.int (nI 0)] [] lX10_ends ⟨zw_1255, zw_1257, zw_45⟩ rfl zgo_114 rfl rfl (Nat.le_of_ble_eq_true rfl) (by decide) ⟨zlt, zlt⟩ ⟨Nat.zero_le _, Nat.zero_le _⟩ zal (m_ends0 hG hp4) dX10_setTolerance_36 ?_
    exact z_iret rfl dX10_setTolerance_39 (zo_i ho9 (by rfl)) (zo_h hh9 (by rfl)) (Nat.zero_le _) (Nat.zero_le _)
  · exfalso; rw [ht] at c_4; exact absurd c_4 (by decide)

set_option maxHeartbeats 4000000 in
set_option maxRecDepth 100000 in
theorem m_setTolerance_1 {G : zT} {S : zS} {X : zXr} {out : Nat → Int64} {s : (Nat → Int32)} {past : (Nat → Int32)} {aside : (Nat → Int32)} {pasts : Nat} {txt : (Nat → Int32)} {typed : Nat} {thrown : Int32} {line : (Nat → Int32)} {need : (Nat → Int32)} {left : (Nat → Int32)} {slits : Nat} {slB : (Nat → Int32)} {slF : (Nat → Int32)} {slT : (Nat → Int32)} {at9 : Nat} {wd9 : Int32} {got : (Nat → Int32)} {ans : Int32} {worst : UInt32} (hG : zAl G = false) (t : Int32) (ht : rShd t = false) : zRun G mX10_setTolerance 0 0 [.ref 114, .int t] (zHp S X (s, past, aside, pasts, txt, typed, thrown, line, need, left, slits, slB, slF, slT, at9, wd9, got, ans, worst) out) (.inr (some (.int (nI 0)))) (zHp S X (s, past, aside, pasts, txt, typed, (nI 1), line, need, left, slits, slB, slF, slT, at9, wd9, got, ans, worst) out) := by
  refine zRun_of (by decide +kernel) rfl rfl (Nat.le_of_ble_eq_true rfl) ?_
  suffices hs : ∀ (o9 : zO) (h9 : zH), (Sum.inr (some (.int (nI 0))) : zO) = o9 → (zHp S X (s, past, aside, pasts, txt, typed, (nI 1), line, need, left, slits, slB, slF, slT, at9, wd9, got, ans, worst) out) = h9 → zPW G mX10_setTolerance 0 0 o9 h9 0 0 0 [(0, .ref 114), (1, .int t)] [] (zHp S X (s, past, aside, pasts, txt, typed, thrown, line, need, left, slits, slB, slF, slT, at9, wd9, got, ans, worst) out) from hs _ _ rfl rfl
  intro o9 h9 ho9 hh9
  refine z_iload_n 1 dX10_setTolerance_0 rfl rfl ?_
  refine z_callS (N := mX10_isShade) 1 [.int t] [] lX10_isShade ⟨zw_1291, zw_1292⟩ rfl rfl rfl (Nat.le_of_ble_eq_true rfl) (by decide) ⟨zlt, zlt⟩ hG ⟨Nat.zero_le _, Nat.zero_le _⟩ (m_isShade hG t) dX10_setTolerance_1 ?_
  refine z_if_ne (tgt := 13) dX10_setTolerance_4 (by decide) (fun c_4 => ?_) (fun c_4 => ?_)
  · exfalso; rw [ht] at c_4; exact c_4 rfl
  · skip
    have b_4 := zB_0.mp c_4
    refine z_aload_n 0 dX10_setTolerance_7 rfl rfl ?_
    refine z_iconst (v := nI 1) dX10_setTolerance_8 (by decide) ?_
    refine z_callV (N := mX10_fails) 1 [.int (nI 1)] [] lX10_fails ⟨zw_1259, zw_1261, zw_46⟩ rfl zgo_114 rfl rfl (Nat.le_of_ble_eq_true rfl) (by decide) ⟨zlt, zlt⟩ ⟨Nat.zero_le _, Nat.zero_le _⟩ zal (m_fails hG (nI 1)) dX10_setTolerance_9 ?_
    exact z_iret rfl dX10_setTolerance_12 (zo_i ho9 (by rfl)) (zo_h hh9 (by rfl)) (Nat.zero_le _) (Nat.zero_le _)

set_option maxHeartbeats 4000000 in
set_option maxRecDepth 100000 in
theorem m_setLimit {G : zT} {S : zS} {X : zXr} {out : Nat → Int64} {s : (Nat → Int32)} {past : (Nat → Int32)} {aside : (Nat → Int32)} {pasts : Nat} {txt : (Nat → Int32)} {typed : Nat} {thrown : Int32} {line : (Nat → Int32)} {need : (Nat → Int32)} {left : (Nat → Int32)} {slits : Nat} {slB : (Nat → Int32)} {slF : (Nat → Int32)} {slT : (Nat → Int32)} {at9 : Nat} {wd9 : Int32} {got : (Nat → Int32)} {ans : Int32} {worst : UInt32} (hG : zAl G = false) {c r w cnt lim : Nat} (hM : zMd s c r w cnt lim) (hp4 : pasts ≤ 4) (a : Nat) (ha : zFr (nI 1) (nI a) (nI 16) = true) (ha16 : a ≤ 16) : zRun G mX10_setLimit 0 0 [.ref 114, .int (nI a)] (zHp S X (s, past, aside, pasts, txt, typed, thrown, line, need, left, slits, slB, slF, slT, at9, wd9, got, ans, worst) out) (.inr (some (.int ((nI lim))))) (zHp S X ((rFg (upd s 4 (nI a)) (rFd (upd s 4 (nI a)) w a (c - 1) (0, slB, slF, slT)).2.1 (rFd (upd s 4 (nI a)) w a (c - 1) (0, slB, slF, slT)).2.2.1 (rFd (upd s 4 (nI a)) w a (c - 1) (0, slB, slF, slT)).1), (rSv past (zFl s aside 1371) pasts), (zFl s aside 1371), (min (pasts + 1) 4), txt, typed, (nI 0), line, need, left, (rFd (upd s 4 (nI a)) w a (c - 1) (0, slB, slF, slT)).1, (rFd (upd s 4 (nI a)) w a (c - 1) (0, slB, slF, slT)).2.1, (rFd (upd s 4 (nI a)) w a (c - 1) (0, slB, slF, slT)).2.2.1, (rFd (upd s 4 (nI a)) w a (c - 1) (0, slB, slF, slT)).2.2.2, at9, wd9, got, (nI lim), worst) out) := by
  have hM9 := hM
  refine zRun_of (by decide +kernel) rfl rfl (Nat.le_of_ble_eq_true rfl) ?_
  suffices hs : ∀ (o9 : zO) (h9 : zH), (Sum.inr (some (.int ((nI lim)))) : zO) = o9 → (zHp S X ((rFg (upd s 4 (nI a)) (rFd (upd s 4 (nI a)) w a (c - 1) (0, slB, slF, slT)).2.1 (rFd (upd s 4 (nI a)) w a (c - 1) (0, slB, slF, slT)).2.2.1 (rFd (upd s 4 (nI a)) w a (c - 1) (0, slB, slF, slT)).1), (rSv past (zFl s aside 1371) pasts), (zFl s aside 1371), (min (pasts + 1) 4), txt, typed, (nI 0), line, need, left, (rFd (upd s 4 (nI a)) w a (c - 1) (0, slB, slF, slT)).1, (rFd (upd s 4 (nI a)) w a (c - 1) (0, slB, slF, slT)).2.1, (rFd (upd s 4 (nI a)) w a (c - 1) (0, slB, slF, slT)).2.2.1, (rFd (upd s 4 (nI a)) w a (c - 1) (0, slB, slF, slT)).2.2.2, at9, wd9, got, (nI lim), worst) out) = h9 → zPW G mX10_setLimit 0 0 o9 h9 0 0 0 [(0, .ref 114), (1, .int (nI a))] [] (zHp S X (s, past, aside, pasts, txt, typed, thrown, line, need, left, slits, slB, slF, slT, at9, wd9, got, ans, worst) out) from hs _ _ rfl rfl
  intro o9 h9 ho9 hh9
  refine z_aload_n 0 dX10_setLimit_0 rfl rfl ?_
  refine z_callV (N := mX10_hold) 0 [] [] lX10_hold ⟨zw_1244, zw_1246, zw_43⟩ rfl zgo_114 rfl rfl (Nat.le_of_ble_eq_true rfl) (by decide) ⟨zlt, zlt⟩ ⟨Nat.zero_le _, Nat.zero_le _⟩ zal (m_hold hG) dX10_setLimit_1 ?_
  refine z_aload_n 0 dX10_setLimit_4 rfl rfl ?_
  refine z_aload_n 0 dX10_setLimit_5 rfl rfl ?_
  refine z_iload_n 1 dX10_setLimit_6 rfl rfl ?_
  refine z_callV (N := mX10_limits) 1 [.int (nI a)] [.ref 114] lX10_limits ⟨zw_1308, zw_1310, zw_52⟩ rfl zgo_114 rfl rfl (Nat.le_of_ble_eq_true rfl) (by decide) ⟨zlt, zlt⟩ ⟨Nat.zero_le _, Nat.zero_le _⟩ zal (m_limits hG hM9 a ha ha16) dX10_setLimit_7 ?_
  refine z_callV (N := mX10_ends) 1 [.int (nI 0)] [] lX10_ends ⟨zw_1255, zw_1257, zw_45⟩ rfl zgo_114 rfl rfl (Nat.le_of_ble_eq_true rfl) (by decide) ⟨zlt, zlt⟩ ⟨Nat.zero_le _, Nat.zero_le _⟩ zal (m_ends0 hG hp4) dX10_setLimit_10 ?_
  exact z_iret rfl dX10_setLimit_13 (zo_i ho9 (by rfl)) (zo_h hh9 (by rfl)) (Nat.zero_le _) (Nat.zero_le _)

set_option maxHeartbeats 4000000 in
set_option maxRecDepth 100000 in
theorem m_setLimit_1 {G : zT} {S : zS} {X : zXr} {out : Nat → Int64} {s : (Nat → Int32)} {past : (Nat → Int32)} {aside : (Nat → Int32)} {pasts : Nat} {txt : (Nat → Int32)} {typed : Nat} {thrown : Int32} {line : (Nat → Int32)} {need : (Nat → Int32)} {left : (Nat → Int32)} {slits : Nat} {slB : (Nat → Int32)} {slF : (Nat → Int32)} {slT : (Nat → Int32)} {at9 : Nat} {wd9 : Int32} {got : (Nat → Int32)} {ans : Int32} {worst : UInt32} (hG : zAl G = false) (a : Int32) (ha : zFr (nI 1) a (nI 16) = false) : zRun G mX10_setLimit 0 0 [.ref 114, .int a] (zHp S X (s, past, aside, pasts, txt, typed, thrown, line, need, left, slits, slB, slF, slT, at9, wd9, got, ans, worst) out) (.inr (some (.int (nI 0)))) (zHp S X (s, past, (zFl s aside 1371), pasts, txt, typed, (nI 1), line, need, left, slits, slB, slF, slT, at9, wd9, got, ans, worst) out) := by
  refine zRun_of (by decide +kernel) rfl rfl (Nat.le_of_ble_eq_true rfl) ?_
  suffices hs : ∀ (o9 : zO) (h9 : zH), (Sum.inr (some (.int (nI 0))) : zO) = o9 → (zHp S X (s, past, (zFl s aside 1371), pasts, txt, typed, (nI 1), line, need, left, slits, slB, slF, slT, at9, wd9, got, ans, worst) out) = h9 → zPW G mX10_setLimit 0 0 o9 h9 0 0 0 [(0, .ref 114), (1, .int a)] [] (zHp S X (s, past, aside, pasts, txt, typed, thrown, line, need, left, slits, slB, slF, slT, at9, wd9, got, ans, worst) out) from hs _ _ rfl rfl
  intro o9 h9 ho9 hh9
  refine z_aload_n 0 dX10_setLimit_0 rfl rfl ?_
  refine z_callV (N := mX10_hold) 0 [] [] lX10_hold ⟨zw_1244, zw_1246, zw_43⟩ rfl zgo_114 rfl rfl (Nat.le_of_ble_eq_true rfl) (by decide) ⟨zlt, zlt⟩ ⟨Nat.zero_le _, Nat.zero_le _⟩ zal (m_hold hG) dX10_setLimit_1 ?_
  refine z_aload_n 0 dX10_setLimit_4 rfl rfl ?_
  refine z_aload_n 0 dX10_setLimit_5 rfl rfl ?_
  refine z_iload_n 1 dX10_setLimit_6 rfl rfl ?_
  refine z_callV (N := mX10_limits) 1 [.int a] [.ref 114] lX10_limits ⟨zw_1308, zw_1310, zw_52⟩ rfl zgo_114 rfl rfl (Nat.le_of_ble_eq_true rfl) (by decide) ⟨zlt, zlt⟩ ⟨Nat.zero_le _, Nat.zero_le _⟩ (fun _ => rfl) (m_limits_x hG a ha) dX10_setLimit_7 ?_
  refine z_callV (N := mX10_ends) 1 [.int (nI 1)] [] lX10_ends ⟨zw_1255, zw_1257, zw_45⟩ rfl zgo_114 rfl rfl (Nat.le_of_ble_eq_true rfl) (by decide) ⟨zlt, zlt⟩ ⟨Nat.zero_le _, Nat.zero_le _⟩ zal (m_ends1 hG) dX10_setLimit_10 ?_
  exact z_iret rfl dX10_setLimit_13 (zo_i ho9 (by rfl)) (zo_h hh9 (by rfl)) (Nat.zero_le _) (Nat.zero_le _)

set_option maxHeartbeats 4000000 in
set_option maxRecDepth 100000 in
theorem m_plant {G : zT} {S : zS} {X : zXr} {out : Nat → Int64} {s : (Nat → Int32)} {past : (Nat → Int32)} {aside : (Nat → Int32)} {pasts : Nat} {txt : (Nat → Int32)} {typed : Nat} {thrown : Int32} {line : (Nat → Int32)} {need : (Nat → Int32)} {left : (Nat → Int32)} {slits : Nat} {slB : (Nat → Int32)} {slF : (Nat → Int32)} {slT : (Nat → Int32)} {at9 : Nat} {wd9 : Int32} {got : (Nat → Int32)} {ans : Int32} {worst : UInt32} (hG : zAl G = false) {c r w cnt lim : Nat} (hM : zMd s c r w cnt lim) (hp4 : pasts ≤ 4) (b : Nat) (v : Int32) (hb : b < c) (hv : zFr (nI 0) v (nI 7) = true) : zRun G mX10_plant 0 0 [.ref 114, .int (nI b), .int v] (zHp S X (s, past, aside, pasts, txt, typed, thrown, line, need, left, slits, slB, slF, slT, at9, wd9, got, ans, worst) out) (.inr (some (.int ((nI (zCt (fun b9 => !decide (upd s (71 + b) v (71 + b9) < 0)) c)))))) (zHp S X ((upd s (71 + b) v), (rSv past (zFl s aside 1371) pasts), (zFl s aside 1371), (min (pasts + 1) 4), txt, typed, (nI 0), line, need, left, slits, slB, slF, slT, at9, wd9, got, (nI (zCt (fun b9 => !decide (upd s (71 + b) v (71 + b9) < 0)) c)), worst) out) := by
  have hM9 := hM
  refine zRun_of (by decide +kernel) rfl rfl (Nat.le_of_ble_eq_true rfl) ?_
  suffices hs : ∀ (o9 : zO) (h9 : zH), (Sum.inr (some (.int ((nI (zCt (fun b9 => !decide (upd s (71 + b) v (71 + b9) < 0)) c))))) : zO) = o9 → (zHp S X ((upd s (71 + b) v), (rSv past (zFl s aside 1371) pasts), (zFl s aside 1371), (min (pasts + 1) 4), txt, typed, (nI 0), line, need, left, slits, slB, slF, slT, at9, wd9, got, (nI (zCt (fun b9 => !decide (upd s (71 + b) v (71 + b9) < 0)) c)), worst) out) = h9 → zPW G mX10_plant 0 0 o9 h9 0 0 0 [(0, .ref 114), (1, .int (nI b)), (2, .int v)] [] (zHp S X (s, past, aside, pasts, txt, typed, thrown, line, need, left, slits, slB, slF, slT, at9, wd9, got, ans, worst) out) from hs _ _ rfl rfl
  intro o9 h9 ho9 hh9
  refine z_aload_n 0 dX10_plant_0 rfl rfl ?_
  refine z_callV (N := mX10_hold) 0 [] [] lX10_hold ⟨zw_1244, zw_1246, zw_43⟩ rfl zgo_114 rfl rfl (Nat.le_of_ble_eq_true rfl) (by decide) ⟨zlt, zlt⟩ ⟨Nat.zero_le _, Nat.zero_le _⟩ zal (m_hold hG) dX10_plant_1 ?_
  refine z_aload_n 0 dX10_plant_4 rfl rfl ?_
  refine z_aload_n 0 dX10_plant_5 rfl rfl ?_
  refine z_iload_n 1 dX10_plant_6 rfl rfl ?_
  refine z_iload_n 2 dX10_plant_7 rfl rfl ?_
  refine z_callV (N := mX10_plants) 2 [.int (nI b), .int v] [.ref 114] lX10_plants ⟨zw_1336, zw_1338, zw_58⟩ rfl zgo_114 rfl rfl (Nat.le_of_ble_eq_true rfl) (by decide) ⟨zlt, zlt⟩ ⟨Nat.zero_le _, Nat.zero_le _⟩ zal (m_plants hG hM9 b v hb hv) dX10_plant_8 ?_
  refine z_callV (N := mX10_ends) 1 [.int (nI 0)] [] lX10_ends ⟨zw_1255, zw_1257, zw_45⟩ rfl zgo_114 rfl rfl (Nat.le_of_ble_eq_true rfl) (by decide) ⟨zlt, zlt⟩ ⟨Nat.zero_le _, Nat.zero_le _⟩ zal (m_ends0 hG hp4) dX10_plant_11 ?_
  exact z_iret rfl dX10_plant_14 (zo_i ho9 (by rfl)) (zo_h hh9 (by rfl)) (Nat.zero_le _) (Nat.zero_le _)

set_option maxHeartbeats 4000000 in
set_option maxRecDepth 100000 in
theorem m_plant_1 {G : zT} {S : zS} {X : zXr} {out : Nat → Int64} {s : (Nat → Int32)} {past : (Nat → Int32)} {aside : (Nat → Int32)} {pasts : Nat} {txt : (Nat → Int32)} {typed : Nat} {thrown : Int32} {line : (Nat → Int32)} {need : (Nat → Int32)} {left : (Nat → Int32)} {slits : Nat} {slB : (Nat → Int32)} {slF : (Nat → Int32)} {slT : (Nat → Int32)} {at9 : Nat} {wd9 : Int32} {got : (Nat → Int32)} {ans : Int32} {worst : UInt32} (hG : zAl G = false) {c r w cnt lim : Nat} (hM : zMd s c r w cnt lim) (b v : Int32) (hb : zIn b (nI c) = false) : zRun G mX10_plant 0 0 [.ref 114, .int b, .int v] (zHp S X (s, past, aside, pasts, txt, typed, thrown, line, need, left, slits, slB, slF, slT, at9, wd9, got, ans, worst) out) (.inr (some (.int (nI 0)))) (zHp S X (s, past, (zFl s aside 1371), pasts, txt, typed, (nI 1), line, need, left, slits, slB, slF, slT, at9, wd9, got, ans, worst) out) := by
  have hM9 := hM
  refine zRun_of (by decide +kernel) rfl rfl (Nat.le_of_ble_eq_true rfl) ?_
  suffices hs : ∀ (o9 : zO) (h9 : zH), (Sum.inr (some (.int (nI 0))) : zO) = o9 → (zHp S X (s, past, (zFl s aside 1371), pasts, txt, typed, (nI 1), line, need, left, slits, slB, slF, slT, at9, wd9, got, ans, worst) out) = h9 → zPW G mX10_plant 0 0 o9 h9 0 0 0 [(0, .ref 114), (1, .int b), (2, .int v)] [] (zHp S X (s, past, aside, pasts, txt, typed, thrown, line, need, left, slits, slB, slF, slT, at9, wd9, got, ans, worst) out) from hs _ _ rfl rfl
  intro o9 h9 ho9 hh9
  refine z_aload_n 0 dX10_plant_0 rfl rfl ?_
  refine z_callV (N := mX10_hold) 0 [] [] lX10_hold ⟨zw_1244, zw_1246, zw_43⟩ rfl zgo_114 rfl rfl (Nat.le_of_ble_eq_true rfl) (by decide) ⟨zlt, zlt⟩ ⟨Nat.zero_le _, Nat.zero_le _⟩ zal (m_hold hG) dX10_plant_1 ?_
  refine z_aload_n 0 dX10_plant_4 rfl rfl ?_
  refine z_aload_n 0 dX10_plant_5 rfl rfl ?_
  refine z_iload_n 1 dX10_plant_6 rfl rfl ?_
  refine z_iload_n 2 dX10_plant_7 rfl rfl ?_
  refine z_callV (N := mX10_plants) 2 [.int b, .int v] [.ref 114] lX10_plants ⟨zw_1336, zw_1338, zw_58⟩ rfl zgo_114 rfl rfl (Nat.le_of_ble_eq_true rfl) (by decide) ⟨zlt, zlt⟩ ⟨Nat.zero_le _, Nat.zero_le _⟩ (fun _ => rfl) (m_plants_1 hG hM9 b v hb) dX10_plant_8 ?_
  refine z_callV (N := mX10_ends) 1 [.int (nI 1)] [] lX10_ends ⟨zw_1255, zw_1257, zw_45⟩ rfl zgo_114 rfl rfl (Nat.le_of_ble_eq_true rfl) (by decide) ⟨zlt, zlt⟩ ⟨Nat.zero_le _, Nat.zero_le _⟩ zal (m_ends1 hG) dX10_plant_11 ?_
  exact z_iret rfl dX10_plant_14 (zo_i ho9 (by rfl)) (zo_h hh9 (by rfl)) (Nat.zero_le _) (Nat.zero_le _)

set_option maxHeartbeats 4000000 in
set_option maxRecDepth 100000 in
theorem m_plant_2 {G : zT} {S : zS} {X : zXr} {out : Nat → Int64} {s : (Nat → Int32)} {past : (Nat → Int32)} {aside : (Nat → Int32)} {pasts : Nat} {txt : (Nat → Int32)} {typed : Nat} {thrown : Int32} {line : (Nat → Int32)} {need : (Nat → Int32)} {left : (Nat → Int32)} {slits : Nat} {slB : (Nat → Int32)} {slF : (Nat → Int32)} {slT : (Nat → Int32)} {at9 : Nat} {wd9 : Int32} {got : (Nat → Int32)} {ans : Int32} {worst : UInt32} (hG : zAl G = false) {c r w cnt lim : Nat} (hM : zMd s c r w cnt lim) (b v : Int32) (hb : zIn b (nI c) = true) (hv : zFr (nI 0) v (nI 7) = false) : zRun G mX10_plant 0 0 [.ref 114, .int b, .int v] (zHp S X (s, past, aside, pasts, txt, typed, thrown, line, need, left, slits, slB, slF, slT, at9, wd9, got, ans, worst) out) (.inr (some (.int (nI 0)))) (zHp S X (s, past, (zFl s aside 1371), pasts, txt, typed, (nI 2), line, need, left, slits, slB, slF, slT, at9, wd9, got, ans, worst) out) := by
  have hM9 := hM
  refine zRun_of (by decide +kernel) rfl rfl (Nat.le_of_ble_eq_true rfl) ?_
  suffices hs : ∀ (o9 : zO) (h9 : zH), (Sum.inr (some (.int (nI 0))) : zO) = o9 → (zHp S X (s, past, (zFl s aside 1371), pasts, txt, typed, (nI 2), line, need, left, slits, slB, slF, slT, at9, wd9, got, ans, worst) out) = h9 → zPW G mX10_plant 0 0 o9 h9 0 0 0 [(0, .ref 114), (1, .int b), (2, .int v)] [] (zHp S X (s, past, aside, pasts, txt, typed, thrown, line, need, left, slits, slB, slF, slT, at9, wd9, got, ans, worst) out) from hs _ _ rfl rfl
  intro o9 h9 ho9 hh9
  refine z_aload_n 0 dX10_plant_0 rfl rfl ?_
  refine z_callV (N := mX10_hold) 0 [] [] lX10_hold ⟨zw_1244, zw_1246, zw_43⟩ rfl zgo_114 rfl rfl (Nat.le_of_ble_eq_true rfl) (by decide) ⟨zlt, zlt⟩ ⟨Nat.zero_le _, Nat.zero_le _⟩ zal (m_hold hG) dX10_plant_1 ?_
  refine z_aload_n 0 dX10_plant_4 rfl rfl ?_
  refine z_aload_n 0 dX10_plant_5 rfl rfl ?_
  refine z_iload_n 1 dX10_plant_6 rfl rfl ?_
  refine z_iload_n 2 dX10_plant_7 rfl rfl ?_
  refine z_callV (N := mX10_plants) 2 [.int b, .int v] [.ref 114] lX10_plants ⟨zw_1336, zw_1338, zw_58⟩ rfl zgo_114 rfl rfl (Nat.le_of_ble_eq_true rfl) (by decide) ⟨zlt, zlt⟩ ⟨Nat.zero_le _, Nat.zero_le _⟩ (fun _ => rfl) (m_plants_2 hG hM9 b v hb hv) dX10_plant_8 ?_
  refine z_callV (N := mX10_ends) 1 [.int (nI 2)] [] lX10_ends ⟨zw_1255, zw_1257, zw_45⟩ rfl zgo_114 rfl rfl (Nat.le_of_ble_eq_true rfl) (by decide) ⟨zlt, zlt⟩ ⟨Nat.zero_le _, Nat.zero_le _⟩ zal (m_ends2 hG) dX10_plant_11 ?_
  exact z_iret rfl dX10_plant_14 (zo_i ho9 (by rfl)) (zo_h hh9 (by rfl)) (Nat.zero_le _) (Nat.zero_le _)

set_option maxHeartbeats 4000000 in
set_option maxRecDepth 100000 in
theorem m_unweave {G : zT} {S : zS} {X : zXr} {out : Nat → Int64} {s : (Nat → Int32)} {past : (Nat → Int32)} {aside : (Nat → Int32)} {pasts : Nat} {txt : (Nat → Int32)} {typed : Nat} {thrown : Int32} {line : (Nat → Int32)} {need : (Nat → Int32)} {left : (Nat → Int32)} {slits : Nat} {slB : (Nat → Int32)} {slF : (Nat → Int32)} {slT : (Nat → Int32)} {at9 : Nat} {wd9 : Int32} {got : (Nat → Int32)} {ans : Int32} {worst : UInt32} (hG : zAl G = false) {c r w cnt lim : Nat} (hM : zMd s c r w cnt lim) (hp4 : pasts ≤ 4) (n : Nat) (hn9 : zFr (nI 1) (nI n) (nI 16) = true) (hn16 : n ≤ 16) (hnw : n ≤ w) (hY : ∀ y b, y < w → b < c → rY s y b = -1 ∨ ∃ j, j < 16 ∧ rY s y b = nI j) : zRun G mX10_unweave 0 0 [.ref 114, .int (nI n)] (zHp S X (s, past, aside, pasts, txt, typed, thrown, line, need, left, slits, slB, slF, slT, at9, wd9, got, ans, worst) out) (.inr (some (.int ((nI (n * c)))))) (zHp S X ((rFg (upd (rUw s c (w - n) n s) 2 (nI (w - n))) (rFd (upd (rUw s c (w - n) n s) 2 (nI (w - n))) (w - n) lim (c - 1) (0, slB, slF, slT)).2.1 (rFd (upd (rUw s c (w - n) n s) 2 (nI (w - n))) (w - n) lim (c - 1) (0, slB, slF, slT)).2.2.1 (rFd (upd (rUw s c (w - n) n s) 2 (nI (w - n))) (w - n) lim (c - 1) (0, slB, slF, slT)).1), (rSv past (zFl s aside 1371) pasts), (zFl s aside 1371), (min (pasts + 1) 4), txt, typed, (nI 0), line, need, left, (rFd (upd (rUw s c (w - n) n s) 2 (nI (w - n))) (w - n) lim (c - 1) (0, slB, slF, slT)).1, (rFd (upd (rUw s c (w - n) n s) 2 (nI (w - n))) (w - n) lim (c - 1) (0, slB, slF, slT)).2.1, (rFd (upd (rUw s c (w - n) n s) 2 (nI (w - n))) (w - n) lim (c - 1) (0, slB, slF, slT)).2.2.1, (rFd (upd (rUw s c (w - n) n s) 2 (nI (w - n))) (w - n) lim (c - 1) (0, slB, slF, slT)).2.2.2, at9, wd9, got, (nI (n * c)), worst) out) := by
  have hM9 := hM
  refine zRun_of (by decide +kernel) rfl rfl (Nat.le_of_ble_eq_true rfl) ?_
  suffices hs : ∀ (o9 : zO) (h9 : zH), (Sum.inr (some (.int ((nI (n * c))))) : zO) = o9 → (zHp S X ((rFg (upd (rUw s c (w - n) n s) 2 (nI (w - n))) (rFd (upd (rUw s c (w - n) n s) 2 (nI (w - n))) (w - n) lim (c - 1) (0, slB, slF, slT)).2.1 (rFd (upd (rUw s c (w - n) n s) 2 (nI (w - n))) (w - n) lim (c - 1) (0, slB, slF, slT)).2.2.1 (rFd (upd (rUw s c (w - n) n s) 2 (nI (w - n))) (w - n) lim (c - 1) (0, slB, slF, slT)).1), (rSv past (zFl s aside 1371) pasts), (zFl s aside 1371), (min (pasts + 1) 4), txt, typed, (nI 0), line, need, left, (rFd (upd (rUw s c (w - n) n s) 2 (nI (w - n))) (w - n) lim (c - 1) (0, slB, slF, slT)).1, (rFd (upd (rUw s c (w - n) n s) 2 (nI (w - n))) (w - n) lim (c - 1) (0, slB, slF, slT)).2.1, (rFd (upd (rUw s c (w - n) n s) 2 (nI (w - n))) (w - n) lim (c - 1) (0, slB, slF, slT)).2.2.1, (rFd (upd (rUw s c (w - n) n s) 2 (nI (w - n))) (w - n) lim (c - 1) (0, slB, slF, slT)).2.2.2, at9, wd9, got, (nI (n * c)), worst) out) = h9 → zPW G mX10_unweave 0 0 o9 h9 0 0 0 [(0, .ref 114), (1, .int (nI n))] [] (zHp S X (s, past, aside, pasts, txt, typed, thrown, line, need, left, slits, slB, slF, slT, at9, wd9, got, ans, worst) out) from hs _ _ rfl rfl
  intro o9 h9 ho9 hh9
  refine z_aload_n 0 dX10_unweave_0 rfl rfl ?_
  refine z_callV (N := mX10_hold) 0 [] [] lX10_hold ⟨zw_1244, zw_1246, zw_43⟩ rfl zgo_114 rfl rfl (Nat.le_of_ble_eq_true rfl) (by decide) ⟨zlt, zlt⟩ ⟨Nat.zero_le _, Nat.zero_le _⟩ zal (m_hold hG) dX10_unweave_1 ?_
  refine z_aload_n 0 dX10_unweave_4 rfl rfl ?_
  refine z_aload_n 0 dX10_unweave_5 rfl rfl ?_
  refine z_iload_n 1 dX10_unweave_6 rfl rfl ?_
  refine z_callV (N := mX10_unweaves) 1 [.int (nI n)] [.ref 114] lX10_unweaves ⟨zw_1396, zw_1398, zw_71⟩ rfl zgo_114 rfl rfl (Nat.le_of_ble_eq_true rfl) (by decide) ⟨zlt, zlt⟩ ⟨Nat.zero_le _, Nat.zero_le _⟩ zal (m_unweaves hG hM9 n hn9 hn16 hnw hY) dX10_unweave_7 ?_
  refine z_callV (N := mX10_ends) 1 [.int (nI 0)] [] lX10_ends ⟨zw_1255, zw_1257, zw_45⟩ rfl zgo_114 rfl rfl (Nat.le_of_ble_eq_true rfl) (by decide) ⟨zlt, zlt⟩ ⟨Nat.zero_le _, Nat.zero_le _⟩ zal (m_ends0 hG hp4) dX10_unweave_10 ?_
  exact z_iret rfl dX10_unweave_13 (zo_i ho9 (by rfl)) (zo_h hh9 (by rfl)) (Nat.zero_le _) (Nat.zero_le _)

set_option maxHeartbeats 4000000 in
set_option maxRecDepth 100000 in
theorem m_unweave_1 {G : zT} {S : zS} {X : zXr} {out : Nat → Int64} {s : (Nat → Int32)} {past : (Nat → Int32)} {aside : (Nat → Int32)} {pasts : Nat} {txt : (Nat → Int32)} {typed : Nat} {thrown : Int32} {line : (Nat → Int32)} {need : (Nat → Int32)} {left : (Nat → Int32)} {slits : Nat} {slB : (Nat → Int32)} {slF : (Nat → Int32)} {slT : (Nat → Int32)} {at9 : Nat} {wd9 : Int32} {got : (Nat → Int32)} {ans : Int32} {worst : UInt32} (hG : zAl G = false) (n : Int32) (hn9 : zFr (nI 1) n (nI 16) = false) : zRun G mX10_unweave 0 0 [.ref 114, .int n] (zHp S X (s, past, aside, pasts, txt, typed, thrown, line, need, left, slits, slB, slF, slT, at9, wd9, got, ans, worst) out) (.inr (some (.int (nI 0)))) (zHp S X (s, past, (zFl s aside 1371), pasts, txt, typed, (nI 1), line, need, left, slits, slB, slF, slT, at9, wd9, got, ans, worst) out) := by
  refine zRun_of (by decide +kernel) rfl rfl (Nat.le_of_ble_eq_true rfl) ?_
  suffices hs : ∀ (o9 : zO) (h9 : zH), (Sum.inr (some (.int (nI 0))) : zO) = o9 → (zHp S X (s, past, (zFl s aside 1371), pasts, txt, typed, (nI 1), line, need, left, slits, slB, slF, slT, at9, wd9, got, ans, worst) out) = h9 → zPW G mX10_unweave 0 0 o9 h9 0 0 0 [(0, .ref 114), (1, .int n)] [] (zHp S X (s, past, aside, pasts, txt, typed, thrown, line, need, left, slits, slB, slF, slT, at9, wd9, got, ans, worst) out) from hs _ _ rfl rfl
  intro o9 h9 ho9 hh9
  refine z_aload_n 0 dX10_unweave_0 rfl rfl ?_
  refine z_callV (N := mX10_hold) 0 [] [] lX10_hold ⟨zw_1244, zw_1246, zw_43⟩ rfl zgo_114 rfl rfl (Nat.le_of_ble_eq_true rfl) (by decide) ⟨zlt, zlt⟩ ⟨Nat.zero_le _, Nat.zero_le _⟩ zal (m_hold hG) dX10_unweave_1 ?_
  refine z_aload_n 0 dX10_unweave_4 rfl rfl ?_
  refine z_aload_n 0 dX10_unweave_5 rfl rfl ?_
  refine z_iload_n 1 dX10_unweave_6 rfl rfl ?_
  refine z_callV (N := mX10_unweaves) 1 [.int n] [.ref 114] lX10_unweaves ⟨zw_1396, zw_1398, zw_71⟩ rfl zgo_114 rfl rfl (Nat.le_of_ble_eq_true rfl) (by decide) ⟨zlt, zlt⟩ ⟨Nat.zero_le _, Nat.zero_le _⟩ (fun _ => rfl) (m_unweaves_1 hG n hn9) dX10_unweave_7 ?_
  refine z_callV (N := mX10_ends) 1 [.int (nI 1)] [] lX10_ends ⟨zw_1255, zw_1257, zw_45⟩ rfl zgo_114 rfl rfl (Nat.le_of_ble_eq_true rfl) (by decide) ⟨zlt, zlt⟩ ⟨Nat.zero_le _, Nat.zero_le _⟩ zal (m_ends1 hG) dX10_unweave_10 ?_
  exact z_iret rfl dX10_unweave_13 (zo_i ho9 (by rfl)) (zo_h hh9 (by rfl)) (Nat.zero_le _) (Nat.zero_le _)

set_option maxHeartbeats 4000000 in
set_option maxRecDepth 100000 in
theorem m_unweave_2 {G : zT} {S : zS} {X : zXr} {out : Nat → Int64} {s : (Nat → Int32)} {past : (Nat → Int32)} {aside : (Nat → Int32)} {pasts : Nat} {txt : (Nat → Int32)} {typed : Nat} {thrown : Int32} {line : (Nat → Int32)} {need : (Nat → Int32)} {left : (Nat → Int32)} {slits : Nat} {slB : (Nat → Int32)} {slF : (Nat → Int32)} {slT : (Nat → Int32)} {at9 : Nat} {wd9 : Int32} {got : (Nat → Int32)} {ans : Int32} {worst : UInt32} (hG : zAl G = false) {c r w cnt lim : Nat} (hM : zMd s c r w cnt lim) (n : Nat) (hn9 : zFr (nI 1) (nI n) (nI 16) = true) (hn16 : n ≤ 16) (hnw : w < n) : zRun G mX10_unweave 0 0 [.ref 114, .int (nI n)] (zHp S X (s, past, aside, pasts, txt, typed, thrown, line, need, left, slits, slB, slF, slT, at9, wd9, got, ans, worst) out) (.inr (some (.int (nI 0)))) (zHp S X (s, past, (zFl s aside 1371), pasts, txt, typed, (nI 2), line, need, left, slits, slB, slF, slT, at9, wd9, got, ans, worst) out) := by
  have hM9 := hM
  refine zRun_of (by decide +kernel) rfl rfl (Nat.le_of_ble_eq_true rfl) ?_
  suffices hs : ∀ (o9 : zO) (h9 : zH), (Sum.inr (some (.int (nI 0))) : zO) = o9 → (zHp S X (s, past, (zFl s aside 1371), pasts, txt, typed, (nI 2), line, need, left, slits, slB, slF, slT, at9, wd9, got, ans, worst) out) = h9 → zPW G mX10_unweave 0 0 o9 h9 0 0 0 [(0, .ref 114), (1, .int (nI n))] [] (zHp S X (s, past, aside, pasts, txt, typed, thrown, line, need, left, slits, slB, slF, slT, at9, wd9, got, ans, worst) out) from hs _ _ rfl rfl
  intro o9 h9 ho9 hh9
  refine z_aload_n 0 dX10_unweave_0 rfl rfl ?_
  refine z_callV (N := mX10_hold) 0 [] [] lX10_hold ⟨zw_1244, zw_1246, zw_43⟩ rfl zgo_114 rfl rfl (Nat.le_of_ble_eq_true rfl) (by decide) ⟨zlt, zlt⟩ ⟨Nat.zero_le _, Nat.zero_le _⟩ zal (m_hold hG) dX10_unweave_1 ?_
  refine z_aload_n 0 dX10_unweave_4 rfl rfl ?_
  refine z_aload_n 0 dX10_unweave_5 rfl rfl ?_
  refine z_iload_n 1 dX10_unweave_6 rfl rfl ?_
  refine z_callV (N := mX10_unweaves) 1 [.int (nI n)] [.ref 114] lX10_unweaves ⟨zw_1396, zw_1398, zw_71⟩ rfl zgo_114 rfl rfl (Nat.le_of_ble_eq_true rfl) (by decide) ⟨zlt, zlt⟩ ⟨Nat.zero_le _, Nat.zero_le _⟩ (fun _ => rfl) (m_unweaves_2 hG hM9 n hn9 hn16 hnw) dX10_unweave_7 ?_
  refine z_callV (N := mX10_ends) 1 [.int (nI 2)] [] lX10_ends ⟨zw_1255, zw_1257, zw_45⟩ rfl zgo_114 rfl rfl (Nat.le_of_ble_eq_true rfl) (by decide) ⟨zlt, zlt⟩ ⟨Nat.zero_le _, Nat.zero_le _⟩ zal (m_ends2 hG) dX10_unweave_10 ?_
  exact z_iret rfl dX10_unweave_13 (zo_i ho9 (by rfl)) (zo_h hh9 (by rfl)) (Nat.zero_le _) (Nat.zero_le _)

set_option maxHeartbeats 4000000 in
set_option maxRecDepth 100000 in
theorem m_sew {G : zT} {S : zS} {X : zXr} {out : Nat → Int64} {s : (Nat → Int32)} {past : (Nat → Int32)} {aside : (Nat → Int32)} {pasts : Nat} {txt : (Nat → Int32)} {typed : Nat} {thrown : Int32} {line : (Nat → Int32)} {need : (Nat → Int32)} {left : (Nat → Int32)} {slits : Nat} {slB : (Nat → Int32)} {slF : (Nat → Int32)} {slT : (Nat → Int32)} {at9 : Nat} {wd9 : Int32} {got : (Nat → Int32)} {ans : Int32} {worst : UInt32} (hG : zAl G = false) {c r w cnt lim : Nat} (hM : zMd s c r w cnt lim) (hp4 : pasts ≤ 4) (ix : Nat) (hi : ix < (rFd s w lim (c - 1) (0, slB, slF, slT)).1) (hse : (s (rSx (rFd s w lim (c - 1) (0, slB, slF, slT)).2.1 (rFd s w lim (c - 1) (0, slB, slF, slT)).2.2.1 ix) == nI 1) = false) : zRun G mX10_sew 0 0 [.ref 114, .int (nI ix)] (zHp S X (s, past, aside, pasts, txt, typed, thrown, line, need, left, slits, slB, slF, slT, at9, wd9, got, ans, worst) out) (.inr (some (.int ((nI (rFd s w lim (c - 1) (0, slB, slF, slT)).1 - nI (zCt (fun k => (upd s (rSx (rFd s w lim (c - 1) (0, slB, slF, slT)).2.1 (rFd s w lim (c - 1) (0, slB, slF, slT)).2.2.1 ix) (nI 1)) (rSx (rFd s w lim (c - 1) (0, slB, slF, slT)).2.1 (rFd s w lim (c - 1) (0, slB, slF, slT)).2.2.1 k) == nI 1) (rFd s w lim (c - 1) (0, slB, slF, slT)).1)))))) (zHp S X ((upd s (rSx (rFd s w lim (c - 1) (0, slB, slF, slT)).2.1 (rFd s w lim (c - 1) (0, slB, slF, slT)).2.2.1 ix) (nI 1)), (rSv past (zFl s aside 1371) pasts), (zFl s aside 1371), (min (pasts + 1) 4), txt, typed, (nI 0), line, need, left, (rFd s w lim (c - 1) (0, slB, slF, slT)).1, (rFd s w lim (c - 1) (0, slB, slF, slT)).2.1, (rFd s w lim (c - 1) (0, slB, slF, slT)).2.2.1, (rFd s w lim (c - 1) (0, slB, slF, slT)).2.2.2, at9, wd9, got, (nI (rFd s w lim (c - 1) (0, slB, slF, slT)).1 - nI (zCt (fun k => (upd s (rSx (rFd s w lim (c - 1) (0, slB, slF, slT)).2.1 (rFd s w lim (c - 1) (0, slB, slF, slT)).2.2.1 ix) (nI 1)) (rSx (rFd s w lim (c - 1) (0, slB, slF, slT)).2.1 (rFd s w lim (c - 1) (0, slB, slF, slT)).2.2.1 k) == nI 1) (rFd s w lim (c - 1) (0, slB, slF, slT)).1)), worst) out) := by
  have hM9 := hM
  refine zRun_of (by decide +kernel) rfl rfl (Nat.le_of_ble_eq_true rfl) ?_
  suffices hs : ∀ (o9 : zO) (h9 : zH), (Sum.inr (some (.int ((nI (rFd s w lim (c - 1) (0, slB, slF, slT)).1 - nI (zCt (fun k => (upd s (rSx (rFd s w lim (c - 1) (0, slB, slF, slT)).2.1 (rFd s w lim (c - 1) (0, slB, slF, slT)).2.2.1 ix) (nI 1)) (rSx (rFd s w lim (c - 1) (0, slB, slF, slT)).2.1 (rFd s w lim (c - 1) (0, slB, slF, slT)).2.2.1 k) == nI 1) (rFd s w lim (c - 1) (0, slB, slF, slT)).1))))) : zO) = o9 → (zHp S X ((upd s (rSx (rFd s w lim (c - 1) (0, slB, slF, slT)).2.1 (rFd s w lim (c - 1) (0, slB, slF, slT)).2.2.1 ix) (nI 1)), (rSv past (zFl s aside 1371) pasts), (zFl s aside 1371), (min (pasts + 1) 4), txt, typed, (nI 0), line, need, left, (rFd s w lim (c - 1) (0, slB, slF, slT)).1, (rFd s w lim (c - 1) (0, slB, slF, slT)).2.1, (rFd s w lim (c - 1) (0, slB, slF, slT)).2.2.1, (rFd s w lim (c - 1) (0, slB, slF, slT)).2.2.2, at9, wd9, got, (nI (rFd s w lim (c - 1) (0, slB, slF, slT)).1 - nI (zCt (fun k => (upd s (rSx (rFd s w lim (c - 1) (0, slB, slF, slT)).2.1 (rFd s w lim (c - 1) (0, slB, slF, slT)).2.2.1 ix) (nI 1)) (rSx (rFd s w lim (c - 1) (0, slB, slF, slT)).2.1 (rFd s w lim (c - 1) (0, slB, slF, slT)).2.2.1 k) == nI 1) (rFd s w lim (c - 1) (0, slB, slF, slT)).1)), worst) out) = h9 → zPW G mX10_sew 0 0 o9 h9 0 0 0 [(0, .ref 114), (1, .int (nI ix))] [] (zHp S X (s, past, aside, pasts, txt, typed, thrown, line, need, left, slits, slB, slF, slT, at9, wd9, got, ans, worst) out) from hs _ _ rfl rfl
  intro o9 h9 ho9 hh9
  refine z_aload_n 0 dX10_sew_0 rfl rfl ?_
  refine z_callV (N := mX10_hold) 0 [] [] lX10_hold ⟨zw_1244, zw_1246, zw_43⟩ rfl zgo_114 rfl rfl (Nat.le_of_ble_eq_true rfl) (by decide) ⟨zlt, zlt⟩ ⟨Nat.zero_le _, Nat.zero_le _⟩ zal (m_hold hG) dX10_sew_1 ?_
  refine z_aload_n 0 dX10_sew_4 rfl rfl ?_
  refine z_aload_n 0 dX10_sew_5 rfl rfl ?_
  refine z_iload_n 1 dX10_sew_6 rfl rfl ?_
  refine z_callV (N := mX10_sews) 1 [.int (nI ix)] [.ref 114] lX10_sews ⟨zw_1408, zw_1410, zw_73⟩ rfl zgo_114 rfl rfl (Nat.le_of_ble_eq_true rfl) (by decide) ⟨zlt, zlt⟩ ⟨Nat.zero_le _, Nat.zero_le _⟩ zal (m_sews hG hM9 ix hi hse) dX10_sew_7 ?_
  refine z_callV (N := mX10_ends) 1 [.int (nI 0)] [] lX10_ends ⟨zw_1255, zw_1257, zw_45⟩ rfl zgo_114 rfl rfl (Nat.le_of_ble_eq_true rfl) (by decide) ⟨zlt, zlt⟩ ⟨Nat.zero_le _, Nat.zero_le _⟩ zal (m_ends0 hG hp4) dX10_sew_10 ?_
  exact z_iret rfl dX10_sew_13 (zo_i ho9 (by rfl)) (zo_h hh9 (by rfl)) (Nat.zero_le _) (Nat.zero_le _)

set_option maxHeartbeats 4000000 in
set_option maxRecDepth 100000 in
theorem m_sew_1 {G : zT} {S : zS} {X : zXr} {out : Nat → Int64} {s : (Nat → Int32)} {past : (Nat → Int32)} {aside : (Nat → Int32)} {pasts : Nat} {txt : (Nat → Int32)} {typed : Nat} {thrown : Int32} {line : (Nat → Int32)} {need : (Nat → Int32)} {left : (Nat → Int32)} {slits : Nat} {slB : (Nat → Int32)} {slF : (Nat → Int32)} {slT : (Nat → Int32)} {at9 : Nat} {wd9 : Int32} {got : (Nat → Int32)} {ans : Int32} {worst : UInt32} (hG : zAl G = false) {c r w cnt lim : Nat} (hM : zMd s c r w cnt lim) (ix : Int32) (hi : zIn ix (nI (rFd s w lim (c - 1) (0, slB, slF, slT)).1) = false) : zRun G mX10_sew 0 0 [.ref 114, .int ix] (zHp S X (s, past, aside, pasts, txt, typed, thrown, line, need, left, slits, slB, slF, slT, at9, wd9, got, ans, worst) out) (.inr (some (.int (nI 0)))) (zHp S X (s, past, (zFl s aside 1371), pasts, txt, typed, (nI 1), line, need, left, (rFd s w lim (c - 1) (0, slB, slF, slT)).1, (rFd s w lim (c - 1) (0, slB, slF, slT)).2.1, (rFd s w lim (c - 1) (0, slB, slF, slT)).2.2.1, (rFd s w lim (c - 1) (0, slB, slF, slT)).2.2.2, at9, wd9, got, ans, worst) out) := by
  have hM9 := hM
  refine zRun_of (by decide +kernel) rfl rfl (Nat.le_of_ble_eq_true rfl) ?_
  suffices hs : ∀ (o9 : zO) (h9 : zH), (Sum.inr (some (.int (nI 0))) : zO) = o9 → (zHp S X (s, past, (zFl s aside 1371), pasts, txt, typed, (nI 1), line, need, left, (rFd s w lim (c - 1) (0, slB, slF, slT)).1, (rFd s w lim (c - 1) (0, slB, slF, slT)).2.1, (rFd s w lim (c - 1) (0, slB, slF, slT)).2.2.1, (rFd s w lim (c - 1) (0, slB, slF, slT)).2.2.2, at9, wd9, got, ans, worst) out) = h9 → zPW G mX10_sew 0 0 o9 h9 0 0 0 [(0, .ref 114), (1, .int ix)] [] (zHp S X (s, past, aside, pasts, txt, typed, thrown, line, need, left, slits, slB, slF, slT, at9, wd9, got, ans, worst) out) from hs _ _ rfl rfl
  intro o9 h9 ho9 hh9
  refine z_aload_n 0 dX10_sew_0 rfl rfl ?_
  refine z_callV (N := mX10_hold) 0 [] [] lX10_hold ⟨zw_1244, zw_1246, zw_43⟩ rfl zgo_114 rfl rfl (Nat.le_of_ble_eq_true rfl) (by decide) ⟨zlt, zlt⟩ ⟨Nat.zero_le _, Nat.zero_le _⟩ zal (m_hold hG) dX10_sew_1 ?_
  refine z_aload_n 0 dX10_sew_4 rfl rfl ?_
  refine z_aload_n 0 dX10_sew_5 rfl rfl ?_
  refine z_iload_n 1 dX10_sew_6 rfl rfl ?_
  refine z_callV (N := mX10_sews) 1 [.int ix] [.ref 114] lX10_sews ⟨zw_1408, zw_1410, zw_73⟩ rfl zgo_114 rfl rfl (Nat.le_of_ble_eq_true rfl) (by decide) ⟨zlt, zlt⟩ ⟨Nat.zero_le _, Nat.zero_le _⟩ zal (m_sews_1 hG hM9 ix hi) dX10_sew_7 ?_
  refine z_callV (N := mX10_ends) 1 [.int (nI 1)] [] lX10_ends ⟨zw_1255, zw_1257, zw_45⟩ rfl zgo_114 rfl rfl (Nat.le_of_ble_eq_true rfl) (by decide) ⟨zlt, zlt⟩ ⟨Nat.zero_le _, Nat.zero_le _⟩ zal (m_ends1 hG) dX10_sew_10 ?_
  exact z_iret rfl dX10_sew_13 (zo_i ho9 (by rfl)) (zo_h hh9 (by rfl)) (Nat.zero_le _) (Nat.zero_le _)

set_option maxHeartbeats 4000000 in
set_option maxRecDepth 100000 in
theorem m_sew_2 {G : zT} {S : zS} {X : zXr} {out : Nat → Int64} {s : (Nat → Int32)} {past : (Nat → Int32)} {aside : (Nat → Int32)} {pasts : Nat} {txt : (Nat → Int32)} {typed : Nat} {thrown : Int32} {line : (Nat → Int32)} {need : (Nat → Int32)} {left : (Nat → Int32)} {slits : Nat} {slB : (Nat → Int32)} {slF : (Nat → Int32)} {slT : (Nat → Int32)} {at9 : Nat} {wd9 : Int32} {got : (Nat → Int32)} {ans : Int32} {worst : UInt32} (hG : zAl G = false) {c r w cnt lim : Nat} (hM : zMd s c r w cnt lim) (ix : Nat) (hi : ix < (rFd s w lim (c - 1) (0, slB, slF, slT)).1) (hse : (s (rSx (rFd s w lim (c - 1) (0, slB, slF, slT)).2.1 (rFd s w lim (c - 1) (0, slB, slF, slT)).2.2.1 ix) == nI 1) = true) : zRun G mX10_sew 0 0 [.ref 114, .int (nI ix)] (zHp S X (s, past, aside, pasts, txt, typed, thrown, line, need, left, slits, slB, slF, slT, at9, wd9, got, ans, worst) out) (.inr (some (.int (nI 0)))) (zHp S X (s, past, (zFl s aside 1371), pasts, txt, typed, (nI 2), line, need, left, (rFd s w lim (c - 1) (0, slB, slF, slT)).1, (rFd s w lim (c - 1) (0, slB, slF, slT)).2.1, (rFd s w lim (c - 1) (0, slB, slF, slT)).2.2.1, (rFd s w lim (c - 1) (0, slB, slF, slT)).2.2.2, at9, wd9, got, ans, worst) out) := by
  have hM9 := hM
  refine zRun_of (by decide +kernel) rfl rfl (Nat.le_of_ble_eq_true rfl) ?_
  suffices hs : ∀ (o9 : zO) (h9 : zH), (Sum.inr (some (.int (nI 0))) : zO) = o9 → (zHp S X (s, past, (zFl s aside 1371), pasts, txt, typed, (nI 2), line, need, left, (rFd s w lim (c - 1) (0, slB, slF, slT)).1, (rFd s w lim (c - 1) (0, slB, slF, slT)).2.1, (rFd s w lim (c - 1) (0, slB, slF, slT)).2.2.1, (rFd s w lim (c - 1) (0, slB, slF, slT)).2.2.2, at9, wd9, got, ans, worst) out) = h9 → zPW G mX10_sew 0 0 o9 h9 0 0 0 [(0, .ref 114), (1, .int (nI ix))] [] (zHp S X (s, past, aside, pasts, txt, typed, thrown, line, need, left, slits, slB, slF, slT, at9, wd9, got, ans, worst) out) from hs _ _ rfl rfl
  intro o9 h9 ho9 hh9
  refine z_aload_n 0 dX10_sew_0 rfl rfl ?_
  refine z_callV (N := mX10_hold) 0 [] [] lX10_hold ⟨zw_1244, zw_1246, zw_43⟩ rfl zgo_114 rfl rfl (Nat.le_of_ble_eq_true rfl) (by decide) ⟨zlt, zlt⟩ ⟨Nat.zero_le _, Nat.zero_le _⟩ zal (m_hold hG) dX10_sew_1 ?_
  refine z_aload_n 0 dX10_sew_4 rfl rfl ?_
  refine z_aload_n 0 dX10_sew_5 rfl rfl ?_
  refine z_iload_n 1 dX10_sew_6 rfl rfl ?_
  refine z_callV (N := mX10_sews) 1 [.int (nI ix)] [.ref 114] lX10_sews ⟨zw_1408, zw_1410, zw_73⟩ rfl zgo_114 rfl rfl (Nat.le_of_ble_eq_true rfl) (by decide) ⟨zlt, zlt⟩ ⟨Nat.zero_le _, Nat.zero_le _⟩ zal (m_sews_2 hG hM9 ix hi hse) dX10_sew_7 ?_
  refine z_callV (N := mX10_ends) 1 [.int (nI 2)] [] lX10_ends ⟨zw_1255, zw_1257, zw_45⟩ rfl zgo_114 rfl rfl (Nat.le_of_ble_eq_true rfl) (by decide) ⟨zlt, zlt⟩ ⟨Nat.zero_le _, Nat.zero_le _⟩ zal (m_ends2 hG) dX10_sew_10 ?_
  exact z_iret rfl dX10_sew_13 (zo_i ho9 (by rfl)) (zo_h hh9 (by rfl)) (Nat.zero_le _) (Nat.zero_le _)

/-- one row: whether it was woven, the row of numbers, the line, the woven rows -/
def rW1 (c r cnt : Nat) (q : (Nat → Int32) × (Nat → Int32) × Nat) : Bool × (Nat → Int32) × (Nat → Int32) × Nat :=
  if q.2.2 = r then (false, q)
  else if zAF (rEno q.1 (zFl (rDl q.1 c q.2.2) q.2.1 c) c cnt) 0 8 then (true, upd (zIt (rWst (zFl (rDl q.1 c q.2.2) q.2.1 c) q.2.2 cnt) c q.1) 2 (nI (q.2.2 + 1)), zFl (rDl q.1 c q.2.2) q.2.1 c, q.2.2 + 1)
  else (false, q.1, zFl (rDl q.1 c q.2.2) q.2.1 c, q.2.2)
theorem zAF_iff {p : Nat → Bool} : ∀ d a : Nat, zAF p a d = true ↔ ∀ k, a ≤ k → k < a + d → p k = true
  | 0, a => ⟨fun _ k h1 h2 => absurd h2 (by omega), fun _ => rfl⟩
  | d + 1, a => by
    unfold zAF
    cases h : p a
    · refine ⟨fun q => ?_, fun q => ?_⟩
      · rw [if_neg (by decide)] at q; cases q
      · rw [q a (Nat.le_refl _) (by omega)] at h; cases h
    · rw [if_pos rfl, zAF_iff d (a + 1)]
      refine ⟨fun q k h1 h2 => ?_, fun q k h1 h2 => q k (by omega) (by omega)⟩
      rcases Nat.eq_or_lt_of_le h1 with e | e
      · subst e; exact h
      · exact q k e (by omega)
theorem upd_ne {f : Nat → Int32} {k j : Nat} {x : Int32} (h : ¬ j = k) : upd f k x j = f j := if_neg h
theorem rW1_md {c r cnt lim : Nat} {q : (Nat → Int32) × (Nat → Int32) × Nat} (h : zMd q.1 c r q.2.2 cnt lim) : zMd (rW1 c r cnt q).2.1 c r (rW1 c r cnt q).2.2.2 cnt lim := by
  unfold rW1
  split
  · exact h
  · split
    · obtain ⟨q0, q1, q2, q3, q4, q5, q6, q7, q8, q9, q10⟩ := zMd_it (L := zFl (rDl q.1 c q.2.2) q.2.1 c) (w9 := q.2.2) h c
      rename_i h1 h2
      refine ⟨?_, ?_, rfl, ?_, ?_, q5, q6, q7, q8, by show q.2.2 + 1 ≤ r; omega, q10⟩
      · exact (upd_ne (k := 2) (x := nI (q.2.2 + 1)) (by decide)).trans q0
      · exact (upd_ne (k := 2) (x := nI (q.2.2 + 1)) (by decide)).trans q1
      · exact (upd_ne (k := 2) (x := nI (q.2.2 + 1)) (by decide)).trans q3
      · exact (upd_ne (k := 2) (x := nI (q.2.2 + 1)) (by decide)).trans q4
    · exact h

theorem m_weavesOne {G : zT} {S : zS} {X : zXr} {out : Nat → Int64} {s : (Nat → Int32)} {past : (Nat → Int32)} {aside : (Nat → Int32)} {pasts : Nat} {txt : (Nat → Int32)} {typed : Nat} {thrown : Int32} {line : (Nat → Int32)} {need : (Nat → Int32)} {left : (Nat → Int32)} {slits : Nat} {slB : (Nat → Int32)} {slF : (Nat → Int32)} {slT : (Nat → Int32)} {at9 : Nat} {wd9 : Int32} {got : (Nat → Int32)} {ans : Int32} {worst : UInt32} (hG : zAl G = false) {c r w cnt lim : Nat} (hM : zMd s c r w cnt lim) : zRun G mX10_weavesOne 0 0 [.ref 114] (zHp S X (s, past, aside, pasts, txt, typed, thrown, line, need, left, slits, slB, slF, slT, at9, wd9, got, ans, worst) out) (.inr (some (.int (zB (rW1 c r cnt (s, line, w)).1)))) (zHp S X ((rW1 c r cnt (s, line, w)).2.1, past, aside, pasts, txt, typed, thrown, (rW1 c r cnt (s, line, w)).2.2.1, need, left, slits, slB, slF, slT, at9, wd9, got, ans, worst) out) := by
  unfold rW1
  by_cases h : w = r
  · rw [if_pos (show (s, line, w).2.2 = r from h)]
    exact m_weavesOne_full hG hM h
  · rw [if_neg (show ¬ (s, line, w).2.2 = r from h)]
    have hwr : w < r := Nat.lt_of_le_of_ne hM.2.2.2.2.2.2.2.2.2.1 h
    by_cases q : zAF (rEno s (zFl (rDl s c w) line c) c cnt) 0 8 = true
    · rw [if_pos (show zAF (rEno (s, line, w).1 (zFl (rDl (s, line, w).1 c (s, line, w).2.2) (s, line, w).2.1 c) c cnt) 0 8 = true from q)]
      exact m_weavesOne_yes hG hM hwr (fun v hv => (zAF_iff 8 0).mp q v (Nat.zero_le _) (by omega))
    · rw [if_neg (show ¬ zAF (rEno (s, line, w).1 (zFl (rDl (s, line, w).1 c (s, line, w).2.2) (s, line, w).2.1 c) c cnt) 0 8 = true from q)]
      refine m_weavesOne_no hG hM hwr ?_
      refine Decidable.byContradiction fun z => q ((zAF_iff 8 0).mpr fun k _ hk => ?_)
      cases e : rEno s (zFl (rDl s c w) line c) c cnt k
      · exact absurd ⟨k, by omega, e⟩ z
      · rfl

/-- some rows, as long as they can be woven -/
def rWs (c r cnt : Nat) : Nat → (Nat → Int32) × (Nat → Int32) × Nat → Nat × (Nat → Int32) × (Nat → Int32) × Nat
  | 0, q => (0, q)
  | d + 1, q => if (rW1 c r cnt q).1 then ((rWs c r cnt d (rW1 c r cnt q).2).1 + 1, (rWs c r cnt d (rW1 c r cnt q).2).2) else (0, (rW1 c r cnt q).2)
theorem rWs_t {c r cnt d : Nat} {q : (Nat → Int32) × (Nat → Int32) × Nat} (h : (rW1 c r cnt q).1 = true) : rWs c r cnt (d + 1) q = ((rWs c r cnt d (rW1 c r cnt q).2).1 + 1, (rWs c r cnt d (rW1 c r cnt q).2).2) := if_pos h
theorem rWs_f {c r cnt d : Nat} {q : (Nat → Int32) × (Nat → Int32) × Nat} (h : (rW1 c r cnt q).1 = false) : rWs c r cnt (d + 1) q = (0, (rW1 c r cnt q).2) := if_neg (by rw [h]; decide)

set_option maxHeartbeats 4000000 in
set_option maxRecDepth 100000 in
theorem m_weaves {G : zT} {S : zS} {X : zXr} {out : Nat → Int64} {s : (Nat → Int32)} {past : (Nat → Int32)} {aside : (Nat → Int32)} {pasts : Nat} {txt : (Nat → Int32)} {typed : Nat} {thrown : Int32} {line : (Nat → Int32)} {need : (Nat → Int32)} {left : (Nat → Int32)} {slits : Nat} {slB : (Nat → Int32)} {slF : (Nat → Int32)} {slT : (Nat → Int32)} {at9 : Nat} {wd9 : Int32} {got : (Nat → Int32)} {ans : Int32} {worst : UInt32} (hG : zAl G = false) {c r w cnt lim : Nat} (hM : zMd s c r w cnt lim) (n : Nat) (hn9 : zFr (nI 1) (nI n) (nI 16) = true) (hn16 : n ≤ 16) : zRun G mX10_weaves 0 0 [.ref 114, .int (nI n)] (zHp S X (s, past, aside, pasts, txt, typed, thrown, line, need, left, slits, slB, slF, slT, at9, wd9, got, ans, worst) out) (.inr (some (.int (nI 0)))) (zHp S X ((rWs c r cnt n (s, line, w)).2.1, past, aside, pasts, txt, typed, thrown, (rWs c r cnt n (s, line, w)).2.2.1, need, left, slits, slB, slF, slT, at9, wd9, got, (nI (rWs c r cnt n (s, line, w)).1), worst) out) := by
  have hM9 := hM
  obtain ⟨h0, h1, h2, h3, h4, hc1, hc, hr1, hr, hw, hn, hl⟩ := hM
  refine zRun_of (by decide +kernel) rfl rfl (Nat.le_of_ble_eq_true rfl) ?_
  suffices hs : ∀ (o9 : zO) (h9 : zH), (Sum.inr (some (.int (nI 0))) : zO) = o9 → (zHp S X ((rWs c r cnt n (s, line, w)).2.1, past, aside, pasts, txt, typed, thrown, (rWs c r cnt n (s, line, w)).2.2.1, need, left, slits, slB, slF, slT, at9, wd9, got, (nI (rWs c r cnt n (s, line, w)).1), worst) out) = h9 → zPW G mX10_weaves 0 0 o9 h9 0 0 0 [(0, .ref 114), (1, .int (nI n))] [] (zHp S X (s, past, aside, pasts, txt, typed, thrown, line, need, left, slits, slB, slF, slT, at9, wd9, got, ans, worst) out) from hs _ _ rfl rfl
  intro o9 h9 ho9 hh9
  refine z_iload_n 1 dX10_weaves_0 rfl rfl ?_
  refine z_iconst (v := nI 1) dX10_weaves_1 (by decide) ?_
  refine z_bipush (v := nI 16) dX10_weaves_2 (by decide) ?_
  refine z_callS (N := mX10_in) 3 [.int (nI n), .int (nI 1), .int (nI 16)] [] lX10_in ⟨zw_1252, zw_1253⟩ rfl rfl rfl (Nat.le_of_ble_eq_true rfl) (by decide) ⟨zlt, zlt⟩ hG ⟨Nat.zero_le _, Nat.zero_le _⟩ (m_in hG (nI n) (nI 1) (nI 16)) dX10_weaves_4 ?_
  refine z_if_ne (tgt := 12) dX10_weaves_7 (by decide) (fun c_7 => ?_) (fun c_7 => ?_)
  · skip
    have b_7 := zB_tt c_7
    refine z_iconst (v := nI 0) dX10_weaves_12 (by decide) ?_
    refine z_istore_n (lv' := [(2, .int (nI 0)), (0, .ref 114), (1, .int (nI n))]) dX10_weaves_13 rfl (by decide) rfl ?_
    have L14_1 : ∀ (d k : Nat) (q : (Nat → Int32) × (Nat → Int32) × Nat), k ≤ n → n + 1 ≤ k + d → zMd q.1 c r q.2.2 cnt lim → (rWs c r cnt n (s, line, w)) = (k + (rWs c r cnt (n - k) q).1, (rWs c r cnt (n - k) q).2) → zPW G mX10_weaves 0 0 o9 h9 0 0 14 [(2, .int (nI k)), (0, .ref 114), (1, .int (nI n))] [] (zHp S X ((q.1), past, aside, pasts, txt, typed, thrown, (q.2.1), need, left, slits, slB, slF, slT, at9, wd9, got, ans, worst) out) := by
      intro d
      induction d with
      | zero => intro k q hk hd; exact absurd hd (by omega)
      | succ d ih =>
        intro k q hk_k hd_k hq_k he_k
        have ih14 := ih
        clear ih
        refine z_iload_n 0 dX10_weaves_14 rfl rfl ?_
        refine z_iload_n 2 dX10_weaves_15 rfl rfl ?_
        refine z_icmp_ge (tgt := 32) dX10_weaves_16 (by decide) (fun c_16 => ?_) (fun c_16 => ?_)
        · skip
          have f_16 := m_le (by omega) (by omega) c_16
          have he2 : (rWs c r cnt n (s, line, w)) = (k, q) := by
            rw [he_k, show n - k = 0 by omega]
            rfl
          refine z_aload_n 1 dX10_weaves_32 rfl rfl ?_
          refine z_iload_n 0 dX10_weaves_33 rfl rfl ?_
          refine z_puti 17 tyX10 zgo_114 rfl inX10 tyX10_ok nmX10 (by decide) zw_1195 rfl rfl (by decide +kernel) (Nat.le_of_ble_eq_true rfl) dX10_weaves_34 ?_
          refine z_eqh (h2 := (zHp S X ((q.1), past, aside, pasts, txt, typed, thrown, (q.2.1), need, left, slits, slB, slF, slT, at9, wd9, got, (nI k), worst) out)) zsf_114_17 ?_
          refine z_iconst (v := nI 0) dX10_weaves_37 (by decide) ?_
          exact z_iret rfl dX10_weaves_38 (zo_i ho9 (by rfl)) (zo_h hh9 (by rw [he2])) (Nat.zero_le _) (Nat.zero_le _)
        · skip
          have f_16 := m_nle (by omega) (by omega) c_16
          refine z_aload_n 1 dX10_weaves_19 rfl rfl ?_
          refine z_callV (N := mX10_weavesOne) 0 [] [] lX10_weavesOne ⟨zw_1352, zw_1354, zw_61⟩ rfl zgo_114 rfl rfl (Nat.le_of_ble_eq_true rfl) (by decide) ⟨zlt, zlt⟩ ⟨Nat.zero_le _, Nat.zero_le _⟩ zal (m_weavesOne hG hq_k) dX10_weaves_20 ?_
          refine z_if_eq (tgt := 32) dX10_weaves_23 (by decide) (fun c_23 => ?_) (fun c_23 => ?_)
          · skip
            have b_23 := zB_0.mp c_23
            have he2 : (rWs c r cnt n (s, line, w)) = (k, (rW1 c r cnt (q.1, q.2.1, q.2.2)).2) := by
              rw [he_k, show n - k = n - (k + 1) + 1 by omega, rWs_f (q := q) b_23]
              rfl
            refine z_aload_n 1 dX10_weaves_32 rfl rfl ?_
            refine z_iload_n 0 dX10_weaves_33 rfl rfl ?_
            refine z_puti 17 tyX10 zgo_114 rfl inX10 tyX10_ok nmX10 (by decide) zw_1195 rfl rfl (by decide +kernel) (Nat.le_of_ble_eq_true rfl) dX10_weaves_34 ?_
            refine z_eqh (h2 := (zHp S X ((rW1 c r cnt (q.1, q.2.1, q.2.2)).2.1, past, aside, pasts, txt, typed, thrown, (rW1 c r cnt (q.1, q.2.1, q.2.2)).2.2.1, need, left, slits, slB, slF, slT, at9, wd9, got, (nI k), worst) out)) zsf_114_17 ?_
            refine z_iconst (v := nI 0) dX10_weaves_37 (by decide) ?_
            exact z_iret rfl dX10_weaves_38 (zo_i ho9 (by rfl)) (zo_h hh9 (by rw [he2])) (Nat.zero_le _) (Nat.zero_le _)
          · skip
            have b_23 := zB_tt c_23
            have he2 : (rWs c r cnt n (s, line, w)) = (k + 1 + (rWs c r cnt (n - (k + 1)) (rW1 c r cnt (q.1, q.2.1, q.2.2)).2).1, (rWs c r cnt (n - (k + 1)) (rW1 c r cnt (q.1, q.2.1, q.2.2)).2).2) := by
              rw [he_k, show n - k = n - (k + 1) + 1 by omega, rWs_t (q := q) b_23]
              exact Prod.ext (by show k + ((rWs c r cnt (n - (k + 1)) (rW1 c r cnt (q.1, q.2.1, q.2.2)).2).1 + 1) = k + 1 + (rWs c r cnt (n - (k + 1)) (rW1 c r cnt (q.1, q.2.1, q.2.2)).2).1; omega) rfl
            refine z_iinc (v := nI (k + 1)) (lv' := [(2, .int (nI (k + 1))), (0, .ref 114), (1, .int (nI n))]) 0 dX10_weaves_26 rfl (nI_1 _) (by decide) rfl ?_
            refine z_goto (tgt := 14) dX10_weaves_29 (by decide) ?_
            refine z_sub [0, 1, 2] (lv' := [(2, .int (nI (k + 1))), (0, .ref 114), (1, .int (nI n))]) rfl ?_
            refine z_eqs (lv2 := [(2, .int (nI ((k + 1)))), (0, .ref 114), (1, .int (nI n))]) (h2 := (zHp S X ((((rW1 c r cnt (q.1, q.2.1, q.2.2)).2).1), past, aside, pasts, txt, typed, thrown, (((rW1 c r cnt (q.1, q.2.1, q.2.2)).2).2.1), need, left, slits, slB, slF, slT, at9, wd9, got, ans, worst) out)) (by rfl) (by rfl) ?_
            exact ih14 (k + 1) ((rW1 c r cnt (q.1, q.2.1, q.2.2)).2) (by omega) (by omega) (rW1_md hq_k) he2
    refine z_sub [0, 1, 2] (lv' := [(2, .int (nI 0)), (0, .ref 114), (1, .int (nI n))]) rfl ?_
    refine z_eqs (lv2 := [(2, .int (nI 0)), (0, .ref 114), (1, .int (nI n))]) (h2 := (zHp S X (((s, line, w).1), past, aside, pasts, txt, typed, thrown, ((s, line, w).2.1), need, left, slits, slB, slF, slT, at9, wd9, got, ans, worst) out)) (by rfl) (by rfl) ?_
    exact L14_1 (n + 1) 0 (s, line, w) (by omega) (by omega) hM9 (Prod.ext (Nat.zero_add _).symm rfl)
  · exfalso; rw [hn9] at c_7; exact absurd c_7 (by decide)

set_option maxHeartbeats 4000000 in
set_option maxRecDepth 100000 in
theorem m_weaves_1 {G : zT} {S : zS} {X : zXr} {out : Nat → Int64} {s : (Nat → Int32)} {past : (Nat → Int32)} {aside : (Nat → Int32)} {pasts : Nat} {txt : (Nat → Int32)} {typed : Nat} {thrown : Int32} {line : (Nat → Int32)} {need : (Nat → Int32)} {left : (Nat → Int32)} {slits : Nat} {slB : (Nat → Int32)} {slF : (Nat → Int32)} {slT : (Nat → Int32)} {at9 : Nat} {wd9 : Int32} {got : (Nat → Int32)} {ans : Int32} {worst : UInt32} (hG : zAl G = false) (n : Int32) (hn9 : zFr (nI 1) n (nI 16) = false) : zRun G mX10_weaves 0 0 [.ref 114, .int n] (zHp S X (s, past, aside, pasts, txt, typed, thrown, line, need, left, slits, slB, slF, slT, at9, wd9, got, ans, worst) out) (.inr (some (.int (nI 1)))) (zHp S X (s, past, aside, pasts, txt, typed, thrown, line, need, left, slits, slB, slF, slT, at9, wd9, got, ans, worst) out) := by
  refine zRun_of (by decide +kernel) rfl rfl (Nat.le_of_ble_eq_true rfl) ?_
  suffices hs : ∀ (o9 : zO) (h9 : zH), (Sum.inr (some (.int (nI 1))) : zO) = o9 → (zHp S X (s, past, aside, pasts, txt, typed, thrown, line, need, left, slits, slB, slF, slT, at9, wd9, got, ans, worst) out) = h9 → zPW G mX10_weaves 0 0 o9 h9 0 0 0 [(0, .ref 114), (1, .int n)] [] (zHp S X (s, past, aside, pasts, txt, typed, thrown, line, need, left, slits, slB, slF, slT, at9, wd9, got, ans, worst) out) from hs _ _ rfl rfl
  intro o9 h9 ho9 hh9
  refine z_iload_n 1 dX10_weaves_0 rfl rfl ?_
  refine z_iconst (v := nI 1) dX10_weaves_1 (by decide) ?_
  refine z_bipush (v := nI 16) dX10_weaves_2 (by decide) ?_
  refine z_callS (N := mX10_in) 3 [.int n, .int (nI 1), .int (nI 16)] [] lX10_in ⟨zw_1252, zw_1253⟩ rfl rfl rfl (Nat.le_of_ble_eq_true rfl) (by decide) ⟨zlt, zlt⟩ hG ⟨Nat.zero_le _, Nat.zero_le _⟩ (m_in hG n (nI 1) (nI 16)) dX10_weaves_4 ?_
  refine z_if_ne (tgt := 12) dX10_weaves_7 (by decide) (fun c_7 => ?_) (fun c_7 => ?_)
  · exfalso; rw [hn9] at c_7; exact c_7 rfl
  · skip
    have b_7 := zB_0.mp c_7
    refine z_iconst (v := nI 1) dX10_weaves_10 (by decide) ?_
    exact z_iret rfl dX10_weaves_11 (zo_i ho9 (by rfl)) (zo_h hh9 (by rfl)) (Nat.zero_le _) (Nat.zero_le _)

set_option maxHeartbeats 4000000 in
set_option maxRecDepth 100000 in
theorem m_weave {G : zT} {S : zS} {X : zXr} {out : Nat → Int64} {s : (Nat → Int32)} {past : (Nat → Int32)} {aside : (Nat → Int32)} {pasts : Nat} {txt : (Nat → Int32)} {typed : Nat} {thrown : Int32} {line : (Nat → Int32)} {need : (Nat → Int32)} {left : (Nat → Int32)} {slits : Nat} {slB : (Nat → Int32)} {slF : (Nat → Int32)} {slT : (Nat → Int32)} {at9 : Nat} {wd9 : Int32} {got : (Nat → Int32)} {ans : Int32} {worst : UInt32} (hG : zAl G = false) {c r w cnt lim : Nat} (hM : zMd s c r w cnt lim) (hp4 : pasts ≤ 4) (n : Nat) (hn9 : zFr (nI 1) (nI n) (nI 16) = true) (hn16 : n ≤ 16) : zRun G mX10_weave 0 0 [.ref 114, .int (nI n)] (zHp S X (s, past, aside, pasts, txt, typed, thrown, line, need, left, slits, slB, slF, slT, at9, wd9, got, ans, worst) out) (.inr (some (.int ((nI (rWs c r cnt n (s, line, w)).1))))) (zHp S X ((rWs c r cnt n (s, line, w)).2.1, (rSv past (zFl s aside 1371) pasts), (zFl s aside 1371), (min (pasts + 1) 4), txt, typed, (nI 0), (rWs c r cnt n (s, line, w)).2.2.1, need, left, slits, slB, slF, slT, at9, wd9, got, (nI (rWs c r cnt n (s, line, w)).1), worst) out) := by
  have hM9 := hM
  refine zRun_of (by decide +kernel) rfl rfl (Nat.le_of_ble_eq_true rfl) ?_
  suffices hs : ∀ (o9 : zO) (h9 : zH), (Sum.inr (some (.int ((nI (rWs c r cnt n (s, line, w)).1)))) : zO) = o9 → (zHp S X ((rWs c r cnt n (s, line, w)).2.1, (rSv past (zFl s aside 1371) pasts), (zFl s aside 1371), (min (pasts + 1) 4), txt, typed, (nI 0), (rWs c r cnt n (s, line, w)).2.2.1, need, left, slits, slB, slF, slT, at9, wd9, got, (nI (rWs c r cnt n (s, line, w)).1), worst) out) = h9 → zPW G mX10_weave 0 0 o9 h9 0 0 0 [(0, .ref 114), (1, .int (nI n))] [] (zHp S X (s, past, aside, pasts, txt, typed, thrown, line, need, left, slits, slB, slF, slT, at9, wd9, got, ans, worst) out) from hs _ _ rfl rfl
  intro o9 h9 ho9 hh9
  refine z_aload_n 0 dX10_weave_0 rfl rfl ?_
  refine z_callV (N := mX10_hold) 0 [] [] lX10_hold ⟨zw_1244, zw_1246, zw_43⟩ rfl zgo_114 rfl rfl (Nat.le_of_ble_eq_true rfl) (by decide) ⟨zlt, zlt⟩ ⟨Nat.zero_le _, Nat.zero_le _⟩ zal (m_hold hG) dX10_weave_1 ?_
  refine z_aload_n 0 dX10_weave_4 rfl rfl ?_
  refine z_aload_n 0 dX10_weave_5 rfl rfl ?_
  refine z_iload_n 1 dX10_weave_6 rfl rfl ?_
  refine z_callV (N := mX10_weaves) 1 [.int (nI n)] [.ref 114] lX10_weaves ⟨zw_1348, zw_1350, zw_60⟩ rfl zgo_114 rfl rfl (Nat.le_of_ble_eq_true rfl) (by decide) ⟨zlt, zlt⟩ ⟨Nat.zero_le _, Nat.zero_le _⟩ zal (m_weaves hG hM9 n hn9 hn16) dX10_weave_7 ?_
  refine z_callV (N := mX10_ends) 1 [.int (nI 0)] [] lX10_ends ⟨zw_1255, zw_1257, zw_45⟩ rfl zgo_114 rfl rfl (Nat.le_of_ble_eq_true rfl) (by decide) ⟨zlt, zlt⟩ ⟨Nat.zero_le _, Nat.zero_le _⟩ zal (m_ends0 hG hp4) dX10_weave_10 ?_
  exact z_iret rfl dX10_weave_13 (zo_i ho9 (by rfl)) (zo_h hh9 (by rfl)) (Nat.zero_le _) (Nat.zero_le _)

set_option maxHeartbeats 4000000 in
set_option maxRecDepth 100000 in
theorem m_weave_1 {G : zT} {S : zS} {X : zXr} {out : Nat → Int64} {s : (Nat → Int32)} {past : (Nat → Int32)} {aside : (Nat → Int32)} {pasts : Nat} {txt : (Nat → Int32)} {typed : Nat} {thrown : Int32} {line : (Nat → Int32)} {need : (Nat → Int32)} {left : (Nat → Int32)} {slits : Nat} {slB : (Nat → Int32)} {slF : (Nat → Int32)} {slT : (Nat → Int32)} {at9 : Nat} {wd9 : Int32} {got : (Nat → Int32)} {ans : Int32} {worst : UInt32} (hG : zAl G = false) (n : Int32) (hn9 : zFr (nI 1) n (nI 16) = false) : zRun G mX10_weave 0 0 [.ref 114, .int n] (zHp S X (s, past, aside, pasts, txt, typed, thrown, line, need, left, slits, slB, slF, slT, at9, wd9, got, ans, worst) out) (.inr (some (.int (nI 0)))) (zHp S X (s, past, (zFl s aside 1371), pasts, txt, typed, (nI 1), line, need, left, slits, slB, slF, slT, at9, wd9, got, ans, worst) out) := by
  refine zRun_of (by decide +kernel) rfl rfl (Nat.le_of_ble_eq_true rfl) ?_
  suffices hs : ∀ (o9 : zO) (h9 : zH), (Sum.inr (some (.int (nI 0))) : zO) = o9 → (zHp S X (s, past, (zFl s aside 1371), pasts, txt, typed, (nI 1), line, need, left, slits, slB, slF, slT, at9, wd9, got, ans, worst) out) = h9 → zPW G mX10_weave 0 0 o9 h9 0 0 0 [(0, .ref 114), (1, .int n)] [] (zHp S X (s, past, aside, pasts, txt, typed, thrown, line, need, left, slits, slB, slF, slT, at9, wd9, got, ans, worst) out) from hs _ _ rfl rfl
  intro o9 h9 ho9 hh9
  refine z_aload_n 0 dX10_weave_0 rfl rfl ?_
  refine z_callV (N := mX10_hold) 0 [] [] lX10_hold ⟨zw_1244, zw_1246, zw_43⟩ rfl zgo_114 rfl rfl (Nat.le_of_ble_eq_true rfl) (by decide) ⟨zlt, zlt⟩ ⟨Nat.zero_le _, Nat.zero_le _⟩ zal (m_hold hG) dX10_weave_1 ?_
  refine z_aload_n 0 dX10_weave_4 rfl rfl ?_
  refine z_aload_n 0 dX10_weave_5 rfl rfl ?_
  refine z_iload_n 1 dX10_weave_6 rfl rfl ?_
  refine z_callV (N := mX10_weaves) 1 [.int n] [.ref 114] lX10_weaves ⟨zw_1348, zw_1350, zw_60⟩ rfl zgo_114 rfl rfl (Nat.le_of_ble_eq_true rfl) (by decide) ⟨zlt, zlt⟩ ⟨Nat.zero_le _, Nat.zero_le _⟩ (fun _ => rfl) (m_weaves_1 hG n hn9) dX10_weave_7 ?_
  refine z_callV (N := mX10_ends) 1 [.int (nI 1)] [] lX10_ends ⟨zw_1255, zw_1257, zw_45⟩ rfl zgo_114 rfl rfl (Nat.le_of_ble_eq_true rfl) (by decide) ⟨zlt, zlt⟩ ⟨Nat.zero_le _, Nat.zero_le _⟩ zal (m_ends1 hG) dX10_weave_10 ?_
  exact z_iret rfl dX10_weave_13 (zo_i ho9 (by rfl)) (zo_h hh9 (by rfl)) (Nat.zero_le _) (Nat.zero_le _)

set_option maxHeartbeats 4000000 in
set_option maxRecDepth 100000 in
theorem m_meanShade {G : zT} {S : zS} {X : zXr} {out : Nat → Int64} {s : (Nat → Int32)} {past : (Nat → Int32)} {aside : (Nat → Int32)} {pasts : Nat} {txt : (Nat → Int32)} {typed : Nat} {thrown : Int32} {line : (Nat → Int32)} {need : (Nat → Int32)} {left : (Nat → Int32)} {slits : Nat} {slB : (Nat → Int32)} {slF : (Nat → Int32)} {slT : (Nat → Int32)} {at9 : Nat} {wd9 : Int32} {got : (Nat → Int32)} {ans : Int32} {worst : UInt32} (hG : zAl G = false) {c r w cnt lim : Nat} (hM : zMd s c r w cnt lim) (hsh : rShs s) (hY : ∀ y b, y < w → b < c → rY s y b = -1 ∨ ∃ j, j < 16 ∧ rY s y b = nI j) (v : Int32) (hv : zFr (nI 0) v (nI 7) = true) : zRun G mX10_meanShade 0 0 [.ref 114, .int v] (zHp S X (s, past, aside, pasts, txt, typed, thrown, line, need, left, slits, slB, slF, slT, at9, wd9, got, ans, worst) out) (.inr (some (.int ((rMe s c w v).toInt32)))) (zHp S X (s, past, aside, pasts, txt, typed, (nI 0), line, need, left, slits, slB, slF, slT, at9, wd9, got, ans, worst) out) := by
  have hM9 := hM
  refine zRun_of (by decide +kernel) rfl rfl (Nat.le_of_ble_eq_true rfl) ?_
  suffices hs : ∀ (o9 : zO) (h9 : zH), (Sum.inr (some (.int ((rMe s c w v).toInt32))) : zO) = o9 → (zHp S X (s, past, aside, pasts, txt, typed, (nI 0), line, need, left, slits, slB, slF, slT, at9, wd9, got, ans, worst) out) = h9 → zPW G mX10_meanShade 0 0 o9 h9 0 0 0 [(0, .ref 114), (1, .int v)] [] (zHp S X (s, past, aside, pasts, txt, typed, thrown, line, need, left, slits, slB, slF, slT, at9, wd9, got, ans, worst) out) from hs _ _ rfl rfl
  intro o9 h9 ho9 hh9
  refine z_iload_n 1 dX10_meanShade_0 rfl rfl ?_
  refine z_iconst (v := nI 0) dX10_meanShade_1 (by decide) ?_
  refine z_bipush (v := nI 7) dX10_meanShade_2 (by decide) ?_
  refine z_callS (N := mX10_in) 3 [.int v, .int (nI 0), .int (nI 7)] [] lX10_in ⟨zw_1252, zw_1253⟩ rfl rfl rfl (Nat.le_of_ble_eq_true rfl) (by decide) ⟨zlt, zlt⟩ hG ⟨Nat.zero_le _, Nat.zero_le _⟩ (m_in hG v (nI 0) (nI 7)) dX10_meanShade_4 ?_
  refine z_if_eq (tgt := 22) dX10_meanShade_7 (by decide) (fun c_7 => ?_) (fun c_7 => ?_)
  · exfalso; rw [hv] at c_7; exact absurd c_7 (by decide)
  · skip
    have b_7 := zB_tt c_7
    refine z_aload_n 0 dX10_meanShade_10 rfl rfl ?_
    refine z_aload_n 0 dX10_meanShade_11 rfl rfl ?_
    refine z_iload_n 1 dX10_meanShade_12 rfl rfl ?_
    refine z_callV (N := mX10_mean) 1 [.int v] [.ref 114] lX10_mean ⟨zw_1535, zw_1537, zw_97⟩ rfl zgo_114 rfl rfl (Nat.le_of_ble_eq_true rfl) (by decide) ⟨zlt, zlt⟩ ⟨Nat.zero_le _, Nat.zero_le _⟩ (fun _ => rfl) (m_mean hG hM9 hsh hY v) dX10_meanShade_13 ?_
    refine z_callV (N := mX10_tells) 1 [.int ((rMe s c w v).toInt32)] [] lX10_tells ⟨zw_1267, zw_1269, zw_48⟩ rfl zgo_114 rfl rfl (Nat.le_of_ble_eq_true rfl) (by decide) ⟨zlt, zlt⟩ ⟨Nat.zero_le _, Nat.zero_le _⟩ zal (m_tells hG ((rMe s c w v).toInt32)) dX10_meanShade_16 ?_
    refine z_goto (tgt := 27) dX10_meanShade_19 (by decide) ?_
    exact z_iret rfl dX10_meanShade_27 (zo_i ho9 (by rfl)) (zo_h hh9 (by rfl)) (Nat.zero_le _) (Nat.zero_le _)

set_option maxHeartbeats 4000000 in
set_option maxRecDepth 100000 in
theorem m_meanShade_1 {G : zT} {S : zS} {X : zXr} {out : Nat → Int64} {s : (Nat → Int32)} {past : (Nat → Int32)} {aside : (Nat → Int32)} {pasts : Nat} {txt : (Nat → Int32)} {typed : Nat} {thrown : Int32} {line : (Nat → Int32)} {need : (Nat → Int32)} {left : (Nat → Int32)} {slits : Nat} {slB : (Nat → Int32)} {slF : (Nat → Int32)} {slT : (Nat → Int32)} {at9 : Nat} {wd9 : Int32} {got : (Nat → Int32)} {ans : Int32} {worst : UInt32} (hG : zAl G = false) (v : Int32) (hv : zFr (nI 0) v (nI 7) = false) : zRun G mX10_meanShade 0 0 [.ref 114, .int v] (zHp S X (s, past, aside, pasts, txt, typed, thrown, line, need, left, slits, slB, slF, slT, at9, wd9, got, ans, worst) out) (.inr (some (.int (nI 0)))) (zHp S X (s, past, aside, pasts, txt, typed, (nI 1), line, need, left, slits, slB, slF, slT, at9, wd9, got, ans, worst) out) := by
  refine zRun_of (by decide +kernel) rfl rfl (Nat.le_of_ble_eq_true rfl) ?_
  suffices hs : ∀ (o9 : zO) (h9 : zH), (Sum.inr (some (.int (nI 0))) : zO) = o9 → (zHp S X (s, past, aside, pasts, txt, typed, (nI 1), line, need, left, slits, slB, slF, slT, at9, wd9, got, ans, worst) out) = h9 → zPW G mX10_meanShade 0 0 o9 h9 0 0 0 [(0, .ref 114), (1, .int v)] [] (zHp S X (s, past, aside, pasts, txt, typed, thrown, line, need, left, slits, slB, slF, slT, at9, wd9, got, ans, worst) out) from hs _ _ rfl rfl
  intro o9 h9 ho9 hh9
  refine z_iload_n 1 dX10_meanShade_0 rfl rfl ?_
  refine z_iconst (v := nI 0) dX10_meanShade_1 (by decide) ?_
  refine z_bipush (v := nI 7) dX10_meanShade_2 (by decide) ?_
  refine z_callS (N := mX10_in) 3 [.int v, .int (nI 0), .int (nI 7)] [] lX10_in ⟨zw_1252, zw_1253⟩ rfl rfl rfl (Nat.le_of_ble_eq_true rfl) (by decide) ⟨zlt, zlt⟩ hG ⟨Nat.zero_le _, Nat.zero_le _⟩ (m_in hG v (nI 0) (nI 7)) dX10_meanShade_4 ?_
  refine z_if_eq (tgt := 22) dX10_meanShade_7 (by decide) (fun c_7 => ?_) (fun c_7 => ?_)
  · skip
    have b_7 := zB_0.mp c_7
    refine z_aload_n 0 dX10_meanShade_22 rfl rfl ?_
    refine z_iconst (v := nI 1) dX10_meanShade_23 (by decide) ?_
    refine z_callV (N := mX10_fails) 1 [.int (nI 1)] [] lX10_fails ⟨zw_1259, zw_1261, zw_46⟩ rfl zgo_114 rfl rfl (Nat.le_of_ble_eq_true rfl) (by decide) ⟨zlt, zlt⟩ ⟨Nat.zero_le _, Nat.zero_le _⟩ zal (m_fails hG (nI 1)) dX10_meanShade_24 ?_
    exact z_iret rfl dX10_meanShade_27 (zo_i ho9 (by rfl)) (zo_h hh9 (by rfl)) (Nat.zero_le _) (Nat.zero_le _)
  · exfalso; rw [hv] at c_7; exact c_7 rfl

set_option maxHeartbeats 4000000 in
set_option maxRecDepth 100000 in
theorem m_contrast {G : zT} {S : zS} {X : zXr} {out : Nat → Int64} {s : (Nat → Int32)} {past : (Nat → Int32)} {aside : (Nat → Int32)} {pasts : Nat} {txt : (Nat → Int32)} {typed : Nat} {thrown : Int32} {line : (Nat → Int32)} {need : (Nat → Int32)} {left : (Nat → Int32)} {slits : Nat} {slB : (Nat → Int32)} {slF : (Nat → Int32)} {slT : (Nat → Int32)} {at9 : Nat} {wd9 : Int32} {got : (Nat → Int32)} {ans : Int32} {worst : UInt32} (hG : zAl G = false) {c r w cnt lim : Nat} (hM : zMd s c r w cnt lim) (hsh : rShs s) (hY : ∀ y b, y < w → b < c → rY s y b = -1 ∨ ∃ j, j < 16 ∧ rY s y b = nI j) (y : Nat) (hy : y < w) : zRun G mX10_contrast 0 0 [.ref 114, .int (nI y)] (zHp S X (s, past, aside, pasts, txt, typed, thrown, line, need, left, slits, slB, slF, slT, at9, wd9, got, ans, worst) out) (.inr (some (.int ((rCn s c y).toInt32)))) (zHp S X (s, past, aside, pasts, txt, typed, (nI 0), line, need, left, slits, slB, slF, slT, at9, wd9, got, ans, worst) out) := by
  have hM9 := hM
  obtain ⟨h0, h1, h2, h3, h4, hc1, hc, hr1, hr, hw, hn, hl⟩ := hM
  refine zRun_of (by decide +kernel) rfl rfl (Nat.le_of_ble_eq_true rfl) ?_
  suffices hs : ∀ (o9 : zO) (h9 : zH), (Sum.inr (some (.int ((rCn s c y).toInt32))) : zO) = o9 → (zHp S X (s, past, aside, pasts, txt, typed, (nI 0), line, need, left, slits, slB, slF, slT, at9, wd9, got, ans, worst) out) = h9 → zPW G mX10_contrast 0 0 o9 h9 0 0 0 [(0, .ref 114), (1, .int (nI y))] [] (zHp S X (s, past, aside, pasts, txt, typed, thrown, line, need, left, slits, slB, slF, slT, at9, wd9, got, ans, worst) out) from hs _ _ rfl rfl
  intro o9 h9 ho9 hh9
  refine z_aload_n 0 dX10_contrast_0 rfl rfl ?_
  refine z_iload_n 1 dX10_contrast_1 rfl rfl ?_
  refine z_callV (N := mX10_isWoven) 1 [.int (nI y)] [] lX10_isWoven ⟨zw_1324, zw_1326, zw_56⟩ rfl zgo_114 rfl rfl (Nat.le_of_ble_eq_true rfl) (by decide) ⟨zlt, zlt⟩ ⟨Nat.zero_le _, Nat.zero_le _⟩ (fun _ => rfl) (m_isWoven hG hM9 (nI y)) dX10_contrast_2 ?_
  refine z_top (v2 := .int (zB (decide (y < w)))) (by rw [zIn_n (by omega) (by omega)]) ?_
  refine z_if_eq (tgt := 20) dX10_contrast_5 (by decide) (fun c_5 => ?_) (fun c_5 => ?_)
  · exfalso; rw [decide_eq_true hy] at c_5; exact absurd c_5 (by decide)
  · skip
    have b_5 := zB_tt c_5
    refine z_aload_n 0 dX10_contrast_8 rfl rfl ?_
    refine z_aload_n 0 dX10_contrast_9 rfl rfl ?_
    refine z_iload_n 1 dX10_contrast_10 rfl rfl ?_
    refine z_callV (N := mX10_contrasts) 1 [.int (nI y)] [.ref 114] lX10_contrasts ⟨zw_1543, zw_1545, zw_98⟩ rfl zgo_114 rfl rfl (Nat.le_of_ble_eq_true rfl) (by decide) ⟨zlt, zlt⟩ ⟨Nat.zero_le _, Nat.zero_le _⟩ (fun _ => rfl) (m_contrasts hG hM9 hsh hY y (by omega)) dX10_contrast_11 ?_
    refine z_callV (N := mX10_tells) 1 [.int ((rCn s c y).toInt32)] [] lX10_tells ⟨zw_1267, zw_1269, zw_48⟩ rfl zgo_114 rfl rfl (Nat.le_of_ble_eq_true rfl) (by decide) ⟨zlt, zlt⟩ ⟨Nat.zero_le _, Nat.zero_le _⟩ zal (m_tells hG ((rCn s c y).toInt32)) dX10_contrast_14 ?_
    refine z_goto (tgt := 25) dX10_contrast_17 (by decide) ?_
    exact z_iret rfl dX10_contrast_25 (zo_i ho9 (by rfl)) (zo_h hh9 (by rfl)) (Nat.zero_le _) (Nat.zero_le _)

set_option maxHeartbeats 4000000 in
set_option maxRecDepth 100000 in
theorem m_contrast_1 {G : zT} {S : zS} {X : zXr} {out : Nat → Int64} {s : (Nat → Int32)} {past : (Nat → Int32)} {aside : (Nat → Int32)} {pasts : Nat} {txt : (Nat → Int32)} {typed : Nat} {thrown : Int32} {line : (Nat → Int32)} {need : (Nat → Int32)} {left : (Nat → Int32)} {slits : Nat} {slB : (Nat → Int32)} {slF : (Nat → Int32)} {slT : (Nat → Int32)} {at9 : Nat} {wd9 : Int32} {got : (Nat → Int32)} {ans : Int32} {worst : UInt32} (hG : zAl G = false) {c r w cnt lim : Nat} (hM : zMd s c r w cnt lim) (y : Int32) (hy : zIn y (nI w) = false) : zRun G mX10_contrast 0 0 [.ref 114, .int y] (zHp S X (s, past, aside, pasts, txt, typed, thrown, line, need, left, slits, slB, slF, slT, at9, wd9, got, ans, worst) out) (.inr (some (.int (nI 0)))) (zHp S X (s, past, aside, pasts, txt, typed, (nI 1), line, need, left, slits, slB, slF, slT, at9, wd9, got, ans, worst) out) := by
  have hM9 := hM
  obtain ⟨h0, h1, h2, h3, h4, hc1, hc, hr1, hr, hw, hn, hl⟩ := hM
  refine zRun_of (by decide +kernel) rfl rfl (Nat.le_of_ble_eq_true rfl) ?_
  suffices hs : ∀ (o9 : zO) (h9 : zH), (Sum.inr (some (.int (nI 0))) : zO) = o9 → (zHp S X (s, past, aside, pasts, txt, typed, (nI 1), line, need, left, slits, slB, slF, slT, at9, wd9, got, ans, worst) out) = h9 → zPW G mX10_contrast 0 0 o9 h9 0 0 0 [(0, .ref 114), (1, .int y)] [] (zHp S X (s, past, aside, pasts, txt, typed, thrown, line, need, left, slits, slB, slF, slT, at9, wd9, got, ans, worst) out) from hs _ _ rfl rfl
  intro o9 h9 ho9 hh9
  refine z_aload_n 0 dX10_contrast_0 rfl rfl ?_
  refine z_iload_n 1 dX10_contrast_1 rfl rfl ?_
  refine z_callV (N := mX10_isWoven) 1 [.int y] [] lX10_isWoven ⟨zw_1324, zw_1326, zw_56⟩ rfl zgo_114 rfl rfl (Nat.le_of_ble_eq_true rfl) (by decide) ⟨zlt, zlt⟩ ⟨Nat.zero_le _, Nat.zero_le _⟩ (fun _ => rfl) (m_isWoven hG hM9 y) dX10_contrast_2 ?_
  refine z_if_eq (tgt := 20) dX10_contrast_5 (by decide) (fun c_5 => ?_) (fun c_5 => ?_)
  · skip
    have b_5 := zB_0.mp c_5
    refine z_aload_n 0 dX10_contrast_20 rfl rfl ?_
    refine z_iconst (v := nI 1) dX10_contrast_21 (by decide) ?_
    refine z_callV (N := mX10_fails) 1 [.int (nI 1)] [] lX10_fails ⟨zw_1259, zw_1261, zw_46⟩ rfl zgo_114 rfl rfl (Nat.le_of_ble_eq_true rfl) (by decide) ⟨zlt, zlt⟩ ⟨Nat.zero_le _, Nat.zero_le _⟩ zal (m_fails hG (nI 1)) dX10_contrast_22 ?_
    exact z_iret rfl dX10_contrast_25 (zo_i ho9 (by rfl)) (zo_h hh9 (by rfl)) (Nat.zero_le _) (Nat.zero_le _)
  · exfalso; rw [hy] at c_5; exact c_5 rfl

set_option maxHeartbeats 4000000 in
set_option maxRecDepth 100000 in
theorem m_worstSeam {G : zT} {S : zS} {X : zXr} {out : Nat → Int64} {s : (Nat → Int32)} {past : (Nat → Int32)} {aside : (Nat → Int32)} {pasts : Nat} {txt : (Nat → Int32)} {typed : Nat} {thrown : Int32} {line : (Nat → Int32)} {need : (Nat → Int32)} {left : (Nat → Int32)} {slits : Nat} {slB : (Nat → Int32)} {slF : (Nat → Int32)} {slT : (Nat → Int32)} {at9 : Nat} {wd9 : Int32} {got : (Nat → Int32)} {ans : Int32} {worst : UInt32} (hG : zAl G = false) {c r w cnt lim : Nat} (hM : zMd s c r w cnt lim) (hsh : rShs s) (hY : ∀ y b, y < w → b < c → rY s y b = -1 ∨ ∃ j, j < 16 ∧ rY s y b = nI j) (htl : rShv (s 5)) : zRun G mX10_worstSeam 0 0 [.ref 114] (zHp S X (s, past, aside, pasts, txt, typed, thrown, line, need, left, slits, slB, slF, slT, at9, wd9, got, ans, worst) out) (.inr (some (.int ((rSy s c w false w (0, FP.fconst0)).2.toInt32)))) (zHp S X (s, past, aside, pasts, txt, typed, (nI 0), line, need, left, slits, slB, slF, slT, at9, wd9, got, ans, (rSy s c w false w (0, FP.fconst0)).2) out) := by
  have hM9 := hM
  refine zRun_of (by decide +kernel) rfl rfl (Nat.le_of_ble_eq_true rfl) ?_
  suffices hs : ∀ (o9 : zO) (h9 : zH), (Sum.inr (some (.int ((rSy s c w false w (0, FP.fconst0)).2.toInt32))) : zO) = o9 → (zHp S X (s, past, aside, pasts, txt, typed, (nI 0), line, need, left, slits, slB, slF, slT, at9, wd9, got, ans, (rSy s c w false w (0, FP.fconst0)).2) out) = h9 → zPW G mX10_worstSeam 0 0 o9 h9 0 0 0 [(0, .ref 114)] [] (zHp S X (s, past, aside, pasts, txt, typed, thrown, line, need, left, slits, slB, slF, slT, at9, wd9, got, ans, worst) out) from hs _ _ rfl rfl
  intro o9 h9 ho9 hh9
  refine z_aload_n 0 dX10_worstSeam_0 rfl rfl ?_
  refine z_aload_n 0 dX10_worstSeam_1 rfl rfl ?_
  refine z_callV (N := mX10_worstOf) 0 [] [.ref 114] lX10_worstOf ⟨zw_1551, zw_1553, zw_99⟩ rfl zgo_114 rfl rfl (Nat.le_of_ble_eq_true rfl) (by decide) ⟨zlt, zlt⟩ ⟨Nat.zero_le _, Nat.zero_le _⟩ zal (m_worstOf hG hM9 hsh hY htl) dX10_worstSeam_2 ?_
  refine z_callV (N := mX10_tells) 1 [.int ((rSy s c w false w (0, FP.fconst0)).2.toInt32)] [] lX10_tells ⟨zw_1267, zw_1269, zw_48⟩ rfl zgo_114 rfl rfl (Nat.le_of_ble_eq_true rfl) (by decide) ⟨zlt, zlt⟩ ⟨Nat.zero_le _, Nat.zero_le _⟩ zal (m_tells hG ((rSy s c w false w (0, FP.fconst0)).2.toInt32)) dX10_worstSeam_5 ?_
  exact z_iret rfl dX10_worstSeam_8 (zo_i ho9 (by rfl)) (zo_h hh9 (by rfl)) (Nat.zero_le _) (Nat.zero_le _)

