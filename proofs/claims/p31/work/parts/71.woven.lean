/-! the law's own checks, over what the calls answer -/
theorem pFs_a {own : Nat → Nat} {k : Nat} (h : 0 ≤ pFs own k) : Value.int (pFs own k) = .int (pFs own (k + 1)) := by
  rw [pFs, if_neg (fun z => absurd z.1 (Int32.not_lt.mpr h))]
theorem pFs_b {own : Nat → Nat} {k : Nat} (ho : own k < 2 ^ 31) (h : nI (own k) ≤ 0) : Value.int (pFs own k) = .int (pFs own (k + 1)) := by
  rw [pFs, if_neg (fun z => absurd z.2 (by rw [m_z_le_t ho h]; decide))]
theorem pFs_c {own : Nat → Nat} {k : Nat} (ho : own k < 2 ^ 31) (h1 : ¬ 0 ≤ pFs own k) (h : ¬ nI (own k) ≤ 0) : Value.int (nI k) = .int (pFs own (k + 1)) := by
  rw [pFs, if_pos ⟨Int32.not_le.mp h1, m_z_le_f ho h⟩]

set_option maxHeartbeats 4000000 in
set_option maxRecDepth 100000 in
theorem v_wovenRows {G : zT} {H : zH} {fs9 : List Value} (hG : zAl G = false) (hlen : H.length < 1000) (e0 : H[0]? = some (.inr (7, fs9))) {c w : Nat} {A B L : Nat → Nat → Nat} {own N F D R : Nat → Nat} (hc : c ≤ 20) (hw : w ≤ 16) (hA : ∀ y x, y < w → x < c → A y x < 8) (hB : ∀ y x, y < w → x < c → B y x < 8) (hown : ∀ y, own y = zCt (fun x => !(A y x == B y x)) c) (hN : ∀ y, N y ≤ 20) (hF : ∀ y, F y ≤ N y) (hF0 : 0 < w → F 0 = N 0) (hD : ∀ y, y < w → 1 ≤ D y ∧ D y ≤ c) (hR : zSN R 8 = zSN N w) (w0 : zRun G mL_whole 0 0 [.ref 0, .int 0] H (.inr (some (.int (nI c)))) H) (w2 : zRun G mL_whole 0 0 [.ref 0, .int 2] H (.inr (some (.int (nI w)))) H) (w5 : zRun G mL_whole 0 0 [.ref 0, .int 5] H (.inr (some (.int (nI (zSN own w))))) H) (w12 : zRun G mL_whole 0 0 [.ref 0, .int (nI 12)] H (.inr (some (.int (nI (zSN F w))))) H) (w11 : zRun G mL_whole 0 0 [.ref 0, .int (nI 11)] H (.inr (some (.int (nI (zMx N w))))) H) (x1 : ∀ x y, x < c → y < w → zRun G mL_cells 0 0 [.ref 0, .int (nI x), .int (nI y), .int 1] H (.inr (some (.int (nI (A y x))))) H) (x0 : ∀ x y, x < c → y < w → zRun G mL_cells 0 0 [.ref 0, .int (nI x), .int (nI y), .int 0] H (.inr (some (.int (nI (B y x))))) H) (x2 : ∀ x y, x < c → y < w → zRun G mL_cells 0 0 [.ref 0, .int (nI x), .int (nI y), .int 2] H (.inr (some (.int (nI (L y x))))) H) (x3 : ∀ x y, x < c → y < w → zRun G mL_cells 0 0 [.ref 0, .int (nI x), .int (nI y), .int 3] H (.inr (some (.int (nI (c - 1 - x))))) H) (l0 : ∀ x y, x < c → y < w → zRun G mL_lotOf 0 0 [.ref 0, .int (nI (L y x)), .int 0] H (.inr (some (.int (nI (A y x))))) H) (r0 : ∀ y, y < w → zRun G mL_rows 0 0 [.ref 0, .int (nI y), .int 0] H (.inr (some (.int (nI (N y))))) H) (r1 : ∀ y, y < w → zRun G mL_rows 0 0 [.ref 0, .int (nI y), .int 1] H (.inr (some (.int (nI (F y))))) H) (r2 : ∀ y, y < w → zRun G mL_rows 0 0 [.ref 0, .int (nI y), .int 2] H (.inr (some (.int (nI (own y))))) H) (r3 : ∀ y, y < w → zRun G mL_rows 0 0 [.ref 0, .int (nI y), .int 3] H (.inr (some (.int (nI c + nI (N y))))) H) (r4 : ∀ y, y < w → zRun G mL_rows 0 0 [.ref 0, .int (nI y), .int 4] H (.inr (some (.int (nI (D y))))) H) (k4 : ∀ v, v < 8 → zRun G mL_colorOf 0 0 [.ref 0, .int (nI v), .int 4] H (.inr (some (.int (nI (R v))))) H) (fw : zRun G mX9_firstWrong 0 0 [.ref 0] H (.inr (some (.int (pFs own w)))) H) : zRun G mL_wovenRows 0 0 [.ref 0] H (.inr (some (.int 1))) H := by
  have hos : ∀ k, own k < 2 ^ 31 := fun k => by have := zCt_le (fun x => !(A k x == B k x)) c; rw [hown k]; omega
  have hMx : ∀ k, zMx N k ≤ 20 := zMx_le hN
  refine zRun_of (by decide +kernel) rfl rfl (Nat.le_of_ble_eq_true rfl) ?_
  suffices hs : ∀ (o9 : zO) (h9 : zH), (Sum.inr (some (.int 1)) : zO) = o9 → H = h9 → zPW G mL_wovenRows 0 0 o9 h9 0 0 0 [(0, .ref 0)] [] H from hs _ _ rfl rfl
  intro o9 h9 ho9 hh9
  refine z_aload_n 0 dL_wovenRows_0 rfl rfl ?_
  refine z_iconst (v := 0) dL_wovenRows_1 (by decide) ?_
  refine z_callSH (N := mL_whole) 2 [.ref 0, .int 0] [] lHL_whole ⟨zw_810, zw_811⟩ rfl rfl (Nat.le_of_ble_eq_true rfl) (by decide) ⟨hlen, hlen⟩ hG ⟨Nat.zero_le _, Nat.zero_le _⟩ w0 dL_wovenRows_2 ?_
  refine z_istore_n (lv' := [(1, .int (nI c)), (0, .ref 0)]) dL_wovenRows_5 rfl (by decide) rfl ?_
  refine z_iconst (v := 0) dL_wovenRows_6 (by decide) ?_
  refine z_istore_n (lv' := [(2, .int 0), (1, .int (nI c)), (0, .ref 0)]) dL_wovenRows_7 rfl (by decide) rfl ?_
  refine z_iconst (v := 0) dL_wovenRows_8 (by decide) ?_
  refine z_istore_n (lv' := [(3, .int 0), (2, .int 0), (1, .int (nI c)), (0, .ref 0)]) dL_wovenRows_9 rfl (by decide) rfl ?_
  refine z_iconst (v := 0) dL_wovenRows_10 (by decide) ?_
  refine z_istore (lv' := [(4, .int 0), (3, .int 0), (2, .int 0), (1, .int (nI c)), (0, .ref 0)]) dL_wovenRows_11 (by decide) rfl ?_
  refine z_iconst (v := 0) dL_wovenRows_13 (by decide) ?_
  refine z_istore (lv' := [(5, .int 0), (4, .int 0), (3, .int 0), (2, .int 0), (1, .int (nI c)), (0, .ref 0)]) dL_wovenRows_14 (by decide) rfl ?_
  refine z_iconst (v := (-1)) dL_wovenRows_16 (by decide) ?_
  refine z_istore (lv' := [(6, .int ((-1))), (5, .int 0), (4, .int 0), (3, .int 0), (2, .int 0), (1, .int (nI c)), (0, .ref 0)]) dL_wovenRows_17 (by decide) rfl ?_
  refine z_iconst (v := 1) dL_wovenRows_19 (by decide) ?_
  refine z_istore (lv' := [(7, .int 1), (6, .int ((-1))), (5, .int 0), (4, .int 0), (3, .int 0), (2, .int 0), (1, .int (nI c)), (0, .ref 0)]) dL_wovenRows_20 (by decide) rfl ?_
  refine z_iconst (v := 0) dL_wovenRows_22 (by decide) ?_
  refine z_istore (lv' := [(8, .int 0), (7, .int 1), (6, .int ((-1))), (5, .int 0), (4, .int 0), (3, .int 0), (2, .int 0), (1, .int (nI c)), (0, .ref 0)]) dL_wovenRows_23 (by decide) rfl ?_
  have L25_1 : ∀ (d k : Nat), k ≤ w → w + 1 ≤ k + d → zPW G mL_wovenRows 0 0 o9 h9 0 0 25 [(8, .int (nI k)), (0, .ref 0), (1, .int (nI c)), (2, .int (nI (zSN own k))), (3, .int (nI (zSN F k))), (4, .int (nI (zMx N k))), (5, .int (nI (zSN N k))), (6, .int (pFs own k)), (7, .int 1)] [] H := by
    intro d
    induction d with
    | zero => intro k hk hd; exact absurd hd (by omega)
    | succ d ih =>
      intro k hk_k hd_k
      have ih25 := ih
      clear ih
      refine z_iload 0 dL_wovenRows_25 rfl ?_
      refine z_aload_n 1 dL_wovenRows_27 rfl rfl ?_
      refine z_iconst (v := 2) dL_wovenRows_28 (by decide) ?_
      refine z_callSH (N := mL_whole) 2 [.ref 0, .int 2] [.int (nI k)] lHL_whole ⟨zw_810, zw_811⟩ rfl rfl (Nat.le_of_ble_eq_true rfl) (by decide) ⟨hlen, hlen⟩ hG ⟨Nat.zero_le _, Nat.zero_le _⟩ w2 dL_wovenRows_29 ?_
      refine z_icmp_ge (tgt := 308) dL_wovenRows_32 (by decide) (fun c_32 => ?_) (fun c_32 => ?_)
      · skip
        have hx_k := zge (by omega) hk_k c_32
        refine z_iconst (v := 0) dL_wovenRows_308 (by decide) ?_
        refine z_istore (lv' := [(8, .int 0), (0, .ref 0), (1, .int (nI c)), (2, .int (nI (zSN own k))), (3, .int (nI (zSN F k))), (4, .int (nI (zMx N k))), (5, .int (nI (zSN N k))), (6, .int (pFs own k)), (7, .int 1)]) dL_wovenRows_309 (by decide) rfl ?_
        refine z_iconst (v := 0) dL_wovenRows_311 (by decide) ?_
        refine z_istore (lv' := [(9, .int 0), (8, .int 0), (0, .ref 0), (1, .int (nI c)), (2, .int (nI (zSN own k))), (3, .int (nI (zSN F k))), (4, .int (nI (zMx N k))), (5, .int (nI (zSN N k))), (6, .int (pFs own k)), (7, .int 1)]) dL_wovenRows_312 (by decide) rfl ?_
        have L314_2 : ∀ (d v : Nat), v ≤ 8 → 8 + 1 ≤ v + d → zPW G mL_wovenRows 0 0 o9 h9 0 0 314 [(9, .int (nI v)), (8, .int (nI (zSN R v))), (0, .ref 0), (2, .int (nI (zSN own w))), (3, .int (nI (zSN F w))), (4, .int (nI (zMx N w))), (5, .int (nI (zSN N w))), (6, .int (pFs own w)), (7, .int 1)] [] H := by
          intro d
          induction d with
          | zero => intro v hk hd; exact absurd hd (by omega)
          | succ d ih =>
            intro v hk_v hd_v
            have ih314 := ih
            clear ih
            refine z_iload 0 dL_wovenRows_314 rfl ?_
            refine z_bipush (v := nI 8) dL_wovenRows_316 (by decide) ?_
            refine z_icmp_ge (tgt := 339) dL_wovenRows_318 (by decide) (fun c_318 => ?_) (fun c_318 => ?_)
            · skip
              have hx_v := zge (by omega) hk_v c_318
              refine z_iload 8 dL_wovenRows_339 rfl ?_
              refine z_if_eq (tgt := 394) dL_wovenRows_341 (by decide) (fun c_341 => ?_) (fun c_341 => ?_)
              · exact absurd c_341 (by decide)
              · skip
                refine z_aload_n 2 dL_wovenRows_344 rfl rfl ?_
                refine z_iconst (v := 5) dL_wovenRows_345 (by decide) ?_
                refine z_callSH (N := mL_whole) 2 [.ref 0, .int 5] [] lHL_whole ⟨zw_810, zw_811⟩ rfl rfl (Nat.le_of_ble_eq_true rfl) (by decide) ⟨hlen, hlen⟩ hG ⟨Nat.zero_le _, Nat.zero_le _⟩ w5 dL_wovenRows_346 ?_
                refine z_iload_n 3 dL_wovenRows_349 rfl rfl ?_
                refine z_icmp_ne (tgt := 394) dL_wovenRows_350 (by decide) (fun c_350 => ?_) (fun c_350 => ?_)
                · exact absurd c_350 (fun q => q rfl)
                · skip
                  refine z_aload_n 2 dL_wovenRows_353 rfl rfl ?_
                  refine z_bipush (v := nI 12) dL_wovenRows_354 (by decide) ?_
                  refine z_callSH (N := mL_whole) 2 [.ref 0, .int (nI 12)] [] lHL_whole ⟨zw_810, zw_811⟩ rfl rfl (Nat.le_of_ble_eq_true rfl) (by decide) ⟨hlen, hlen⟩ hG ⟨Nat.zero_le _, Nat.zero_le _⟩ w12 dL_wovenRows_356 ?_
                  refine z_iload_n 4 dL_wovenRows_359 rfl rfl ?_
                  refine z_icmp_ne (tgt := 394) dL_wovenRows_360 (by decide) (fun c_360 => ?_) (fun c_360 => ?_)
                  · exact absurd c_360 (fun q => q rfl)
                  · skip
                    refine z_aload_n 2 dL_wovenRows_363 rfl rfl ?_
                    refine z_bipush (v := nI 11) dL_wovenRows_364 (by decide) ?_
                    refine z_callSH (N := mL_whole) 2 [.ref 0, .int (nI 11)] [] lHL_whole ⟨zw_810, zw_811⟩ rfl rfl (Nat.le_of_ble_eq_true rfl) (by decide) ⟨hlen, hlen⟩ hG ⟨Nat.zero_le _, Nat.zero_le _⟩ w11 dL_wovenRows_366 ?_
                    refine z_iload 5 dL_wovenRows_369 rfl ?_
                    refine z_icmp_ne (tgt := 394) dL_wovenRows_371 (by decide) (fun c_371 => ?_) (fun c_371 => ?_)
                    · exact absurd c_371 (fun q => q rfl)
                    · skip
                      refine z_iload 1 dL_wovenRows_374 rfl ?_
                      refine z_iload 6 dL_wovenRows_376 rfl ?_
                      refine z_icmp_ne (tgt := 394) dL_wovenRows_378 (by decide) (fun c_378 => ?_) (fun c_378 => ?_)
                      · exact absurd c_378 (fun q => q (by rw [hx_v, hR]))
                      · skip
                        refine z_aload_n 2 dL_wovenRows_381 rfl rfl ?_
                        refine z_callV (N := mX9_firstWrong) 0 [] [] lX9_firstWrong ⟨zw_861, zw_862, zw_863⟩ rfl e0 rfl rfl (Nat.le_of_ble_eq_true rfl) (by decide) ⟨hlen, hlen⟩ ⟨Nat.zero_le _, Nat.zero_le _⟩ (fun _ => rfl) fw dL_wovenRows_382 ?_
                        refine z_iload 7 dL_wovenRows_385 rfl ?_
                        refine z_icmp_ne (tgt := 394) dL_wovenRows_387 (by decide) (fun c_387 => ?_) (fun c_387 => ?_)
                        · exact absurd c_387 (fun q => q rfl)
                        · skip
                          refine z_iconst (v := 1) dL_wovenRows_390 (by decide) ?_
                          refine z_goto (tgt := 395) dL_wovenRows_391 (by decide) ?_
                          exact z_zret rfl (by rfl) dL_wovenRows_395 (zo_i ho9 (by rfl)) (zo_h hh9 (by rfl)) (Nat.zero_le _) (Nat.zero_le _)
            · skip
              have hx_v := zlt' (by omega) hk_v c_318
              refine z_iload 1 dL_wovenRows_321 rfl ?_
              refine z_aload_n 2 dL_wovenRows_323 rfl rfl ?_
              refine z_iload 0 dL_wovenRows_324 rfl ?_
              refine z_iconst (v := 4) dL_wovenRows_326 (by decide) ?_
              refine z_callSH (N := mL_colorOf) 3 [.ref 0, .int (nI v), .int 4] [.int (nI (zSN R v))] lHL_colorOf ⟨zw_853, zw_854⟩ rfl rfl (Nat.le_of_ble_eq_true rfl) (by decide) ⟨hlen, hlen⟩ hG ⟨Nat.zero_le _, Nat.zero_le _⟩ (k4 v (by omega)) dL_wovenRows_327 ?_
              refine z_iadd dL_wovenRows_330 ?_
              refine z_top (v2 := .int (nI (zSN R (v + 1)))) (by rw [zSN_s]) ?_
              refine z_istore (lv' := [(8, .int (nI (zSN R (v + 1)))), (9, .int (nI v)), (0, .ref 0), (2, .int (nI (zSN own w))), (3, .int (nI (zSN F w))), (4, .int (nI (zMx N w))), (5, .int (nI (zSN N w))), (6, .int (pFs own w)), (7, .int 1)]) dL_wovenRows_331 (by decide) rfl ?_
              refine z_iinc (v := nI (v + 1)) (lv' := [(9, .int (nI (v + 1))), (8, .int (nI (zSN R (v + 1)))), (0, .ref 0), (2, .int (nI (zSN own w))), (3, .int (nI (zSN F w))), (4, .int (nI (zMx N w))), (5, .int (nI (zSN N w))), (6, .int (pFs own w)), (7, .int 1)]) 1 dL_wovenRows_333 rfl (nI_1 v) (by decide) rfl ?_
              refine z_goto (tgt := 314) dL_wovenRows_336 (by decide) ?_
              refine z_sub [0, 1, 2, 3, 4, 5, 6, 7, 8] (lv' := [(9, .int (nI (v + 1))), (8, .int (nI (zSN R (v + 1)))), (0, .ref 0), (2, .int (nI (zSN own w))), (3, .int (nI (zSN F w))), (4, .int (nI (zMx N w))), (5, .int (nI (zSN N w))), (6, .int (pFs own w)), (7, .int 1)]) rfl ?_
              refine z_eqs (lv2 := [(9, .int (nI (v + 1))), (8, .int (nI (zSN R (v + 1)))), (0, .ref 0), (2, .int (nI (zSN own w))), (3, .int (nI (zSN F w))), (4, .int (nI (zMx N w))), (5, .int (nI (zSN N w))), (6, .int (pFs own w)), (7, .int 1)]) (h2 := H) (by rfl) (by rfl) ?_
              exact ih314 (v + 1) (by omega) (by omega)
        refine z_sub [0, 1, 2, 4, 5, 6, 7, 8, 9] (lv' := [(9, .int 0), (8, .int 0), (0, .ref 0), (2, .int (nI (zSN own k))), (3, .int (nI (zSN F k))), (4, .int (nI (zMx N k))), (5, .int (nI (zSN N k))), (6, .int (pFs own k)), (7, .int 1)]) rfl ?_
        refine z_eqs (lv2 := [(9, .int (nI 0)), (8, .int (nI (zSN R 0))), (0, .ref 0), (2, .int (nI (zSN own w))), (3, .int (nI (zSN F w))), (4, .int (nI (zMx N w))), (5, .int (nI (zSN N w))), (6, .int (pFs own w)), (7, .int 1)]) (h2 := H) (by rw [hx_k]; rfl) (by rfl) ?_
        exact L314_2 (8 + 1) 0 (Nat.zero_le _) (by omega)
      · skip
        have hx_k := zlt' (by omega) hk_k c_32
        refine z_iload 8 dL_wovenRows_35 rfl ?_
        refine z_if_eq (tgt := 308) dL_wovenRows_37 (by decide) (fun c_37 => ?_) (fun c_37 => ?_)
        · exact absurd c_37 (by decide)
        · skip
          refine z_iconst (v := 0) dL_wovenRows_40 (by decide) ?_
          refine z_istore (lv' := [(9, .int 0), (8, .int (nI k)), (0, .ref 0), (1, .int (nI c)), (2, .int (nI (zSN own k))), (3, .int (nI (zSN F k))), (4, .int (nI (zMx N k))), (5, .int (nI (zSN N k))), (6, .int (pFs own k)), (7, .int 1)]) dL_wovenRows_41 (by decide) rfl ?_
          refine z_aload_n 2 dL_wovenRows_43 rfl rfl ?_
          refine z_iload 1 dL_wovenRows_44 rfl ?_
          refine z_iconst (v := 0) dL_wovenRows_46 (by decide) ?_
          refine z_callSH (N := mL_rows) 3 [.ref 0, .int (nI k), .int 0] [] lHL_rows ⟨zw_834, zw_835⟩ rfl rfl (Nat.le_of_ble_eq_true rfl) (by decide) ⟨hlen, hlen⟩ hG ⟨Nat.zero_le _, Nat.zero_le _⟩ (r0 k (by omega)) dL_wovenRows_47 ?_
          refine z_istore (lv' := [(10, .int (nI (N k))), (9, .int 0), (8, .int (nI k)), (0, .ref 0), (1, .int (nI c)), (2, .int (nI (zSN own k))), (3, .int (nI (zSN F k))), (4, .int (nI (zMx N k))), (5, .int (nI (zSN N k))), (6, .int (pFs own k)), (7, .int 1)]) dL_wovenRows_50 (by decide) rfl ?_
          refine z_iconst (v := 0) dL_wovenRows_52 (by decide) ?_
          refine z_istore (lv' := [(11, .int 0), (10, .int (nI (N k))), (9, .int 0), (8, .int (nI k)), (0, .ref 0), (1, .int (nI c)), (2, .int (nI (zSN own k))), (3, .int (nI (zSN F k))), (4, .int (nI (zMx N k))), (5, .int (nI (zSN N k))), (6, .int (pFs own k)), (7, .int 1)]) dL_wovenRows_53 (by decide) rfl ?_
          have L55_3 : ∀ (d j : Nat), j ≤ c → c + 1 ≤ j + d → zPW G mL_wovenRows 0 0 o9 h9 0 0 55 [(11, .int (nI j)), (9, .int (nI (zCt (fun x => !(A k x == B k x)) j))), (10, .int (nI (N k))), (8, .int (nI k)), (0, .ref 0), (1, .int (nI c)), (2, .int (nI (zSN own k))), (3, .int (nI (zSN F k))), (4, .int (nI (zMx N k))), (5, .int (nI (zSN N k))), (6, .int (pFs own k)), (7, .int 1)] [] H := by
            intro d
            induction d with
            | zero => intro j hk hd; exact absurd hd (by omega)
            | succ d ih =>
              intro j hk_j hd_j
              have ih55 := ih
              clear ih
              refine z_iload 0 dL_wovenRows_55 rfl ?_
              refine z_iload_n 5 dL_wovenRows_57 rfl rfl ?_
              refine z_icmp_ge (tgt := 156) dL_wovenRows_58 (by decide) (fun c_58 => ?_) (fun c_58 => ?_)
              · skip
                have hx_j := zge (by omega) hk_j c_58
                refine z_eqs (lv2 := [(11, .int (nI j)), (9, .int (nI (own k))), (10, .int (nI (N k))), (8, .int (nI k)), (0, .ref 0), (1, .int (nI c)), (2, .int (nI (zSN own k))), (3, .int (nI (zSN F k))), (4, .int (nI (zMx N k))), (5, .int (nI (zSN N k))), (6, .int (pFs own k)), (7, .int 1)]) (h2 := H) (by rw [hown k, ← hx_j]) (by rfl) ?_
                refine z_iload 10 dL_wovenRows_156 rfl ?_
                refine z_if_ge (tgt := 171) dL_wovenRows_158 (by decide) (fun c_158 => ?_) (fun c_158 => ?_)
                · skip
                  refine z_iload 10 dL_wovenRows_171 rfl ?_
                  refine z_top (v2 := .int (pFs own (k + 1))) (by first | exact pFs_a c_158 | exact pFs_b (hos k) c_163 | exact pFs_c (hos k) c_158 c_163) ?_
                  refine z_istore (lv' := [(6, .int (pFs own (k + 1))), (11, .int (nI j)), (9, .int (nI (own k))), (10, .int (nI (N k))), (8, .int (nI k)), (0, .ref 0), (1, .int (nI c)), (2, .int (nI (zSN own k))), (3, .int (nI (zSN F k))), (4, .int (nI (zMx N k))), (5, .int (nI (zSN N k))), (7, .int 1)]) dL_wovenRows_173 (by decide) rfl ?_
                  refine z_iload_n 7 dL_wovenRows_175 rfl rfl ?_
                  refine z_iload 2 dL_wovenRows_176 rfl ?_
                  refine z_iadd dL_wovenRows_178 ?_
                  refine z_top (v2 := .int (nI (zSN own (k + 1)))) (by rw [zSN_s]) ?_
                  refine z_istore_n (lv' := [(2, .int (nI (zSN own (k + 1)))), (6, .int (pFs own (k + 1))), (11, .int (nI j)), (9, .int (nI (own k))), (10, .int (nI (N k))), (8, .int (nI k)), (0, .ref 0), (1, .int (nI c)), (3, .int (nI (zSN F k))), (4, .int (nI (zMx N k))), (5, .int (nI (zSN N k))), (7, .int 1)]) dL_wovenRows_179 rfl (by decide) rfl ?_
                  refine z_iload_n 8 dL_wovenRows_180 rfl rfl ?_
                  refine z_aload_n 6 dL_wovenRows_181 rfl rfl ?_
                  refine z_iload 5 dL_wovenRows_182 rfl ?_
                  refine z_iconst (v := 1) dL_wovenRows_184 (by decide) ?_
                  refine z_callSH (N := mL_rows) 3 [.ref 0, .int (nI k), .int 1] [.int (nI (zSN F k))] lHL_rows ⟨zw_834, zw_835⟩ rfl rfl (Nat.le_of_ble_eq_true rfl) (by decide) ⟨hlen, hlen⟩ hG ⟨Nat.zero_le _, Nat.zero_le _⟩ (r1 k (by omega)) dL_wovenRows_185 ?_
                  refine z_iadd dL_wovenRows_188 ?_
                  refine z_top (v2 := .int (nI (zSN F (k + 1)))) (by rw [zSN_s]) ?_
                  refine z_istore_n (lv' := [(3, .int (nI (zSN F (k + 1)))), (2, .int (nI (zSN own (k + 1)))), (6, .int (pFs own (k + 1))), (11, .int (nI j)), (9, .int (nI (own k))), (10, .int (nI (N k))), (8, .int (nI k)), (0, .ref 0), (1, .int (nI c)), (4, .int (nI (zMx N k))), (5, .int (nI (zSN N k))), (7, .int 1)]) dL_wovenRows_189 rfl (by decide) rfl ?_
                  refine z_iload 10 dL_wovenRows_190 rfl ?_
                  refine z_iload 5 dL_wovenRows_192 rfl ?_
                  refine z_iadd dL_wovenRows_194 ?_
                  refine z_top (v2 := .int (nI (zSN N (k + 1)))) (by rw [zSN_s]) ?_
                  refine z_istore (lv' := [(5, .int (nI (zSN N (k + 1)))), (3, .int (nI (zSN F (k + 1)))), (2, .int (nI (zSN own (k + 1)))), (6, .int (pFs own (k + 1))), (11, .int (nI j)), (9, .int (nI (own k))), (10, .int (nI (N k))), (8, .int (nI k)), (0, .ref 0), (1, .int (nI c)), (4, .int (nI (zMx N k))), (7, .int 1)]) dL_wovenRows_195 (by decide) rfl ?_
                  refine z_iload 6 dL_wovenRows_197 rfl ?_
                  refine z_iload 10 dL_wovenRows_199 rfl ?_
                  refine z_icmp_le (tgt := 209) dL_wovenRows_201 (by decide) (fun c_201 => ?_) (fun c_201 => ?_)
                  · skip
                    refine z_iload 10 dL_wovenRows_209 rfl ?_
                    refine z_top (v2 := .int (nI (zMx N (k + 1)))) (by first | rw [zMx, Nat.max_eq_left (m_le (by have := hN k; omega) (by have := hMx k; omega) c_201)] | rw [zMx, Nat.max_eq_right (Nat.le_of_lt (m_nle (by have := hN k; omega) (by have := hMx k; omega) c_201))]) ?_
                    refine z_istore (lv' := [(4, .int (nI (zMx N (k + 1)))), (5, .int (nI (zSN N (k + 1)))), (3, .int (nI (zSN F (k + 1)))), (2, .int (nI (zSN own (k + 1)))), (6, .int (pFs own (k + 1))), (11, .int (nI j)), (9, .int (nI (own k))), (10, .int (nI (N k))), (8, .int (nI k)), (0, .ref 0), (1, .int (nI c)), (7, .int 1)]) dL_wovenRows_211 (by decide) rfl ?_
                    refine z_iload 11 dL_wovenRows_213 rfl ?_
                    refine z_if_eq (tgt := 299) dL_wovenRows_215 (by decide) (fun c_215 => ?_) (fun c_215 => ?_)
                    · exact absurd c_215 (by decide)
                    · skip
                      refine z_aload_n 9 dL_wovenRows_218 rfl rfl ?_
                      refine z_iload 8 dL_wovenRows_219 rfl ?_
                      refine z_iconst (v := 2) dL_wovenRows_221 (by decide) ?_
                      refine z_callSH (N := mL_rows) 3 [.ref 0, .int (nI k), .int 2] [] lHL_rows ⟨zw_834, zw_835⟩ rfl rfl (Nat.le_of_ble_eq_true rfl) (by decide) ⟨hlen, hlen⟩ hG ⟨Nat.zero_le _, Nat.zero_le _⟩ (r2 k (by omega)) dL_wovenRows_222 ?_
                      refine z_iload 6 dL_wovenRows_225 rfl ?_
                      refine z_icmp_ne (tgt := 299) dL_wovenRows_227 (by decide) (fun c_227 => ?_) (fun c_227 => ?_)
                      · exact absurd c_227 (fun q => q rfl)
                      · skip
                        refine z_aload_n 9 dL_wovenRows_230 rfl rfl ?_
                        refine z_iload 8 dL_wovenRows_231 rfl ?_
                        refine z_iconst (v := 1) dL_wovenRows_233 (by decide) ?_
                        refine z_callSH (N := mL_rows) 3 [.ref 0, .int (nI k), .int 1] [] lHL_rows ⟨zw_834, zw_835⟩ rfl rfl (Nat.le_of_ble_eq_true rfl) (by decide) ⟨hlen, hlen⟩ hG ⟨Nat.zero_le _, Nat.zero_le _⟩ (r1 k (by omega)) dL_wovenRows_234 ?_
                        refine z_iload 7 dL_wovenRows_237 rfl ?_
                        refine z_icmp_gt (tgt := 299) dL_wovenRows_239 (by decide) (fun c_239 => ?_) (fun c_239 => ?_)
                        · exact absurd c_239 (nI_nlt (hF k) (by have := hN k; omega))
                        · skip
                          refine z_iload 8 dL_wovenRows_242 rfl ?_
                          refine z_if_gt (tgt := 259) dL_wovenRows_244 (by decide) (fun c_244 => ?_) (fun c_244 => ?_)
                          · skip
                            refine z_aload_n 9 dL_wovenRows_259 rfl rfl ?_
                            refine z_iload 8 dL_wovenRows_260 rfl ?_
                            refine z_iconst (v := 3) dL_wovenRows_262 (by decide) ?_
                            refine z_callSH (N := mL_rows) 3 [.ref 0, .int (nI k), .int 3] [] lHL_rows ⟨zw_834, zw_835⟩ rfl rfl (Nat.le_of_ble_eq_true rfl) (by decide) ⟨hlen, hlen⟩ hG ⟨Nat.zero_le _, Nat.zero_le _⟩ (r3 k (by omega)) dL_wovenRows_263 ?_
                            refine z_iload_n 10 dL_wovenRows_266 rfl rfl ?_
                            refine z_iload 7 dL_wovenRows_267 rfl ?_
                            refine z_iadd dL_wovenRows_269 ?_
                            refine z_icmp_ne (tgt := 299) dL_wovenRows_270 (by decide) (fun c_270 => ?_) (fun c_270 => ?_)
                            · exact absurd c_270 (fun q => q rfl)
                            · skip
                              refine z_aload_n 9 dL_wovenRows_273 rfl rfl ?_
                              refine z_iload 8 dL_wovenRows_274 rfl ?_
                              refine z_iconst (v := 4) dL_wovenRows_276 (by decide) ?_
                              refine z_callSH (N := mL_rows) 3 [.ref 0, .int (nI k), .int 4] [] lHL_rows ⟨zw_834, zw_835⟩ rfl rfl (Nat.le_of_ble_eq_true rfl) (by decide) ⟨hlen, hlen⟩ hG ⟨Nat.zero_le _, Nat.zero_le _⟩ (r4 k (by omega)) dL_wovenRows_277 ?_
                              refine z_iconst (v := 1) dL_wovenRows_280 (by decide) ?_
                              refine z_icmp_lt (tgt := 299) dL_wovenRows_281 (by decide) (fun c_281 => ?_) (fun c_281 => ?_)
                              · exact absurd c_281 (Int32.not_lt.mpr (by rw [← nI_one]; exact nI_le (hD k hx_k).1 (by have := (hD k hx_k).2; omega)))
                              · skip
                                refine z_aload_n 9 dL_wovenRows_284 rfl rfl ?_
                                refine z_iload 8 dL_wovenRows_285 rfl ?_
                                refine z_iconst (v := 4) dL_wovenRows_287 (by decide) ?_
                                refine z_callSH (N := mL_rows) 3 [.ref 0, .int (nI k), .int 4] [] lHL_rows ⟨zw_834, zw_835⟩ rfl rfl (Nat.le_of_ble_eq_true rfl) (by decide) ⟨hlen, hlen⟩ hG ⟨Nat.zero_le _, Nat.zero_le _⟩ (r4 k (by omega)) dL_wovenRows_288 ?_
                                refine z_iload_n 10 dL_wovenRows_291 rfl rfl ?_
                                refine z_icmp_gt (tgt := 299) dL_wovenRows_292 (by decide) (fun c_292 => ?_) (fun c_292 => ?_)
                                · exact absurd c_292 (nI_nlt (hD k hx_k).2 (by omega))
                                · skip
                                  refine z_iconst (v := 1) dL_wovenRows_295 (by decide) ?_
                                  refine z_goto (tgt := 300) dL_wovenRows_296 (by decide) ?_
                                  refine z_istore (lv' := [(7, .int 1), (4, .int (nI (zMx N (k + 1)))), (5, .int (nI (zSN N (k + 1)))), (3, .int (nI (zSN F (k + 1)))), (2, .int (nI (zSN own (k + 1)))), (6, .int (pFs own (k + 1))), (11, .int (nI j)), (9, .int (nI (own k))), (10, .int (nI (N k))), (8, .int (nI k)), (0, .ref 0), (1, .int (nI c))]) dL_wovenRows_300 (by decide) rfl ?_
                                  refine z_iinc (v := nI (k + 1)) (lv' := [(8, .int (nI (k + 1))), (7, .int 1), (4, .int (nI (zMx N (k + 1)))), (5, .int (nI (zSN N (k + 1)))), (3, .int (nI (zSN F (k + 1)))), (2, .int (nI (zSN own (k + 1)))), (6, .int (pFs own (k + 1))), (11, .int (nI j)), (9, .int (nI (own k))), (10, .int (nI (N k))), (0, .ref 0), (1, .int (nI c))]) 9 dL_wovenRows_302 rfl (nI_1 k) (by decide) rfl ?_
                                  refine z_goto (tgt := 25) dL_wovenRows_305 (by decide) ?_
                                  refine z_sub [0, 10, 11, 5, 4, 2, 3, 6, 1] (lv' := [(8, .int (nI (k + 1))), (0, .ref 0), (1, .int (nI c)), (2, .int (nI (zSN own (k + 1)))), (3, .int (nI (zSN F (k + 1)))), (4, .int (nI (zMx N (k + 1)))), (5, .int (nI (zSN N (k + 1)))), (6, .int (pFs own (k + 1))), (7, .int 1)]) rfl ?_
                                  refine z_eqs (lv2 := [(8, .int (nI (k + 1))), (0, .ref 0), (1, .int (nI c)), (2, .int (nI (zSN own (k + 1)))), (3, .int (nI (zSN F (k + 1)))), (4, .int (nI (zMx N (k + 1)))), (5, .int (nI (zSN N (k + 1)))), (6, .int (pFs own (k + 1))), (7, .int 1)]) (h2 := H) (by rfl) (by rfl) ?_
                                  exact ih25 (k + 1) (by omega) (by omega)
                          · skip
                            refine z_aload_n 9 dL_wovenRows_247 rfl rfl ?_
                            refine z_iload 8 dL_wovenRows_248 rfl ?_
                            refine z_iconst (v := 1) dL_wovenRows_250 (by decide) ?_
                            refine z_callSH (N := mL_rows) 3 [.ref 0, .int (nI k), .int 1] [] lHL_rows ⟨zw_834, zw_835⟩ rfl rfl (Nat.le_of_ble_eq_true rfl) (by decide) ⟨hlen, hlen⟩ hG ⟨Nat.zero_le _, Nat.zero_le _⟩ (r1 k (by omega)) dL_wovenRows_251 ?_
                            refine z_iload 7 dL_wovenRows_254 rfl ?_
                            refine z_icmp_ne (tgt := 299) dL_wovenRows_256 (by decide) (fun c_256 => ?_) (fun c_256 => ?_)
                            · exfalso; have z0 := m_z_gt_f (by omega) c_244; exact c_256 (by rw [z0, hF0 (by omega)])
                            · skip
                              refine z_aload_n 9 dL_wovenRows_259 rfl rfl ?_
                              refine z_iload 8 dL_wovenRows_260 rfl ?_
                              refine z_iconst (v := 3) dL_wovenRows_262 (by decide) ?_
                              refine z_callSH (N := mL_rows) 3 [.ref 0, .int (nI k), .int 3] [] lHL_rows ⟨zw_834, zw_835⟩ rfl rfl (Nat.le_of_ble_eq_true rfl) (by decide) ⟨hlen, hlen⟩ hG ⟨Nat.zero_le _, Nat.zero_le _⟩ (r3 k (by omega)) dL_wovenRows_263 ?_
                              refine z_iload_n 10 dL_wovenRows_266 rfl rfl ?_
                              refine z_iload 7 dL_wovenRows_267 rfl ?_
                              refine z_iadd dL_wovenRows_269 ?_
                              refine z_icmp_ne (tgt := 299) dL_wovenRows_270 (by decide) (fun c_270 => ?_) (fun c_270 => ?_)
                              · exact absurd c_270 (fun q => q rfl)
                              · skip
                                refine z_aload_n 9 dL_wovenRows_273 rfl rfl ?_
                                refine z_iload 8 dL_wovenRows_274 rfl ?_
                                refine z_iconst (v := 4) dL_wovenRows_276 (by decide) ?_
                                refine z_callSH (N := mL_rows) 3 [.ref 0, .int (nI k), .int 4] [] lHL_rows ⟨zw_834, zw_835⟩ rfl rfl (Nat.le_of_ble_eq_true rfl) (by decide) ⟨hlen, hlen⟩ hG ⟨Nat.zero_le _, Nat.zero_le _⟩ (r4 k (by omega)) dL_wovenRows_277 ?_
                                refine z_iconst (v := 1) dL_wovenRows_280 (by decide) ?_
                                refine z_icmp_lt (tgt := 299) dL_wovenRows_281 (by decide) (fun c_281 => ?_) (fun c_281 => ?_)
                                · exact absurd c_281 (Int32.not_lt.mpr (by rw [← nI_one]; exact nI_le (hD k hx_k).1 (by have := (hD k hx_k).2; omega)))
                                · skip
                                  refine z_aload_n 9 dL_wovenRows_284 rfl rfl ?_
                                  refine z_iload 8 dL_wovenRows_285 rfl ?_
                                  refine z_iconst (v := 4) dL_wovenRows_287 (by decide) ?_
                                  refine z_callSH (N := mL_rows) 3 [.ref 0, .int (nI k), .int 4] [] lHL_rows ⟨zw_834, zw_835⟩ rfl rfl (Nat.le_of_ble_eq_true rfl) (by decide) ⟨hlen, hlen⟩ hG ⟨Nat.zero_le _, Nat.zero_le _⟩ (r4 k (by omega)) dL_wovenRows_288 ?_
                                  refine z_iload_n 10 dL_wovenRows_291 rfl rfl ?_
                                  refine z_icmp_gt (tgt := 299) dL_wovenRows_292 (by decide) (fun c_292 => ?_) (fun c_292 => ?_)
                                  · exact absurd c_292 (nI_nlt (hD k hx_k).2 (by omega))
                                  · skip
                                    refine z_iconst (v := 1) dL_wovenRows_295 (by decide) ?_
                                    refine z_goto (tgt := 300) dL_wovenRows_296 (by decide) ?_
                                    refine z_istore (lv' := [(7, .int 1), (4, .int (nI (zMx N (k + 1)))), (5, .int (nI (zSN N (k + 1)))), (3, .int (nI (zSN F (k + 1)))), (2, .int (nI (zSN own (k + 1)))), (6, .int (pFs own (k + 1))), (11, .int (nI j)), (9, .int (nI (own k))), (10, .int (nI (N k))), (8, .int (nI k)), (0, .ref 0), (1, .int (nI c))]) dL_wovenRows_300 (by decide) rfl ?_
                                    refine z_iinc (v := nI (k + 1)) (lv' := [(8, .int (nI (k + 1))), (7, .int 1), (4, .int (nI (zMx N (k + 1)))), (5, .int (nI (zSN N (k + 1)))), (3, .int (nI (zSN F (k + 1)))), (2, .int (nI (zSN own (k + 1)))), (6, .int (pFs own (k + 1))), (11, .int (nI j)), (9, .int (nI (own k))), (10, .int (nI (N k))), (0, .ref 0), (1, .int (nI c))]) 9 dL_wovenRows_302 rfl (nI_1 k) (by decide) rfl ?_
                                    refine z_goto (tgt := 25) dL_wovenRows_305 (by decide) ?_
                                    refine z_sub [0, 10, 11, 5, 4, 2, 3, 6, 1] (lv' := [(8, .int (nI (k + 1))), (0, .ref 0), (1, .int (nI c)), (2, .int (nI (zSN own (k + 1)))), (3, .int (nI (zSN F (k + 1)))), (4, .int (nI (zMx N (k + 1)))), (5, .int (nI (zSN N (k + 1)))), (6, .int (pFs own (k + 1))), (7, .int 1)]) rfl ?_
                                    refine z_eqs (lv2 := [(8, .int (nI (k + 1))), (0, .ref 0), (1, .int (nI c)), (2, .int (nI (zSN own (k + 1)))), (3, .int (nI (zSN F (k + 1)))), (4, .int (nI (zMx N (k + 1)))), (5, .int (nI (zSN N (k + 1)))), (6, .int (pFs own (k + 1))), (7, .int 1)]) (h2 := H) (by rfl) (by rfl) ?_
                                    exact ih25 (k + 1) (by omega) (by omega)
                  · skip
                    refine z_iload 6 dL_wovenRows_204 rfl ?_
                    refine z_goto (tgt := 211) dL_wovenRows_206 (by decide) ?_
                    refine z_top (v2 := .int (nI (zMx N (k + 1)))) (by first | rw [zMx, Nat.max_eq_left (m_le (by have := hN k; omega) (by have := hMx k; omega) c_201)] | rw [zMx, Nat.max_eq_right (Nat.le_of_lt (m_nle (by have := hN k; omega) (by have := hMx k; omega) c_201))]) ?_
                    refine z_istore (lv' := [(4, .int (nI (zMx N (k + 1)))), (5, .int (nI (zSN N (k + 1)))), (3, .int (nI (zSN F (k + 1)))), (2, .int (nI (zSN own (k + 1)))), (6, .int (pFs own (k + 1))), (11, .int (nI j)), (9, .int (nI (own k))), (10, .int (nI (N k))), (8, .int (nI k)), (0, .ref 0), (1, .int (nI c)), (7, .int 1)]) dL_wovenRows_211 (by decide) rfl ?_
                    refine z_iload 11 dL_wovenRows_213 rfl ?_
                    refine z_if_eq (tgt := 299) dL_wovenRows_215 (by decide) (fun c_215 => ?_) (fun c_215 => ?_)
                    · exact absurd c_215 (by decide)
                    · skip
                      refine z_aload_n 9 dL_wovenRows_218 rfl rfl ?_
                      refine z_iload 8 dL_wovenRows_219 rfl ?_
                      refine z_iconst (v := 2) dL_wovenRows_221 (by decide) ?_
                      refine z_callSH (N := mL_rows) 3 [.ref 0, .int (nI k), .int 2] [] lHL_rows ⟨zw_834, zw_835⟩ rfl rfl (Nat.le_of_ble_eq_true rfl) (by decide) ⟨hlen, hlen⟩ hG ⟨Nat.zero_le _, Nat.zero_le _⟩ (r2 k (by omega)) dL_wovenRows_222 ?_
                      refine z_iload 6 dL_wovenRows_225 rfl ?_
                      refine z_icmp_ne (tgt := 299) dL_wovenRows_227 (by decide) (fun c_227 => ?_) (fun c_227 => ?_)
                      · exact absurd c_227 (fun q => q rfl)
                      · skip
                        refine z_aload_n 9 dL_wovenRows_230 rfl rfl ?_
                        refine z_iload 8 dL_wovenRows_231 rfl ?_
                        refine z_iconst (v := 1) dL_wovenRows_233 (by decide) ?_
                        refine z_callSH (N := mL_rows) 3 [.ref 0, .int (nI k), .int 1] [] lHL_rows ⟨zw_834, zw_835⟩ rfl rfl (Nat.le_of_ble_eq_true rfl) (by decide) ⟨hlen, hlen⟩ hG ⟨Nat.zero_le _, Nat.zero_le _⟩ (r1 k (by omega)) dL_wovenRows_234 ?_
                        refine z_iload 7 dL_wovenRows_237 rfl ?_
                        refine z_icmp_gt (tgt := 299) dL_wovenRows_239 (by decide) (fun c_239 => ?_) (fun c_239 => ?_)
                        · exact absurd c_239 (nI_nlt (hF k) (by have := hN k; omega))
                        · skip
                          refine z_iload 8 dL_wovenRows_242 rfl ?_
                          refine z_if_gt (tgt := 259) dL_wovenRows_244 (by decide) (fun c_244 => ?_) (fun c_244 => ?_)
                          · skip
                            refine z_aload_n 9 dL_wovenRows_259 rfl rfl ?_
                            refine z_iload 8 dL_wovenRows_260 rfl ?_
                            refine z_iconst (v := 3) dL_wovenRows_262 (by decide) ?_
                            refine z_callSH (N := mL_rows) 3 [.ref 0, .int (nI k), .int 3] [] lHL_rows ⟨zw_834, zw_835⟩ rfl rfl (Nat.le_of_ble_eq_true rfl) (by decide) ⟨hlen, hlen⟩ hG ⟨Nat.zero_le _, Nat.zero_le _⟩ (r3 k (by omega)) dL_wovenRows_263 ?_
                            refine z_iload_n 10 dL_wovenRows_266 rfl rfl ?_
                            refine z_iload 7 dL_wovenRows_267 rfl ?_
                            refine z_iadd dL_wovenRows_269 ?_
                            refine z_icmp_ne (tgt := 299) dL_wovenRows_270 (by decide) (fun c_270 => ?_) (fun c_270 => ?_)
                            · exact absurd c_270 (fun q => q rfl)
                            · skip
                              refine z_aload_n 9 dL_wovenRows_273 rfl rfl ?_
                              refine z_iload 8 dL_wovenRows_274 rfl ?_
                              refine z_iconst (v := 4) dL_wovenRows_276 (by decide) ?_
                              refine z_callSH (N := mL_rows) 3 [.ref 0, .int (nI k), .int 4] [] lHL_rows ⟨zw_834, zw_835⟩ rfl rfl (Nat.le_of_ble_eq_true rfl) (by decide) ⟨hlen, hlen⟩ hG ⟨Nat.zero_le _, Nat.zero_le _⟩ (r4 k (by omega)) dL_wovenRows_277 ?_
                              refine z_iconst (v := 1) dL_wovenRows_280 (by decide) ?_
                              refine z_icmp_lt (tgt := 299) dL_wovenRows_281 (by decide) (fun c_281 => ?_) (fun c_281 => ?_)
                              · exact absurd c_281 (Int32.not_lt.mpr (by rw [← nI_one]; exact nI_le (hD k hx_k).1 (by have := (hD k hx_k).2; omega)))
                              · skip
                                refine z_aload_n 9 dL_wovenRows_284 rfl rfl ?_
                                refine z_iload 8 dL_wovenRows_285 rfl ?_
                                refine z_iconst (v := 4) dL_wovenRows_287 (by decide) ?_
                                refine z_callSH (N := mL_rows) 3 [.ref 0, .int (nI k), .int 4] [] lHL_rows ⟨zw_834, zw_835⟩ rfl rfl (Nat.le_of_ble_eq_true rfl) (by decide) ⟨hlen, hlen⟩ hG ⟨Nat.zero_le _, Nat.zero_le _⟩ (r4 k (by omega)) dL_wovenRows_288 ?_
                                refine z_iload_n 10 dL_wovenRows_291 rfl rfl ?_
                                refine z_icmp_gt (tgt := 299) dL_wovenRows_292 (by decide) (fun c_292 => ?_) (fun c_292 => ?_)
                                · exact absurd c_292 (nI_nlt (hD k hx_k).2 (by omega))
                                · skip
                                  refine z_iconst (v := 1) dL_wovenRows_295 (by decide) ?_
                                  refine z_goto (tgt := 300) dL_wovenRows_296 (by decide) ?_
                                  refine z_istore (lv' := [(7, .int 1), (4, .int (nI (zMx N (k + 1)))), (5, .int (nI (zSN N (k + 1)))), (3, .int (nI (zSN F (k + 1)))), (2, .int (nI (zSN own (k + 1)))), (6, .int (pFs own (k + 1))), (11, .int (nI j)), (9, .int (nI (own k))), (10, .int (nI (N k))), (8, .int (nI k)), (0, .ref 0), (1, .int (nI c))]) dL_wovenRows_300 (by decide) rfl ?_
                                  refine z_iinc (v := nI (k + 1)) (lv' := [(8, .int (nI (k + 1))), (7, .int 1), (4, .int (nI (zMx N (k + 1)))), (5, .int (nI (zSN N (k + 1)))), (3, .int (nI (zSN F (k + 1)))), (2, .int (nI (zSN own (k + 1)))), (6, .int (pFs own (k + 1))), (11, .int (nI j)), (9, .int (nI (own k))), (10, .int (nI (N k))), (0, .ref 0), (1, .int (nI c))]) 9 dL_wovenRows_302 rfl (nI_1 k) (by decide) rfl ?_
                                  refine z_goto (tgt := 25) dL_wovenRows_305 (by decide) ?_
                                  refine z_sub [0, 10, 11, 5, 4, 2, 3, 6, 1] (lv' := [(8, .int (nI (k + 1))), (0, .ref 0), (1, .int (nI c)), (2, .int (nI (zSN own (k + 1)))), (3, .int (nI (zSN F (k + 1)))), (4, .int (nI (zMx N (k + 1)))), (5, .int (nI (zSN N (k + 1)))), (6, .int (pFs own (k + 1))), (7, .int 1)]) rfl ?_
                                  refine z_eqs (lv2 := [(8, .int (nI (k + 1))), (0, .ref 0), (1, .int (nI c)), (2, .int (nI (zSN own (k + 1)))), (3, .int (nI (zSN F (k + 1)))), (4, .int (nI (zMx N (k + 1)))), (5, .int (nI (zSN N (k + 1)))), (6, .int (pFs own (k + 1))), (7, .int 1)]) (h2 := H) (by rfl) (by rfl) ?_
                                  exact ih25 (k + 1) (by omega) (by omega)
                          · skip
                            refine z_aload_n 9 dL_wovenRows_247 rfl rfl ?_
                            refine z_iload 8 dL_wovenRows_248 rfl ?_
                            refine z_iconst (v := 1) dL_wovenRows_250 (by decide) ?_
                            refine z_callSH (N := mL_rows) 3 [.ref 0, .int (nI k), .int 1] [] lHL_rows ⟨zw_834, zw_835⟩ rfl rfl (Nat.le_of_ble_eq_true rfl) (by decide) ⟨hlen, hlen⟩ hG ⟨Nat.zero_le _, Nat.zero_le _⟩ (r1 k (by omega)) dL_wovenRows_251 ?_
                            refine z_iload 7 dL_wovenRows_254 rfl ?_
                            refine z_icmp_ne (tgt := 299) dL_wovenRows_256 (by decide) (fun c_256 => ?_) (fun c_256 => ?_)
                            · exfalso; have z0 := m_z_gt_f (by omega) c_244; exact c_256 (by rw [z0, hF0 (by omega)])
                            · skip
                              refine z_aload_n 9 dL_wovenRows_259 rfl rfl ?_
                              refine z_iload 8 dL_wovenRows_260 rfl ?_
                              refine z_iconst (v := 3) dL_wovenRows_262 (by decide) ?_
                              refine z_callSH (N := mL_rows) 3 [.ref 0, .int (nI k), .int 3] [] lHL_rows ⟨zw_834, zw_835⟩ rfl rfl (Nat.le_of_ble_eq_true rfl) (by decide) ⟨hlen, hlen⟩ hG ⟨Nat.zero_le _, Nat.zero_le _⟩ (r3 k (by omega)) dL_wovenRows_263 ?_
                              refine z_iload_n 10 dL_wovenRows_266 rfl rfl ?_
                              refine z_iload 7 dL_wovenRows_267 rfl ?_
                              refine z_iadd dL_wovenRows_269 ?_
                              refine z_icmp_ne (tgt := 299) dL_wovenRows_270 (by decide) (fun c_270 => ?_) (fun c_270 => ?_)
                              · exact absurd c_270 (fun q => q rfl)
                              · skip
                                refine z_aload_n 9 dL_wovenRows_273 rfl rfl ?_
                                refine z_iload 8 dL_wovenRows_274 rfl ?_
                                refine z_iconst (v := 4) dL_wovenRows_276 (by decide) ?_
                                refine z_callSH (N := mL_rows) 3 [.ref 0, .int (nI k), .int 4] [] lHL_rows ⟨zw_834, zw_835⟩ rfl rfl (Nat.le_of_ble_eq_true rfl) (by decide) ⟨hlen, hlen⟩ hG ⟨Nat.zero_le _, Nat.zero_le _⟩ (r4 k (by omega)) dL_wovenRows_277 ?_
                                refine z_iconst (v := 1) dL_wovenRows_280 (by decide) ?_
                                refine z_icmp_lt (tgt := 299) dL_wovenRows_281 (by decide) (fun c_281 => ?_) (fun c_281 => ?_)
                                · exact absurd c_281 (Int32.not_lt.mpr (by rw [← nI_one]; exact nI_le (hD k hx_k).1 (by have := (hD k hx_k).2; omega)))
                                · skip
                                  refine z_aload_n 9 dL_wovenRows_284 rfl rfl ?_
                                  refine z_iload 8 dL_wovenRows_285 rfl ?_
                                  refine z_iconst (v := 4) dL_wovenRows_287 (by decide) ?_
                                  refine z_callSH (N := mL_rows) 3 [.ref 0, .int (nI k), .int 4] [] lHL_rows ⟨zw_834, zw_835⟩ rfl rfl (Nat.le_of_ble_eq_true rfl) (by decide) ⟨hlen, hlen⟩ hG ⟨Nat.zero_le _, Nat.zero_le _⟩ (r4 k (by omega)) dL_wovenRows_288 ?_
                                  refine z_iload_n 10 dL_wovenRows_291 rfl rfl ?_
                                  refine z_icmp_gt (tgt := 299) dL_wovenRows_292 (by decide) (fun c_292 => ?_) (fun c_292 => ?_)
                                  · exact absurd c_292 (nI_nlt (hD k hx_k).2 (by omega))
                                  · skip
                                    refine z_iconst (v := 1) dL_wovenRows_295 (by decide) ?_
                                    refine z_goto (tgt := 300) dL_wovenRows_296 (by decide) ?_
                                    refine z_istore (lv' := [(7, .int 1), (4, .int (nI (zMx N (k + 1)))), (5, .int (nI (zSN N (k + 1)))), (3, .int (nI (zSN F (k + 1)))), (2, .int (nI (zSN own (k + 1)))), (6, .int (pFs own (k + 1))), (11, .int (nI j)), (9, .int (nI (own k))), (10, .int (nI (N k))), (8, .int (nI k)), (0, .ref 0), (1, .int (nI c))]) dL_wovenRows_300 (by decide) rfl ?_
                                    refine z_iinc (v := nI (k + 1)) (lv' := [(8, .int (nI (k + 1))), (7, .int 1), (4, .int (nI (zMx N (k + 1)))), (5, .int (nI (zSN N (k + 1)))), (3, .int (nI (zSN F (k + 1)))), (2, .int (nI (zSN own (k + 1)))), (6, .int (pFs own (k + 1))), (11, .int (nI j)), (9, .int (nI (own k))), (10, .int (nI (N k))), (0, .ref 0), (1, .int (nI c))]) 9 dL_wovenRows_302 rfl (nI_1 k) (by decide) rfl ?_
                                    refine z_goto (tgt := 25) dL_wovenRows_305 (by decide) ?_
                                    refine z_sub [0, 10, 11, 5, 4, 2, 3, 6, 1] (lv' := [(8, .int (nI (k + 1))), (0, .ref 0), (1, .int (nI c)), (2, .int (nI (zSN own (k + 1)))), (3, .int (nI (zSN F (k + 1)))), (4, .int (nI (zMx N (k + 1)))), (5, .int (nI (zSN N (k + 1)))), (6, .int (pFs own (k + 1))), (7, .int 1)]) rfl ?_
                                    refine z_eqs (lv2 := [(8, .int (nI (k + 1))), (0, .ref 0), (1, .int (nI c)), (2, .int (nI (zSN own (k + 1)))), (3, .int (nI (zSN F (k + 1)))), (4, .int (nI (zMx N (k + 1)))), (5, .int (nI (zSN N (k + 1)))), (6, .int (pFs own (k + 1))), (7, .int 1)]) (h2 := H) (by rfl) (by rfl) ?_
                                    exact ih25 (k + 1) (by omega) (by omega)
                · skip
                  refine z_iload 1 dL_wovenRows_161 rfl ?_
                  refine z_if_le (tgt := 171) dL_wovenRows_163 (by decide) (fun c_163 => ?_) (fun c_163 => ?_)
                  · skip
                    refine z_iload 10 dL_wovenRows_171 rfl ?_
                    refine z_top (v2 := .int (pFs own (k + 1))) (by first | exact pFs_a c_158 | exact pFs_b (hos k) c_163 | exact pFs_c (hos k) c_158 c_163) ?_
                    refine z_istore (lv' := [(6, .int (pFs own (k + 1))), (11, .int (nI j)), (9, .int (nI (own k))), (10, .int (nI (N k))), (8, .int (nI k)), (0, .ref 0), (1, .int (nI c)), (2, .int (nI (zSN own k))), (3, .int (nI (zSN F k))), (4, .int (nI (zMx N k))), (5, .int (nI (zSN N k))), (7, .int 1)]) dL_wovenRows_173 (by decide) rfl ?_
                    refine z_iload_n 7 dL_wovenRows_175 rfl rfl ?_
                    refine z_iload 2 dL_wovenRows_176 rfl ?_
                    refine z_iadd dL_wovenRows_178 ?_
                    refine z_top (v2 := .int (nI (zSN own (k + 1)))) (by rw [zSN_s]) ?_
                    refine z_istore_n (lv' := [(2, .int (nI (zSN own (k + 1)))), (6, .int (pFs own (k + 1))), (11, .int (nI j)), (9, .int (nI (own k))), (10, .int (nI (N k))), (8, .int (nI k)), (0, .ref 0), (1, .int (nI c)), (3, .int (nI (zSN F k))), (4, .int (nI (zMx N k))), (5, .int (nI (zSN N k))), (7, .int 1)]) dL_wovenRows_179 rfl (by decide) rfl ?_
                    refine z_iload_n 8 dL_wovenRows_180 rfl rfl ?_
                    refine z_aload_n 6 dL_wovenRows_181 rfl rfl ?_
                    refine z_iload 5 dL_wovenRows_182 rfl ?_
                    refine z_iconst (v := 1) dL_wovenRows_184 (by decide) ?_
                    refine z_callSH (N := mL_rows) 3 [.ref 0, .int (nI k), .int 1] [.int (nI (zSN F k))] lHL_rows ⟨zw_834, zw_835⟩ rfl rfl (Nat.le_of_ble_eq_true rfl) (by decide) ⟨hlen, hlen⟩ hG ⟨Nat.zero_le _, Nat.zero_le _⟩ (r1 k (by omega)) dL_wovenRows_185 ?_
                    refine z_iadd dL_wovenRows_188 ?_
                    refine z_top (v2 := .int (nI (zSN F (k + 1)))) (by rw [zSN_s]) ?_
                    refine z_istore_n (lv' := [(3, .int (nI (zSN F (k + 1)))), (2, .int (nI (zSN own (k + 1)))), (6, .int (pFs own (k + 1))), (11, .int (nI j)), (9, .int (nI (own k))), (10, .int (nI (N k))), (8, .int (nI k)), (0, .ref 0), (1, .int (nI c)), (4, .int (nI (zMx N k))), (5, .int (nI (zSN N k))), (7, .int 1)]) dL_wovenRows_189 rfl (by decide) rfl ?_
                    refine z_iload 10 dL_wovenRows_190 rfl ?_
                    refine z_iload 5 dL_wovenRows_192 rfl ?_
                    refine z_iadd dL_wovenRows_194 ?_
                    refine z_top (v2 := .int (nI (zSN N (k + 1)))) (by rw [zSN_s]) ?_
                    refine z_istore (lv' := [(5, .int (nI (zSN N (k + 1)))), (3, .int (nI (zSN F (k + 1)))), (2, .int (nI (zSN own (k + 1)))), (6, .int (pFs own (k + 1))), (11, .int (nI j)), (9, .int (nI (own k))), (10, .int (nI (N k))), (8, .int (nI k)), (0, .ref 0), (1, .int (nI c)), (4, .int (nI (zMx N k))), (7, .int 1)]) dL_wovenRows_195 (by decide) rfl ?_
                    refine z_iload 6 dL_wovenRows_197 rfl ?_
                    refine z_iload 10 dL_wovenRows_199 rfl ?_
                    refine z_icmp_le (tgt := 209) dL_wovenRows_201 (by decide) (fun c_201 => ?_) (fun c_201 => ?_)
                    · skip
                      refine z_iload 10 dL_wovenRows_209 rfl ?_
                      refine z_top (v2 := .int (nI (zMx N (k + 1)))) (by first | rw [zMx, Nat.max_eq_left (m_le (by have := hN k; omega) (by have := hMx k; omega) c_201)] | rw [zMx, Nat.max_eq_right (Nat.le_of_lt (m_nle (by have := hN k; omega) (by have := hMx k; omega) c_201))]) ?_
                      refine z_istore (lv' := [(4, .int (nI (zMx N (k + 1)))), (5, .int (nI (zSN N (k + 1)))), (3, .int (nI (zSN F (k + 1)))), (2, .int (nI (zSN own (k + 1)))), (6, .int (pFs own (k + 1))), (11, .int (nI j)), (9, .int (nI (own k))), (10, .int (nI (N k))), (8, .int (nI k)), (0, .ref 0), (1, .int (nI c)), (7, .int 1)]) dL_wovenRows_211 (by decide) rfl ?_
                      refine z_iload 11 dL_wovenRows_213 rfl ?_
                      refine z_if_eq (tgt := 299) dL_wovenRows_215 (by decide) (fun c_215 => ?_) (fun c_215 => ?_)
                      · exact absurd c_215 (by decide)
                      · skip
                        refine z_aload_n 9 dL_wovenRows_218 rfl rfl ?_
                        refine z_iload 8 dL_wovenRows_219 rfl ?_
                        refine z_iconst (v := 2) dL_wovenRows_221 (by decide) ?_
                        refine z_callSH (N := mL_rows) 3 [.ref 0, .int (nI k), .int 2] [] lHL_rows ⟨zw_834, zw_835⟩ rfl rfl (Nat.le_of_ble_eq_true rfl) (by decide) ⟨hlen, hlen⟩ hG ⟨Nat.zero_le _, Nat.zero_le _⟩ (r2 k (by omega)) dL_wovenRows_222 ?_
                        refine z_iload 6 dL_wovenRows_225 rfl ?_
                        refine z_icmp_ne (tgt := 299) dL_wovenRows_227 (by decide) (fun c_227 => ?_) (fun c_227 => ?_)
                        · exact absurd c_227 (fun q => q rfl)
                        · skip
                          refine z_aload_n 9 dL_wovenRows_230 rfl rfl ?_
                          refine z_iload 8 dL_wovenRows_231 rfl ?_
                          refine z_iconst (v := 1) dL_wovenRows_233 (by decide) ?_
                          refine z_callSH (N := mL_rows) 3 [.ref 0, .int (nI k), .int 1] [] lHL_rows ⟨zw_834, zw_835⟩ rfl rfl (Nat.le_of_ble_eq_true rfl) (by decide) ⟨hlen, hlen⟩ hG ⟨Nat.zero_le _, Nat.zero_le _⟩ (r1 k (by omega)) dL_wovenRows_234 ?_
                          refine z_iload 7 dL_wovenRows_237 rfl ?_
                          refine z_icmp_gt (tgt := 299) dL_wovenRows_239 (by decide) (fun c_239 => ?_) (fun c_239 => ?_)
                          · exact absurd c_239 (nI_nlt (hF k) (by have := hN k; omega))
                          · skip
                            refine z_iload 8 dL_wovenRows_242 rfl ?_
                            refine z_if_gt (tgt := 259) dL_wovenRows_244 (by decide) (fun c_244 => ?_) (fun c_244 => ?_)
                            · skip
                              refine z_aload_n 9 dL_wovenRows_259 rfl rfl ?_
                              refine z_iload 8 dL_wovenRows_260 rfl ?_
                              refine z_iconst (v := 3) dL_wovenRows_262 (by decide) ?_
                              refine z_callSH (N := mL_rows) 3 [.ref 0, .int (nI k), .int 3] [] lHL_rows ⟨zw_834, zw_835⟩ rfl rfl (Nat.le_of_ble_eq_true rfl) (by decide) ⟨hlen, hlen⟩ hG ⟨Nat.zero_le _, Nat.zero_le _⟩ (r3 k (by omega)) dL_wovenRows_263 ?_
                              refine z_iload_n 10 dL_wovenRows_266 rfl rfl ?_
                              refine z_iload 7 dL_wovenRows_267 rfl ?_
                              refine z_iadd dL_wovenRows_269 ?_
                              refine z_icmp_ne (tgt := 299) dL_wovenRows_270 (by decide) (fun c_270 => ?_) (fun c_270 => ?_)
                              · exact absurd c_270 (fun q => q rfl)
                              · skip
                                refine z_aload_n 9 dL_wovenRows_273 rfl rfl ?_
                                refine z_iload 8 dL_wovenRows_274 rfl ?_
                                refine z_iconst (v := 4) dL_wovenRows_276 (by decide) ?_
                                refine z_callSH (N := mL_rows) 3 [.ref 0, .int (nI k), .int 4] [] lHL_rows ⟨zw_834, zw_835⟩ rfl rfl (Nat.le_of_ble_eq_true rfl) (by decide) ⟨hlen, hlen⟩ hG ⟨Nat.zero_le _, Nat.zero_le _⟩ (r4 k (by omega)) dL_wovenRows_277 ?_
                                refine z_iconst (v := 1) dL_wovenRows_280 (by decide) ?_
                                refine z_icmp_lt (tgt := 299) dL_wovenRows_281 (by decide) (fun c_281 => ?_) (fun c_281 => ?_)
                                · exact absurd c_281 (Int32.not_lt.mpr (by rw [← nI_one]; exact nI_le (hD k hx_k).1 (by have := (hD k hx_k).2; omega)))
                                · skip
                                  refine z_aload_n 9 dL_wovenRows_284 rfl rfl ?_
                                  refine z_iload 8 dL_wovenRows_285 rfl ?_
                                  refine z_iconst (v := 4) dL_wovenRows_287 (by decide) ?_
                                  refine z_callSH (N := mL_rows) 3 [.ref 0, .int (nI k), .int 4] [] lHL_rows ⟨zw_834, zw_835⟩ rfl rfl (Nat.le_of_ble_eq_true rfl) (by decide) ⟨hlen, hlen⟩ hG ⟨Nat.zero_le _, Nat.zero_le _⟩ (r4 k (by omega)) dL_wovenRows_288 ?_
                                  refine z_iload_n 10 dL_wovenRows_291 rfl rfl ?_
                                  refine z_icmp_gt (tgt := 299) dL_wovenRows_292 (by decide) (fun c_292 => ?_) (fun c_292 => ?_)
                                  · exact absurd c_292 (nI_nlt (hD k hx_k).2 (by omega))
                                  · skip
                                    refine z_iconst (v := 1) dL_wovenRows_295 (by decide) ?_
                                    refine z_goto (tgt := 300) dL_wovenRows_296 (by decide) ?_
                                    refine z_istore (lv' := [(7, .int 1), (4, .int (nI (zMx N (k + 1)))), (5, .int (nI (zSN N (k + 1)))), (3, .int (nI (zSN F (k + 1)))), (2, .int (nI (zSN own (k + 1)))), (6, .int (pFs own (k + 1))), (11, .int (nI j)), (9, .int (nI (own k))), (10, .int (nI (N k))), (8, .int (nI k)), (0, .ref 0), (1, .int (nI c))]) dL_wovenRows_300 (by decide) rfl ?_
                                    refine z_iinc (v := nI (k + 1)) (lv' := [(8, .int (nI (k + 1))), (7, .int 1), (4, .int (nI (zMx N (k + 1)))), (5, .int (nI (zSN N (k + 1)))), (3, .int (nI (zSN F (k + 1)))), (2, .int (nI (zSN own (k + 1)))), (6, .int (pFs own (k + 1))), (11, .int (nI j)), (9, .int (nI (own k))), (10, .int (nI (N k))), (0, .ref 0), (1, .int (nI c))]) 9 dL_wovenRows_302 rfl (nI_1 k) (by decide) rfl ?_
                                    refine z_goto (tgt := 25) dL_wovenRows_305 (by decide) ?_
                                    refine z_sub [0, 10, 11, 5, 4, 2, 3, 6, 1] (lv' := [(8, .int (nI (k + 1))), (0, .ref 0), (1, .int (nI c)), (2, .int (nI (zSN own (k + 1)))), (3, .int (nI (zSN F (k + 1)))), (4, .int (nI (zMx N (k + 1)))), (5, .int (nI (zSN N (k + 1)))), (6, .int (pFs own (k + 1))), (7, .int 1)]) rfl ?_
                                    refine z_eqs (lv2 := [(8, .int (nI (k + 1))), (0, .ref 0), (1, .int (nI c)), (2, .int (nI (zSN own (k + 1)))), (3, .int (nI (zSN F (k + 1)))), (4, .int (nI (zMx N (k + 1)))), (5, .int (nI (zSN N (k + 1)))), (6, .int (pFs own (k + 1))), (7, .int 1)]) (h2 := H) (by rfl) (by rfl) ?_
                                    exact ih25 (k + 1) (by omega) (by omega)
                            · skip
                              refine z_aload_n 9 dL_wovenRows_247 rfl rfl ?_
                              refine z_iload 8 dL_wovenRows_248 rfl ?_
                              refine z_iconst (v := 1) dL_wovenRows_250 (by decide) ?_
                              refine z_callSH (N := mL_rows) 3 [.ref 0, .int (nI k), .int 1] [] lHL_rows ⟨zw_834, zw_835⟩ rfl rfl (Nat.le_of_ble_eq_true rfl) (by decide) ⟨hlen, hlen⟩ hG ⟨Nat.zero_le _, Nat.zero_le _⟩ (r1 k (by omega)) dL_wovenRows_251 ?_
                              refine z_iload 7 dL_wovenRows_254 rfl ?_
                              refine z_icmp_ne (tgt := 299) dL_wovenRows_256 (by decide) (fun c_256 => ?_) (fun c_256 => ?_)
                              · exfalso; have z0 := m_z_gt_f (by omega) c_244; exact c_256 (by rw [z0, hF0 (by omega)])
                              · skip
                                refine z_aload_n 9 dL_wovenRows_259 rfl rfl ?_
                                refine z_iload 8 dL_wovenRows_260 rfl ?_
                                refine z_iconst (v := 3) dL_wovenRows_262 (by decide) ?_
                                refine z_callSH (N := mL_rows) 3 [.ref 0, .int (nI k), .int 3] [] lHL_rows ⟨zw_834, zw_835⟩ rfl rfl (Nat.le_of_ble_eq_true rfl) (by decide) ⟨hlen, hlen⟩ hG ⟨Nat.zero_le _, Nat.zero_le _⟩ (r3 k (by omega)) dL_wovenRows_263 ?_
                                refine z_iload_n 10 dL_wovenRows_266 rfl rfl ?_
                                refine z_iload 7 dL_wovenRows_267 rfl ?_
                                refine z_iadd dL_wovenRows_269 ?_
                                refine z_icmp_ne (tgt := 299) dL_wovenRows_270 (by decide) (fun c_270 => ?_) (fun c_270 => ?_)
                                · exact absurd c_270 (fun q => q rfl)
                                · skip
                                  refine z_aload_n 9 dL_wovenRows_273 rfl rfl ?_
                                  refine z_iload 8 dL_wovenRows_274 rfl ?_
                                  refine z_iconst (v := 4) dL_wovenRows_276 (by decide) ?_
                                  refine z_callSH (N := mL_rows) 3 [.ref 0, .int (nI k), .int 4] [] lHL_rows ⟨zw_834, zw_835⟩ rfl rfl (Nat.le_of_ble_eq_true rfl) (by decide) ⟨hlen, hlen⟩ hG ⟨Nat.zero_le _, Nat.zero_le _⟩ (r4 k (by omega)) dL_wovenRows_277 ?_
                                  refine z_iconst (v := 1) dL_wovenRows_280 (by decide) ?_
                                  refine z_icmp_lt (tgt := 299) dL_wovenRows_281 (by decide) (fun c_281 => ?_) (fun c_281 => ?_)
                                  · exact absurd c_281 (Int32.not_lt.mpr (by rw [← nI_one]; exact nI_le (hD k hx_k).1 (by have := (hD k hx_k).2; omega)))
                                  · skip
                                    refine z_aload_n 9 dL_wovenRows_284 rfl rfl ?_
                                    refine z_iload 8 dL_wovenRows_285 rfl ?_
                                    refine z_iconst (v := 4) dL_wovenRows_287 (by decide) ?_
                                    refine z_callSH (N := mL_rows) 3 [.ref 0, .int (nI k), .int 4] [] lHL_rows ⟨zw_834, zw_835⟩ rfl rfl (Nat.le_of_ble_eq_true rfl) (by decide) ⟨hlen, hlen⟩ hG ⟨Nat.zero_le _, Nat.zero_le _⟩ (r4 k (by omega)) dL_wovenRows_288 ?_
                                    refine z_iload_n 10 dL_wovenRows_291 rfl rfl ?_
                                    refine z_icmp_gt (tgt := 299) dL_wovenRows_292 (by decide) (fun c_292 => ?_) (fun c_292 => ?_)
                                    · exact absurd c_292 (nI_nlt (hD k hx_k).2 (by omega))
                                    · skip
                                      refine z_iconst (v := 1) dL_wovenRows_295 (by decide) ?_
                                      refine z_goto (tgt := 300) dL_wovenRows_296 (by decide) ?_
                                      refine z_istore (lv' := [(7, .int 1), (4, .int (nI (zMx N (k + 1)))), (5, .int (nI (zSN N (k + 1)))), (3, .int (nI (zSN F (k + 1)))), (2, .int (nI (zSN own (k + 1)))), (6, .int (pFs own (k + 1))), (11, .int (nI j)), (9, .int (nI (own k))), (10, .int (nI (N k))), (8, .int (nI k)), (0, .ref 0), (1, .int (nI c))]) dL_wovenRows_300 (by decide) rfl ?_
                                      refine z_iinc (v := nI (k + 1)) (lv' := [(8, .int (nI (k + 1))), (7, .int 1), (4, .int (nI (zMx N (k + 1)))), (5, .int (nI (zSN N (k + 1)))), (3, .int (nI (zSN F (k + 1)))), (2, .int (nI (zSN own (k + 1)))), (6, .int (pFs own (k + 1))), (11, .int (nI j)), (9, .int (nI (own k))), (10, .int (nI (N k))), (0, .ref 0), (1, .int (nI c))]) 9 dL_wovenRows_302 rfl (nI_1 k) (by decide) rfl ?_
                                      refine z_goto (tgt := 25) dL_wovenRows_305 (by decide) ?_
                                      refine z_sub [0, 10, 11, 5, 4, 2, 3, 6, 1] (lv' := [(8, .int (nI (k + 1))), (0, .ref 0), (1, .int (nI c)), (2, .int (nI (zSN own (k + 1)))), (3, .int (nI (zSN F (k + 1)))), (4, .int (nI (zMx N (k + 1)))), (5, .int (nI (zSN N (k + 1)))), (6, .int (pFs own (k + 1))), (7, .int 1)]) rfl ?_
                                      refine z_eqs (lv2 := [(8, .int (nI (k + 1))), (0, .ref 0), (1, .int (nI c)), (2, .int (nI (zSN own (k + 1)))), (3, .int (nI (zSN F (k + 1)))), (4, .int (nI (zMx N (k + 1)))), (5, .int (nI (zSN N (k + 1)))), (6, .int (pFs own (k + 1))), (7, .int 1)]) (h2 := H) (by rfl) (by rfl) ?_
                                      exact ih25 (k + 1) (by omega) (by omega)
                    · skip
                      refine z_iload 6 dL_wovenRows_204 rfl ?_
                      refine z_goto (tgt := 211) dL_wovenRows_206 (by decide) ?_
                      refine z_top (v2 := .int (nI (zMx N (k + 1)))) (by first | rw [zMx, Nat.max_eq_left (m_le (by have := hN k; omega) (by have := hMx k; omega) c_201)] | rw [zMx, Nat.max_eq_right (Nat.le_of_lt (m_nle (by have := hN k; omega) (by have := hMx k; omega) c_201))]) ?_
                      refine z_istore (lv' := [(4, .int (nI (zMx N (k + 1)))), (5, .int (nI (zSN N (k + 1)))), (3, .int (nI (zSN F (k + 1)))), (2, .int (nI (zSN own (k + 1)))), (6, .int (pFs own (k + 1))), (11, .int (nI j)), (9, .int (nI (own k))), (10, .int (nI (N k))), (8, .int (nI k)), (0, .ref 0), (1, .int (nI c)), (7, .int 1)]) dL_wovenRows_211 (by decide) rfl ?_
                      refine z_iload 11 dL_wovenRows_213 rfl ?_
                      refine z_if_eq (tgt := 299) dL_wovenRows_215 (by decide) (fun c_215 => ?_) (fun c_215 => ?_)
                      · exact absurd c_215 (by decide)
                      · skip
                        refine z_aload_n 9 dL_wovenRows_218 rfl rfl ?_
                        refine z_iload 8 dL_wovenRows_219 rfl ?_
                        refine z_iconst (v := 2) dL_wovenRows_221 (by decide) ?_
                        refine z_callSH (N := mL_rows) 3 [.ref 0, .int (nI k), .int 2] [] lHL_rows ⟨zw_834, zw_835⟩ rfl rfl (Nat.le_of_ble_eq_true rfl) (by decide) ⟨hlen, hlen⟩ hG ⟨Nat.zero_le _, Nat.zero_le _⟩ (r2 k (by omega)) dL_wovenRows_222 ?_
                        refine z_iload 6 dL_wovenRows_225 rfl ?_
                        refine z_icmp_ne (tgt := 299) dL_wovenRows_227 (by decide) (fun c_227 => ?_) (fun c_227 => ?_)
                        · exact absurd c_227 (fun q => q rfl)
                        · skip
                          refine z_aload_n 9 dL_wovenRows_230 rfl rfl ?_
                          refine z_iload 8 dL_wovenRows_231 rfl ?_
                          refine z_iconst (v := 1) dL_wovenRows_233 (by decide) ?_
                          refine z_callSH (N := mL_rows) 3 [.ref 0, .int (nI k), .int 1] [] lHL_rows ⟨zw_834, zw_835⟩ rfl rfl (Nat.le_of_ble_eq_true rfl) (by decide) ⟨hlen, hlen⟩ hG ⟨Nat.zero_le _, Nat.zero_le _⟩ (r1 k (by omega)) dL_wovenRows_234 ?_
                          refine z_iload 7 dL_wovenRows_237 rfl ?_
                          refine z_icmp_gt (tgt := 299) dL_wovenRows_239 (by decide) (fun c_239 => ?_) (fun c_239 => ?_)
                          · exact absurd c_239 (nI_nlt (hF k) (by have := hN k; omega))
                          · skip
                            refine z_iload 8 dL_wovenRows_242 rfl ?_
                            refine z_if_gt (tgt := 259) dL_wovenRows_244 (by decide) (fun c_244 => ?_) (fun c_244 => ?_)
                            · skip
                              refine z_aload_n 9 dL_wovenRows_259 rfl rfl ?_
                              refine z_iload 8 dL_wovenRows_260 rfl ?_
                              refine z_iconst (v := 3) dL_wovenRows_262 (by decide) ?_
                              refine z_callSH (N := mL_rows) 3 [.ref 0, .int (nI k), .int 3] [] lHL_rows ⟨zw_834, zw_835⟩ rfl rfl (Nat.le_of_ble_eq_true rfl) (by decide) ⟨hlen, hlen⟩ hG ⟨Nat.zero_le _, Nat.zero_le _⟩ (r3 k (by omega)) dL_wovenRows_263 ?_
                              refine z_iload_n 10 dL_wovenRows_266 rfl rfl ?_
                              refine z_iload 7 dL_wovenRows_267 rfl ?_
                              refine z_iadd dL_wovenRows_269 ?_
                              refine z_icmp_ne (tgt := 299) dL_wovenRows_270 (by decide) (fun c_270 => ?_) (fun c_270 => ?_)
                              · exact absurd c_270 (fun q => q rfl)
                              · skip
                                refine z_aload_n 9 dL_wovenRows_273 rfl rfl ?_
                                refine z_iload 8 dL_wovenRows_274 rfl ?_
                                refine z_iconst (v := 4) dL_wovenRows_276 (by decide) ?_
                                refine z_callSH (N := mL_rows) 3 [.ref 0, .int (nI k), .int 4] [] lHL_rows ⟨zw_834, zw_835⟩ rfl rfl (Nat.le_of_ble_eq_true rfl) (by decide) ⟨hlen, hlen⟩ hG ⟨Nat.zero_le _, Nat.zero_le _⟩ (r4 k (by omega)) dL_wovenRows_277 ?_
                                refine z_iconst (v := 1) dL_wovenRows_280 (by decide) ?_
                                refine z_icmp_lt (tgt := 299) dL_wovenRows_281 (by decide) (fun c_281 => ?_) (fun c_281 => ?_)
                                · exact absurd c_281 (Int32.not_lt.mpr (by rw [← nI_one]; exact nI_le (hD k hx_k).1 (by have := (hD k hx_k).2; omega)))
                                · skip
                                  refine z_aload_n 9 dL_wovenRows_284 rfl rfl ?_
                                  refine z_iload 8 dL_wovenRows_285 rfl ?_
                                  refine z_iconst (v := 4) dL_wovenRows_287 (by decide) ?_
                                  refine z_callSH (N := mL_rows) 3 [.ref 0, .int (nI k), .int 4] [] lHL_rows ⟨zw_834, zw_835⟩ rfl rfl (Nat.le_of_ble_eq_true rfl) (by decide) ⟨hlen, hlen⟩ hG ⟨Nat.zero_le _, Nat.zero_le _⟩ (r4 k (by omega)) dL_wovenRows_288 ?_
                                  refine z_iload_n 10 dL_wovenRows_291 rfl rfl ?_
                                  refine z_icmp_gt (tgt := 299) dL_wovenRows_292 (by decide) (fun c_292 => ?_) (fun c_292 => ?_)
                                  · exact absurd c_292 (nI_nlt (hD k hx_k).2 (by omega))
                                  · skip
                                    refine z_iconst (v := 1) dL_wovenRows_295 (by decide) ?_
                                    refine z_goto (tgt := 300) dL_wovenRows_296 (by decide) ?_
                                    refine z_istore (lv' := [(7, .int 1), (4, .int (nI (zMx N (k + 1)))), (5, .int (nI (zSN N (k + 1)))), (3, .int (nI (zSN F (k + 1)))), (2, .int (nI (zSN own (k + 1)))), (6, .int (pFs own (k + 1))), (11, .int (nI j)), (9, .int (nI (own k))), (10, .int (nI (N k))), (8, .int (nI k)), (0, .ref 0), (1, .int (nI c))]) dL_wovenRows_300 (by decide) rfl ?_
                                    refine z_iinc (v := nI (k + 1)) (lv' := [(8, .int (nI (k + 1))), (7, .int 1), (4, .int (nI (zMx N (k + 1)))), (5, .int (nI (zSN N (k + 1)))), (3, .int (nI (zSN F (k + 1)))), (2, .int (nI (zSN own (k + 1)))), (6, .int (pFs own (k + 1))), (11, .int (nI j)), (9, .int (nI (own k))), (10, .int (nI (N k))), (0, .ref 0), (1, .int (nI c))]) 9 dL_wovenRows_302 rfl (nI_1 k) (by decide) rfl ?_
                                    refine z_goto (tgt := 25) dL_wovenRows_305 (by decide) ?_
                                    refine z_sub [0, 10, 11, 5, 4, 2, 3, 6, 1] (lv' := [(8, .int (nI (k + 1))), (0, .ref 0), (1, .int (nI c)), (2, .int (nI (zSN own (k + 1)))), (3, .int (nI (zSN F (k + 1)))), (4, .int (nI (zMx N (k + 1)))), (5, .int (nI (zSN N (k + 1)))), (6, .int (pFs own (k + 1))), (7, .int 1)]) rfl ?_
                                    refine z_eqs (lv2 := [(8, .int (nI (k + 1))), (0, .ref 0), (1, .int (nI c)), (2, .int (nI (zSN own (k + 1)))), (3, .int (nI (zSN F (k + 1)))), (4, .int (nI (zMx N (k + 1)))), (5, .int (nI (zSN N (k + 1)))), (6, .int (pFs own (k + 1))), (7, .int 1)]) (h2 := H) (by rfl) (by rfl) ?_
                                    exact ih25 (k + 1) (by omega) (by omega)
                            · skip
                              refine z_aload_n 9 dL_wovenRows_247 rfl rfl ?_
                              refine z_iload 8 dL_wovenRows_248 rfl ?_
                              refine z_iconst (v := 1) dL_wovenRows_250 (by decide) ?_
                              refine z_callSH (N := mL_rows) 3 [.ref 0, .int (nI k), .int 1] [] lHL_rows ⟨zw_834, zw_835⟩ rfl rfl (Nat.le_of_ble_eq_true rfl) (by decide) ⟨hlen, hlen⟩ hG ⟨Nat.zero_le _, Nat.zero_le _⟩ (r1 k (by omega)) dL_wovenRows_251 ?_
                              refine z_iload 7 dL_wovenRows_254 rfl ?_
                              refine z_icmp_ne (tgt := 299) dL_wovenRows_256 (by decide) (fun c_256 => ?_) (fun c_256 => ?_)
                              · exfalso; have z0 := m_z_gt_f (by omega) c_244; exact c_256 (by rw [z0, hF0 (by omega)])
                              · skip
                                refine z_aload_n 9 dL_wovenRows_259 rfl rfl ?_
                                refine z_iload 8 dL_wovenRows_260 rfl ?_
                                refine z_iconst (v := 3) dL_wovenRows_262 (by decide) ?_
                                refine z_callSH (N := mL_rows) 3 [.ref 0, .int (nI k), .int 3] [] lHL_rows ⟨zw_834, zw_835⟩ rfl rfl (Nat.le_of_ble_eq_true rfl) (by decide) ⟨hlen, hlen⟩ hG ⟨Nat.zero_le _, Nat.zero_le _⟩ (r3 k (by omega)) dL_wovenRows_263 ?_
                                refine z_iload_n 10 dL_wovenRows_266 rfl rfl ?_
                                refine z_iload 7 dL_wovenRows_267 rfl ?_
                                refine z_iadd dL_wovenRows_269 ?_
                                refine z_icmp_ne (tgt := 299) dL_wovenRows_270 (by decide) (fun c_270 => ?_) (fun c_270 => ?_)
                                · exact absurd c_270 (fun q => q rfl)
                                · skip
                                  refine z_aload_n 9 dL_wovenRows_273 rfl rfl ?_
                                  refine z_iload 8 dL_wovenRows_274 rfl ?_
                                  refine z_iconst (v := 4) dL_wovenRows_276 (by decide) ?_
                                  refine z_callSH (N := mL_rows) 3 [.ref 0, .int (nI k), .int 4] [] lHL_rows ⟨zw_834, zw_835⟩ rfl rfl (Nat.le_of_ble_eq_true rfl) (by decide) ⟨hlen, hlen⟩ hG ⟨Nat.zero_le _, Nat.zero_le _⟩ (r4 k (by omega)) dL_wovenRows_277 ?_
                                  refine z_iconst (v := 1) dL_wovenRows_280 (by decide) ?_
                                  refine z_icmp_lt (tgt := 299) dL_wovenRows_281 (by decide) (fun c_281 => ?_) (fun c_281 => ?_)
                                  · exact absurd c_281 (Int32.not_lt.mpr (by rw [← nI_one]; exact nI_le (hD k hx_k).1 (by have := (hD k hx_k).2; omega)))
                                  · skip
                                    refine z_aload_n 9 dL_wovenRows_284 rfl rfl ?_
                                    refine z_iload 8 dL_wovenRows_285 rfl ?_
                                    refine z_iconst (v := 4) dL_wovenRows_287 (by decide) ?_
                                    refine z_callSH (N := mL_rows) 3 [.ref 0, .int (nI k), .int 4] [] lHL_rows ⟨zw_834, zw_835⟩ rfl rfl (Nat.le_of_ble_eq_true rfl) (by decide) ⟨hlen, hlen⟩ hG ⟨Nat.zero_le _, Nat.zero_le _⟩ (r4 k (by omega)) dL_wovenRows_288 ?_
                                    refine z_iload_n 10 dL_wovenRows_291 rfl rfl ?_
                                    refine z_icmp_gt (tgt := 299) dL_wovenRows_292 (by decide) (fun c_292 => ?_) (fun c_292 => ?_)
                                    · exact absurd c_292 (nI_nlt (hD k hx_k).2 (by omega))
                                    · skip
                                      refine z_iconst (v := 1) dL_wovenRows_295 (by decide) ?_
                                      refine z_goto (tgt := 300) dL_wovenRows_296 (by decide) ?_
                                      refine z_istore (lv' := [(7, .int 1), (4, .int (nI (zMx N (k + 1)))), (5, .int (nI (zSN N (k + 1)))), (3, .int (nI (zSN F (k + 1)))), (2, .int (nI (zSN own (k + 1)))), (6, .int (pFs own (k + 1))), (11, .int (nI j)), (9, .int (nI (own k))), (10, .int (nI (N k))), (8, .int (nI k)), (0, .ref 0), (1, .int (nI c))]) dL_wovenRows_300 (by decide) rfl ?_
                                      refine z_iinc (v := nI (k + 1)) (lv' := [(8, .int (nI (k + 1))), (7, .int 1), (4, .int (nI (zMx N (k + 1)))), (5, .int (nI (zSN N (k + 1)))), (3, .int (nI (zSN F (k + 1)))), (2, .int (nI (zSN own (k + 1)))), (6, .int (pFs own (k + 1))), (11, .int (nI j)), (9, .int (nI (own k))), (10, .int (nI (N k))), (0, .ref 0), (1, .int (nI c))]) 9 dL_wovenRows_302 rfl (nI_1 k) (by decide) rfl ?_
                                      refine z_goto (tgt := 25) dL_wovenRows_305 (by decide) ?_
                                      refine z_sub [0, 10, 11, 5, 4, 2, 3, 6, 1] (lv' := [(8, .int (nI (k + 1))), (0, .ref 0), (1, .int (nI c)), (2, .int (nI (zSN own (k + 1)))), (3, .int (nI (zSN F (k + 1)))), (4, .int (nI (zMx N (k + 1)))), (5, .int (nI (zSN N (k + 1)))), (6, .int (pFs own (k + 1))), (7, .int 1)]) rfl ?_
                                      refine z_eqs (lv2 := [(8, .int (nI (k + 1))), (0, .ref 0), (1, .int (nI c)), (2, .int (nI (zSN own (k + 1)))), (3, .int (nI (zSN F (k + 1)))), (4, .int (nI (zMx N (k + 1)))), (5, .int (nI (zSN N (k + 1)))), (6, .int (pFs own (k + 1))), (7, .int 1)]) (h2 := H) (by rfl) (by rfl) ?_
                                      exact ih25 (k + 1) (by omega) (by omega)
                  · skip
                    refine z_iload 3 dL_wovenRows_166 rfl ?_
                    refine z_goto (tgt := 173) dL_wovenRows_168 (by decide) ?_
                    refine z_top (v2 := .int (pFs own (k + 1))) (by first | exact pFs_a c_158 | exact pFs_b (hos k) c_163 | exact pFs_c (hos k) c_158 c_163) ?_
                    refine z_istore (lv' := [(6, .int (pFs own (k + 1))), (11, .int (nI j)), (9, .int (nI (own k))), (10, .int (nI (N k))), (8, .int (nI k)), (0, .ref 0), (1, .int (nI c)), (2, .int (nI (zSN own k))), (3, .int (nI (zSN F k))), (4, .int (nI (zMx N k))), (5, .int (nI (zSN N k))), (7, .int 1)]) dL_wovenRows_173 (by decide) rfl ?_
                    refine z_iload_n 7 dL_wovenRows_175 rfl rfl ?_
                    refine z_iload 2 dL_wovenRows_176 rfl ?_
                    refine z_iadd dL_wovenRows_178 ?_
                    refine z_top (v2 := .int (nI (zSN own (k + 1)))) (by rw [zSN_s]) ?_
                    refine z_istore_n (lv' := [(2, .int (nI (zSN own (k + 1)))), (6, .int (pFs own (k + 1))), (11, .int (nI j)), (9, .int (nI (own k))), (10, .int (nI (N k))), (8, .int (nI k)), (0, .ref 0), (1, .int (nI c)), (3, .int (nI (zSN F k))), (4, .int (nI (zMx N k))), (5, .int (nI (zSN N k))), (7, .int 1)]) dL_wovenRows_179 rfl (by decide) rfl ?_
                    refine z_iload_n 8 dL_wovenRows_180 rfl rfl ?_
                    refine z_aload_n 6 dL_wovenRows_181 rfl rfl ?_
                    refine z_iload 5 dL_wovenRows_182 rfl ?_
                    refine z_iconst (v := 1) dL_wovenRows_184 (by decide) ?_
                    refine z_callSH (N := mL_rows) 3 [.ref 0, .int (nI k), .int 1] [.int (nI (zSN F k))] lHL_rows ⟨zw_834, zw_835⟩ rfl rfl (Nat.le_of_ble_eq_true rfl) (by decide) ⟨hlen, hlen⟩ hG ⟨Nat.zero_le _, Nat.zero_le _⟩ (r1 k (by omega)) dL_wovenRows_185 ?_
                    refine z_iadd dL_wovenRows_188 ?_
                    refine z_top (v2 := .int (nI (zSN F (k + 1)))) (by rw [zSN_s]) ?_
                    refine z_istore_n (lv' := [(3, .int (nI (zSN F (k + 1)))), (2, .int (nI (zSN own (k + 1)))), (6, .int (pFs own (k + 1))), (11, .int (nI j)), (9, .int (nI (own k))), (10, .int (nI (N k))), (8, .int (nI k)), (0, .ref 0), (1, .int (nI c)), (4, .int (nI (zMx N k))), (5, .int (nI (zSN N k))), (7, .int 1)]) dL_wovenRows_189 rfl (by decide) rfl ?_
                    refine z_iload 10 dL_wovenRows_190 rfl ?_
                    refine z_iload 5 dL_wovenRows_192 rfl ?_
                    refine z_iadd dL_wovenRows_194 ?_
                    refine z_top (v2 := .int (nI (zSN N (k + 1)))) (by rw [zSN_s]) ?_
                    refine z_istore (lv' := [(5, .int (nI (zSN N (k + 1)))), (3, .int (nI (zSN F (k + 1)))), (2, .int (nI (zSN own (k + 1)))), (6, .int (pFs own (k + 1))), (11, .int (nI j)), (9, .int (nI (own k))), (10, .int (nI (N k))), (8, .int (nI k)), (0, .ref 0), (1, .int (nI c)), (4, .int (nI (zMx N k))), (7, .int 1)]) dL_wovenRows_195 (by decide) rfl ?_
                    refine z_iload 6 dL_wovenRows_197 rfl ?_
                    refine z_iload 10 dL_wovenRows_199 rfl ?_
                    refine z_icmp_le (tgt := 209) dL_wovenRows_201 (by decide) (fun c_201 => ?_) (fun c_201 => ?_)
                    · skip
                      refine z_iload 10 dL_wovenRows_209 rfl ?_
                      refine z_top (v2 := .int (nI (zMx N (k + 1)))) (by first | rw [zMx, Nat.max_eq_left (m_le (by have := hN k; omega) (by have := hMx k; omega) c_201)] | rw [zMx, Nat.max_eq_right (Nat.le_of_lt (m_nle (by have := hN k; omega) (by have := hMx k; omega) c_201))]) ?_
                      refine z_istore (lv' := [(4, .int (nI (zMx N (k + 1)))), (5, .int (nI (zSN N (k + 1)))), (3, .int (nI (zSN F (k + 1)))), (2, .int (nI (zSN own (k + 1)))), (6, .int (pFs own (k + 1))), (11, .int (nI j)), (9, .int (nI (own k))), (10, .int (nI (N k))), (8, .int (nI k)), (0, .ref 0), (1, .int (nI c)), (7, .int 1)]) dL_wovenRows_211 (by decide) rfl ?_
                      refine z_iload 11 dL_wovenRows_213 rfl ?_
                      refine z_if_eq (tgt := 299) dL_wovenRows_215 (by decide) (fun c_215 => ?_) (fun c_215 => ?_)
                      · exact absurd c_215 (by decide)
                      · skip
                        refine z_aload_n 9 dL_wovenRows_218 rfl rfl ?_
                        refine z_iload 8 dL_wovenRows_219 rfl ?_
                        refine z_iconst (v := 2) dL_wovenRows_221 (by decide) ?_
                        refine z_callSH (N := mL_rows) 3 [.ref 0, .int (nI k), .int 2] [] lHL_rows ⟨zw_834, zw_835⟩ rfl rfl (Nat.le_of_ble_eq_true rfl) (by decide) ⟨hlen, hlen⟩ hG ⟨Nat.zero_le _, Nat.zero_le _⟩ (r2 k (by omega)) dL_wovenRows_222 ?_
                        refine z_iload 6 dL_wovenRows_225 rfl ?_
                        refine z_icmp_ne (tgt := 299) dL_wovenRows_227 (by decide) (fun c_227 => ?_) (fun c_227 => ?_)
                        · exact absurd c_227 (fun q => q rfl)
                        · skip
                          refine z_aload_n 9 dL_wovenRows_230 rfl rfl ?_
                          refine z_iload 8 dL_wovenRows_231 rfl ?_
                          refine z_iconst (v := 1) dL_wovenRows_233 (by decide) ?_
                          refine z_callSH (N := mL_rows) 3 [.ref 0, .int (nI k), .int 1] [] lHL_rows ⟨zw_834, zw_835⟩ rfl rfl (Nat.le_of_ble_eq_true rfl) (by decide) ⟨hlen, hlen⟩ hG ⟨Nat.zero_le _, Nat.zero_le _⟩ (r1 k (by omega)) dL_wovenRows_234 ?_
                          refine z_iload 7 dL_wovenRows_237 rfl ?_
                          refine z_icmp_gt (tgt := 299) dL_wovenRows_239 (by decide) (fun c_239 => ?_) (fun c_239 => ?_)
                          · exact absurd c_239 (nI_nlt (hF k) (by have := hN k; omega))
                          · skip
                            refine z_iload 8 dL_wovenRows_242 rfl ?_
                            refine z_if_gt (tgt := 259) dL_wovenRows_244 (by decide) (fun c_244 => ?_) (fun c_244 => ?_)
                            · skip
                              refine z_aload_n 9 dL_wovenRows_259 rfl rfl ?_
                              refine z_iload 8 dL_wovenRows_260 rfl ?_
                              refine z_iconst (v := 3) dL_wovenRows_262 (by decide) ?_
                              refine z_callSH (N := mL_rows) 3 [.ref 0, .int (nI k), .int 3] [] lHL_rows ⟨zw_834, zw_835⟩ rfl rfl (Nat.le_of_ble_eq_true rfl) (by decide) ⟨hlen, hlen⟩ hG ⟨Nat.zero_le _, Nat.zero_le _⟩ (r3 k (by omega)) dL_wovenRows_263 ?_
                              refine z_iload_n 10 dL_wovenRows_266 rfl rfl ?_
                              refine z_iload 7 dL_wovenRows_267 rfl ?_
                              refine z_iadd dL_wovenRows_269 ?_
                              refine z_icmp_ne (tgt := 299) dL_wovenRows_270 (by decide) (fun c_270 => ?_) (fun c_270 => ?_)
                              · exact absurd c_270 (fun q => q rfl)
                              · skip
                                refine z_aload_n 9 dL_wovenRows_273 rfl rfl ?_
                                refine z_iload 8 dL_wovenRows_274 rfl ?_
                                refine z_iconst (v := 4) dL_wovenRows_276 (by decide) ?_
                                refine z_callSH (N := mL_rows) 3 [.ref 0, .int (nI k), .int 4] [] lHL_rows ⟨zw_834, zw_835⟩ rfl rfl (Nat.le_of_ble_eq_true rfl) (by decide) ⟨hlen, hlen⟩ hG ⟨Nat.zero_le _, Nat.zero_le _⟩ (r4 k (by omega)) dL_wovenRows_277 ?_
                                refine z_iconst (v := 1) dL_wovenRows_280 (by decide) ?_
                                refine z_icmp_lt (tgt := 299) dL_wovenRows_281 (by decide) (fun c_281 => ?_) (fun c_281 => ?_)
                                · exact absurd c_281 (Int32.not_lt.mpr (by rw [← nI_one]; exact nI_le (hD k hx_k).1 (by have := (hD k hx_k).2; omega)))
                                · skip
                                  refine z_aload_n 9 dL_wovenRows_284 rfl rfl ?_
                                  refine z_iload 8 dL_wovenRows_285 rfl ?_
                                  refine z_iconst (v := 4) dL_wovenRows_287 (by decide) ?_
                                  refine z_callSH (N := mL_rows) 3 [.ref 0, .int (nI k), .int 4] [] lHL_rows ⟨zw_834, zw_835⟩ rfl rfl (Nat.le_of_ble_eq_true rfl) (by decide) ⟨hlen, hlen⟩ hG ⟨Nat.zero_le _, Nat.zero_le _⟩ (r4 k (by omega)) dL_wovenRows_288 ?_
                                  refine z_iload_n 10 dL_wovenRows_291 rfl rfl ?_
                                  refine z_icmp_gt (tgt := 299) dL_wovenRows_292 (by decide) (fun c_292 => ?_) (fun c_292 => ?_)
                                  · exact absurd c_292 (nI_nlt (hD k hx_k).2 (by omega))
                                  · skip
                                    refine z_iconst (v := 1) dL_wovenRows_295 (by decide) ?_
                                    refine z_goto (tgt := 300) dL_wovenRows_296 (by decide) ?_
                                    refine z_istore (lv' := [(7, .int 1), (4, .int (nI (zMx N (k + 1)))), (5, .int (nI (zSN N (k + 1)))), (3, .int (nI (zSN F (k + 1)))), (2, .int (nI (zSN own (k + 1)))), (6, .int (pFs own (k + 1))), (11, .int (nI j)), (9, .int (nI (own k))), (10, .int (nI (N k))), (8, .int (nI k)), (0, .ref 0), (1, .int (nI c))]) dL_wovenRows_300 (by decide) rfl ?_
                                    refine z_iinc (v := nI (k + 1)) (lv' := [(8, .int (nI (k + 1))), (7, .int 1), (4, .int (nI (zMx N (k + 1)))), (5, .int (nI (zSN N (k + 1)))), (3, .int (nI (zSN F (k + 1)))), (2, .int (nI (zSN own (k + 1)))), (6, .int (pFs own (k + 1))), (11, .int (nI j)), (9, .int (nI (own k))), (10, .int (nI (N k))), (0, .ref 0), (1, .int (nI c))]) 9 dL_wovenRows_302 rfl (nI_1 k) (by decide) rfl ?_
                                    refine z_goto (tgt := 25) dL_wovenRows_305 (by decide) ?_
                                    refine z_sub [0, 10, 11, 5, 4, 2, 3, 6, 1] (lv' := [(8, .int (nI (k + 1))), (0, .ref 0), (1, .int (nI c)), (2, .int (nI (zSN own (k + 1)))), (3, .int (nI (zSN F (k + 1)))), (4, .int (nI (zMx N (k + 1)))), (5, .int (nI (zSN N (k + 1)))), (6, .int (pFs own (k + 1))), (7, .int 1)]) rfl ?_
                                    refine z_eqs (lv2 := [(8, .int (nI (k + 1))), (0, .ref 0), (1, .int (nI c)), (2, .int (nI (zSN own (k + 1)))), (3, .int (nI (zSN F (k + 1)))), (4, .int (nI (zMx N (k + 1)))), (5, .int (nI (zSN N (k + 1)))), (6, .int (pFs own (k + 1))), (7, .int 1)]) (h2 := H) (by rfl) (by rfl) ?_
                                    exact ih25 (k + 1) (by omega) (by omega)
                            · skip
                              refine z_aload_n 9 dL_wovenRows_247 rfl rfl ?_
                              refine z_iload 8 dL_wovenRows_248 rfl ?_
                              refine z_iconst (v := 1) dL_wovenRows_250 (by decide) ?_
                              refine z_callSH (N := mL_rows) 3 [.ref 0, .int (nI k), .int 1] [] lHL_rows ⟨zw_834, zw_835⟩ rfl rfl (Nat.le_of_ble_eq_true rfl) (by decide) ⟨hlen, hlen⟩ hG ⟨Nat.zero_le _, Nat.zero_le _⟩ (r1 k (by omega)) dL_wovenRows_251 ?_
                              refine z_iload 7 dL_wovenRows_254 rfl ?_
                              refine z_icmp_ne (tgt := 299) dL_wovenRows_256 (by decide) (fun c_256 => ?_) (fun c_256 => ?_)
                              · exfalso; have z0 := m_z_gt_f (by omega) c_244; exact c_256 (by rw [z0, hF0 (by omega)])
                              · skip
                                refine z_aload_n 9 dL_wovenRows_259 rfl rfl ?_
                                refine z_iload 8 dL_wovenRows_260 rfl ?_
                                refine z_iconst (v := 3) dL_wovenRows_262 (by decide) ?_
                                refine z_callSH (N := mL_rows) 3 [.ref 0, .int (nI k), .int 3] [] lHL_rows ⟨zw_834, zw_835⟩ rfl rfl (Nat.le_of_ble_eq_true rfl) (by decide) ⟨hlen, hlen⟩ hG ⟨Nat.zero_le _, Nat.zero_le _⟩ (r3 k (by omega)) dL_wovenRows_263 ?_
                                refine z_iload_n 10 dL_wovenRows_266 rfl rfl ?_
                                refine z_iload 7 dL_wovenRows_267 rfl ?_
                                refine z_iadd dL_wovenRows_269 ?_
                                refine z_icmp_ne (tgt := 299) dL_wovenRows_270 (by decide) (fun c_270 => ?_) (fun c_270 => ?_)
                                · exact absurd c_270 (fun q => q rfl)
                                · skip
                                  refine z_aload_n 9 dL_wovenRows_273 rfl rfl ?_
                                  refine z_iload 8 dL_wovenRows_274 rfl ?_
                                  refine z_iconst (v := 4) dL_wovenRows_276 (by decide) ?_
                                  refine z_callSH (N := mL_rows) 3 [.ref 0, .int (nI k), .int 4] [] lHL_rows ⟨zw_834, zw_835⟩ rfl rfl (Nat.le_of_ble_eq_true rfl) (by decide) ⟨hlen, hlen⟩ hG ⟨Nat.zero_le _, Nat.zero_le _⟩ (r4 k (by omega)) dL_wovenRows_277 ?_
                                  refine z_iconst (v := 1) dL_wovenRows_280 (by decide) ?_
                                  refine z_icmp_lt (tgt := 299) dL_wovenRows_281 (by decide) (fun c_281 => ?_) (fun c_281 => ?_)
                                  · exact absurd c_281 (Int32.not_lt.mpr (by rw [← nI_one]; exact nI_le (hD k hx_k).1 (by have := (hD k hx_k).2; omega)))
                                  · skip
                                    refine z_aload_n 9 dL_wovenRows_284 rfl rfl ?_
                                    refine z_iload 8 dL_wovenRows_285 rfl ?_
                                    refine z_iconst (v := 4) dL_wovenRows_287 (by decide) ?_
                                    refine z_callSH (N := mL_rows) 3 [.ref 0, .int (nI k), .int 4] [] lHL_rows ⟨zw_834, zw_835⟩ rfl rfl (Nat.le_of_ble_eq_true rfl) (by decide) ⟨hlen, hlen⟩ hG ⟨Nat.zero_le _, Nat.zero_le _⟩ (r4 k (by omega)) dL_wovenRows_288 ?_
                                    refine z_iload_n 10 dL_wovenRows_291 rfl rfl ?_
                                    refine z_icmp_gt (tgt := 299) dL_wovenRows_292 (by decide) (fun c_292 => ?_) (fun c_292 => ?_)
                                    · exact absurd c_292 (nI_nlt (hD k hx_k).2 (by omega))
                                    · skip
                                      refine z_iconst (v := 1) dL_wovenRows_295 (by decide) ?_
                                      refine z_goto (tgt := 300) dL_wovenRows_296 (by decide) ?_
                                      refine z_istore (lv' := [(7, .int 1), (4, .int (nI (zMx N (k + 1)))), (5, .int (nI (zSN N (k + 1)))), (3, .int (nI (zSN F (k + 1)))), (2, .int (nI (zSN own (k + 1)))), (6, .int (pFs own (k + 1))), (11, .int (nI j)), (9, .int (nI (own k))), (10, .int (nI (N k))), (8, .int (nI k)), (0, .ref 0), (1, .int (nI c))]) dL_wovenRows_300 (by decide) rfl ?_
                                      refine z_iinc (v := nI (k + 1)) (lv' := [(8, .int (nI (k + 1))), (7, .int 1), (4, .int (nI (zMx N (k + 1)))), (5, .int (nI (zSN N (k + 1)))), (3, .int (nI (zSN F (k + 1)))), (2, .int (nI (zSN own (k + 1)))), (6, .int (pFs own (k + 1))), (11, .int (nI j)), (9, .int (nI (own k))), (10, .int (nI (N k))), (0, .ref 0), (1, .int (nI c))]) 9 dL_wovenRows_302 rfl (nI_1 k) (by decide) rfl ?_
                                      refine z_goto (tgt := 25) dL_wovenRows_305 (by decide) ?_
                                      refine z_sub [0, 10, 11, 5, 4, 2, 3, 6, 1] (lv' := [(8, .int (nI (k + 1))), (0, .ref 0), (1, .int (nI c)), (2, .int (nI (zSN own (k + 1)))), (3, .int (nI (zSN F (k + 1)))), (4, .int (nI (zMx N (k + 1)))), (5, .int (nI (zSN N (k + 1)))), (6, .int (pFs own (k + 1))), (7, .int 1)]) rfl ?_
                                      refine z_eqs (lv2 := [(8, .int (nI (k + 1))), (0, .ref 0), (1, .int (nI c)), (2, .int (nI (zSN own (k + 1)))), (3, .int (nI (zSN F (k + 1)))), (4, .int (nI (zMx N (k + 1)))), (5, .int (nI (zSN N (k + 1)))), (6, .int (pFs own (k + 1))), (7, .int 1)]) (h2 := H) (by rfl) (by rfl) ?_
                                      exact ih25 (k + 1) (by omega) (by omega)
                    · skip
                      refine z_iload 6 dL_wovenRows_204 rfl ?_
                      refine z_goto (tgt := 211) dL_wovenRows_206 (by decide) ?_
                      refine z_top (v2 := .int (nI (zMx N (k + 1)))) (by first | rw [zMx, Nat.max_eq_left (m_le (by have := hN k; omega) (by have := hMx k; omega) c_201)] | rw [zMx, Nat.max_eq_right (Nat.le_of_lt (m_nle (by have := hN k; omega) (by have := hMx k; omega) c_201))]) ?_
                      refine z_istore (lv' := [(4, .int (nI (zMx N (k + 1)))), (5, .int (nI (zSN N (k + 1)))), (3, .int (nI (zSN F (k + 1)))), (2, .int (nI (zSN own (k + 1)))), (6, .int (pFs own (k + 1))), (11, .int (nI j)), (9, .int (nI (own k))), (10, .int (nI (N k))), (8, .int (nI k)), (0, .ref 0), (1, .int (nI c)), (7, .int 1)]) dL_wovenRows_211 (by decide) rfl ?_
                      refine z_iload 11 dL_wovenRows_213 rfl ?_
                      refine z_if_eq (tgt := 299) dL_wovenRows_215 (by decide) (fun c_215 => ?_) (fun c_215 => ?_)
                      · exact absurd c_215 (by decide)
                      · skip
                        refine z_aload_n 9 dL_wovenRows_218 rfl rfl ?_
                        refine z_iload 8 dL_wovenRows_219 rfl ?_
                        refine z_iconst (v := 2) dL_wovenRows_221 (by decide) ?_
                        refine z_callSH (N := mL_rows) 3 [.ref 0, .int (nI k), .int 2] [] lHL_rows ⟨zw_834, zw_835⟩ rfl rfl (Nat.le_of_ble_eq_true rfl) (by decide) ⟨hlen, hlen⟩ hG ⟨Nat.zero_le _, Nat.zero_le _⟩ (r2 k (by omega)) dL_wovenRows_222 ?_
                        refine z_iload 6 dL_wovenRows_225 rfl ?_
                        refine z_icmp_ne (tgt := 299) dL_wovenRows_227 (by decide) (fun c_227 => ?_) (fun c_227 => ?_)
                        · exact absurd c_227 (fun q => q rfl)
                        · skip
                          refine z_aload_n 9 dL_wovenRows_230 rfl rfl ?_
                          refine z_iload 8 dL_wovenRows_231 rfl ?_
                          refine z_iconst (v := 1) dL_wovenRows_233 (by decide) ?_
                          refine z_callSH (N := mL_rows) 3 [.ref 0, .int (nI k), .int 1] [] lHL_rows ⟨zw_834, zw_835⟩ rfl rfl (Nat.le_of_ble_eq_true rfl) (by decide) ⟨hlen, hlen⟩ hG ⟨Nat.zero_le _, Nat.zero_le _⟩ (r1 k (by omega)) dL_wovenRows_234 ?_
                          refine z_iload 7 dL_wovenRows_237 rfl ?_
                          refine z_icmp_gt (tgt := 299) dL_wovenRows_239 (by decide) (fun c_239 => ?_) (fun c_239 => ?_)
                          · exact absurd c_239 (nI_nlt (hF k) (by have := hN k; omega))
                          · skip
                            refine z_iload 8 dL_wovenRows_242 rfl ?_
                            refine z_if_gt (tgt := 259) dL_wovenRows_244 (by decide) (fun c_244 => ?_) (fun c_244 => ?_)
                            · skip
                              refine z_aload_n 9 dL_wovenRows_259 rfl rfl ?_
                              refine z_iload 8 dL_wovenRows_260 rfl ?_
                              refine z_iconst (v := 3) dL_wovenRows_262 (by decide) ?_
                              refine z_callSH (N := mL_rows) 3 [.ref 0, .int (nI k), .int 3] [] lHL_rows ⟨zw_834, zw_835⟩ rfl rfl (Nat.le_of_ble_eq_true rfl) (by decide) ⟨hlen, hlen⟩ hG ⟨Nat.zero_le _, Nat.zero_le _⟩ (r3 k (by omega)) dL_wovenRows_263 ?_
                              refine z_iload_n 10 dL_wovenRows_266 rfl rfl ?_
                              refine z_iload 7 dL_wovenRows_267 rfl ?_
                              refine z_iadd dL_wovenRows_269 ?_
                              refine z_icmp_ne (tgt := 299) dL_wovenRows_270 (by decide) (fun c_270 => ?_) (fun c_270 => ?_)
                              · exact absurd c_270 (fun q => q rfl)
                              · skip
                                refine z_aload_n 9 dL_wovenRows_273 rfl rfl ?_
                                refine z_iload 8 dL_wovenRows_274 rfl ?_
                                refine z_iconst (v := 4) dL_wovenRows_276 (by decide) ?_
                                refine z_callSH (N := mL_rows) 3 [.ref 0, .int (nI k), .int 4] [] lHL_rows ⟨zw_834, zw_835⟩ rfl rfl (Nat.le_of_ble_eq_true rfl) (by decide) ⟨hlen, hlen⟩ hG ⟨Nat.zero_le _, Nat.zero_le _⟩ (r4 k (by omega)) dL_wovenRows_277 ?_
                                refine z_iconst (v := 1) dL_wovenRows_280 (by decide) ?_
                                refine z_icmp_lt (tgt := 299) dL_wovenRows_281 (by decide) (fun c_281 => ?_) (fun c_281 => ?_)
                                · exact absurd c_281 (Int32.not_lt.mpr (by rw [← nI_one]; exact nI_le (hD k hx_k).1 (by have := (hD k hx_k).2; omega)))
                                · skip
                                  refine z_aload_n 9 dL_wovenRows_284 rfl rfl ?_
                                  refine z_iload 8 dL_wovenRows_285 rfl ?_
                                  refine z_iconst (v := 4) dL_wovenRows_287 (by decide) ?_
                                  refine z_callSH (N := mL_rows) 3 [.ref 0, .int (nI k), .int 4] [] lHL_rows ⟨zw_834, zw_835⟩ rfl rfl (Nat.le_of_ble_eq_true rfl) (by decide) ⟨hlen, hlen⟩ hG ⟨Nat.zero_le _, Nat.zero_le _⟩ (r4 k (by omega)) dL_wovenRows_288 ?_
                                  refine z_iload_n 10 dL_wovenRows_291 rfl rfl ?_
                                  refine z_icmp_gt (tgt := 299) dL_wovenRows_292 (by decide) (fun c_292 => ?_) (fun c_292 => ?_)
                                  · exact absurd c_292 (nI_nlt (hD k hx_k).2 (by omega))
                                  · skip
                                    refine z_iconst (v := 1) dL_wovenRows_295 (by decide) ?_
                                    refine z_goto (tgt := 300) dL_wovenRows_296 (by decide) ?_
                                    refine z_istore (lv' := [(7, .int 1), (4, .int (nI (zMx N (k + 1)))), (5, .int (nI (zSN N (k + 1)))), (3, .int (nI (zSN F (k + 1)))), (2, .int (nI (zSN own (k + 1)))), (6, .int (pFs own (k + 1))), (11, .int (nI j)), (9, .int (nI (own k))), (10, .int (nI (N k))), (8, .int (nI k)), (0, .ref 0), (1, .int (nI c))]) dL_wovenRows_300 (by decide) rfl ?_
                                    refine z_iinc (v := nI (k + 1)) (lv' := [(8, .int (nI (k + 1))), (7, .int 1), (4, .int (nI (zMx N (k + 1)))), (5, .int (nI (zSN N (k + 1)))), (3, .int (nI (zSN F (k + 1)))), (2, .int (nI (zSN own (k + 1)))), (6, .int (pFs own (k + 1))), (11, .int (nI j)), (9, .int (nI (own k))), (10, .int (nI (N k))), (0, .ref 0), (1, .int (nI c))]) 9 dL_wovenRows_302 rfl (nI_1 k) (by decide) rfl ?_
                                    refine z_goto (tgt := 25) dL_wovenRows_305 (by decide) ?_
                                    refine z_sub [0, 10, 11, 5, 4, 2, 3, 6, 1] (lv' := [(8, .int (nI (k + 1))), (0, .ref 0), (1, .int (nI c)), (2, .int (nI (zSN own (k + 1)))), (3, .int (nI (zSN F (k + 1)))), (4, .int (nI (zMx N (k + 1)))), (5, .int (nI (zSN N (k + 1)))), (6, .int (pFs own (k + 1))), (7, .int 1)]) rfl ?_
                                    refine z_eqs (lv2 := [(8, .int (nI (k + 1))), (0, .ref 0), (1, .int (nI c)), (2, .int (nI (zSN own (k + 1)))), (3, .int (nI (zSN F (k + 1)))), (4, .int (nI (zMx N (k + 1)))), (5, .int (nI (zSN N (k + 1)))), (6, .int (pFs own (k + 1))), (7, .int 1)]) (h2 := H) (by rfl) (by rfl) ?_
                                    exact ih25 (k + 1) (by omega) (by omega)
                            · skip
                              refine z_aload_n 9 dL_wovenRows_247 rfl rfl ?_
                              refine z_iload 8 dL_wovenRows_248 rfl ?_
                              refine z_iconst (v := 1) dL_wovenRows_250 (by decide) ?_
                              refine z_callSH (N := mL_rows) 3 [.ref 0, .int (nI k), .int 1] [] lHL_rows ⟨zw_834, zw_835⟩ rfl rfl (Nat.le_of_ble_eq_true rfl) (by decide) ⟨hlen, hlen⟩ hG ⟨Nat.zero_le _, Nat.zero_le _⟩ (r1 k (by omega)) dL_wovenRows_251 ?_
                              refine z_iload 7 dL_wovenRows_254 rfl ?_
                              refine z_icmp_ne (tgt := 299) dL_wovenRows_256 (by decide) (fun c_256 => ?_) (fun c_256 => ?_)
                              · exfalso; have z0 := m_z_gt_f (by omega) c_244; exact c_256 (by rw [z0, hF0 (by omega)])
                              · skip
                                refine z_aload_n 9 dL_wovenRows_259 rfl rfl ?_
                                refine z_iload 8 dL_wovenRows_260 rfl ?_
                                refine z_iconst (v := 3) dL_wovenRows_262 (by decide) ?_
                                refine z_callSH (N := mL_rows) 3 [.ref 0, .int (nI k), .int 3] [] lHL_rows ⟨zw_834, zw_835⟩ rfl rfl (Nat.le_of_ble_eq_true rfl) (by decide) ⟨hlen, hlen⟩ hG ⟨Nat.zero_le _, Nat.zero_le _⟩ (r3 k (by omega)) dL_wovenRows_263 ?_
                                refine z_iload_n 10 dL_wovenRows_266 rfl rfl ?_
                                refine z_iload 7 dL_wovenRows_267 rfl ?_
                                refine z_iadd dL_wovenRows_269 ?_
                                refine z_icmp_ne (tgt := 299) dL_wovenRows_270 (by decide) (fun c_270 => ?_) (fun c_270 => ?_)
                                · exact absurd c_270 (fun q => q rfl)
                                · skip
                                  refine z_aload_n 9 dL_wovenRows_273 rfl rfl ?_
                                  refine z_iload 8 dL_wovenRows_274 rfl ?_
                                  refine z_iconst (v := 4) dL_wovenRows_276 (by decide) ?_
                                  refine z_callSH (N := mL_rows) 3 [.ref 0, .int (nI k), .int 4] [] lHL_rows ⟨zw_834, zw_835⟩ rfl rfl (Nat.le_of_ble_eq_true rfl) (by decide) ⟨hlen, hlen⟩ hG ⟨Nat.zero_le _, Nat.zero_le _⟩ (r4 k (by omega)) dL_wovenRows_277 ?_
                                  refine z_iconst (v := 1) dL_wovenRows_280 (by decide) ?_
                                  refine z_icmp_lt (tgt := 299) dL_wovenRows_281 (by decide) (fun c_281 => ?_) (fun c_281 => ?_)
                                  · exact absurd c_281 (Int32.not_lt.mpr (by rw [← nI_one]; exact nI_le (hD k hx_k).1 (by have := (hD k hx_k).2; omega)))
                                  · skip
                                    refine z_aload_n 9 dL_wovenRows_284 rfl rfl ?_
                                    refine z_iload 8 dL_wovenRows_285 rfl ?_
                                    refine z_iconst (v := 4) dL_wovenRows_287 (by decide) ?_
                                    refine z_callSH (N := mL_rows) 3 [.ref 0, .int (nI k), .int 4] [] lHL_rows ⟨zw_834, zw_835⟩ rfl rfl (Nat.le_of_ble_eq_true rfl) (by decide) ⟨hlen, hlen⟩ hG ⟨Nat.zero_le _, Nat.zero_le _⟩ (r4 k (by omega)) dL_wovenRows_288 ?_
                                    refine z_iload_n 10 dL_wovenRows_291 rfl rfl ?_
                                    refine z_icmp_gt (tgt := 299) dL_wovenRows_292 (by decide) (fun c_292 => ?_) (fun c_292 => ?_)
                                    · exact absurd c_292 (nI_nlt (hD k hx_k).2 (by omega))
                                    · skip
                                      refine z_iconst (v := 1) dL_wovenRows_295 (by decide) ?_
                                      refine z_goto (tgt := 300) dL_wovenRows_296 (by decide) ?_
                                      refine z_istore (lv' := [(7, .int 1), (4, .int (nI (zMx N (k + 1)))), (5, .int (nI (zSN N (k + 1)))), (3, .int (nI (zSN F (k + 1)))), (2, .int (nI (zSN own (k + 1)))), (6, .int (pFs own (k + 1))), (11, .int (nI j)), (9, .int (nI (own k))), (10, .int (nI (N k))), (8, .int (nI k)), (0, .ref 0), (1, .int (nI c))]) dL_wovenRows_300 (by decide) rfl ?_
                                      refine z_iinc (v := nI (k + 1)) (lv' := [(8, .int (nI (k + 1))), (7, .int 1), (4, .int (nI (zMx N (k + 1)))), (5, .int (nI (zSN N (k + 1)))), (3, .int (nI (zSN F (k + 1)))), (2, .int (nI (zSN own (k + 1)))), (6, .int (pFs own (k + 1))), (11, .int (nI j)), (9, .int (nI (own k))), (10, .int (nI (N k))), (0, .ref 0), (1, .int (nI c))]) 9 dL_wovenRows_302 rfl (nI_1 k) (by decide) rfl ?_
                                      refine z_goto (tgt := 25) dL_wovenRows_305 (by decide) ?_
                                      refine z_sub [0, 10, 11, 5, 4, 2, 3, 6, 1] (lv' := [(8, .int (nI (k + 1))), (0, .ref 0), (1, .int (nI c)), (2, .int (nI (zSN own (k + 1)))), (3, .int (nI (zSN F (k + 1)))), (4, .int (nI (zMx N (k + 1)))), (5, .int (nI (zSN N (k + 1)))), (6, .int (pFs own (k + 1))), (7, .int 1)]) rfl ?_
                                      refine z_eqs (lv2 := [(8, .int (nI (k + 1))), (0, .ref 0), (1, .int (nI c)), (2, .int (nI (zSN own (k + 1)))), (3, .int (nI (zSN F (k + 1)))), (4, .int (nI (zMx N (k + 1)))), (5, .int (nI (zSN N (k + 1)))), (6, .int (pFs own (k + 1))), (7, .int 1)]) (h2 := H) (by rfl) (by rfl) ?_
                                      exact ih25 (k + 1) (by omega) (by omega)
              · skip
                have hx_j := zlt' (by omega) hk_j c_58
                refine z_iload 11 dL_wovenRows_61 rfl ?_
                refine z_if_eq (tgt := 156) dL_wovenRows_63 (by decide) (fun c_63 => ?_) (fun c_63 => ?_)
                · exact absurd c_63 (by decide)
                · skip
                  refine z_aload_n 4 dL_wovenRows_66 rfl rfl ?_
                  refine z_iload 0 dL_wovenRows_67 rfl ?_
                  refine z_iload 3 dL_wovenRows_69 rfl ?_
                  refine z_iconst (v := 1) dL_wovenRows_71 (by decide) ?_
                  refine z_callSH (N := mL_cells) 4 [.ref 0, .int (nI j), .int (nI k), .int 1] [] lHL_cells ⟨zw_802, zw_803⟩ rfl rfl (Nat.le_of_ble_eq_true rfl) (by decide) ⟨hlen, hlen⟩ hG ⟨Nat.zero_le _, Nat.zero_le _⟩ (x1 j k (by omega) (by omega)) dL_wovenRows_72 ?_
                  refine z_istore (lv' := [(12, .int (nI (A k j))), (11, .int (nI j)), (9, .int (nI (zCt (fun x => !(A k x == B k x)) j))), (10, .int (nI (N k))), (8, .int (nI k)), (0, .ref 0), (1, .int (nI c)), (2, .int (nI (zSN own k))), (3, .int (nI (zSN F k))), (4, .int (nI (zMx N k))), (5, .int (nI (zSN N k))), (6, .int (pFs own k)), (7, .int 1)]) dL_wovenRows_75 (by decide) rfl ?_
                  refine z_iload 2 dL_wovenRows_77 rfl ?_
                  refine z_iload 0 dL_wovenRows_79 rfl ?_
                  refine z_aload_n 5 dL_wovenRows_81 rfl rfl ?_
                  refine z_iload 1 dL_wovenRows_82 rfl ?_
                  refine z_iload 4 dL_wovenRows_84 rfl ?_
                  refine z_iconst (v := 0) dL_wovenRows_86 (by decide) ?_
                  refine z_callSH (N := mL_cells) 4 [.ref 0, .int (nI j), .int (nI k), .int 0] [.int (nI (A k j)), .int (nI (zCt (fun x => !(A k x == B k x)) j))] lHL_cells ⟨zw_802, zw_803⟩ rfl rfl (Nat.le_of_ble_eq_true rfl) (by decide) ⟨hlen, hlen⟩ hG ⟨Nat.zero_le _, Nat.zero_le _⟩ (x0 j k (by omega) (by omega)) dL_wovenRows_87 ?_
                  refine z_icmp_ne (tgt := 97) dL_wovenRows_90 (by decide) (fun c_90 => ?_) (fun c_90 => ?_)
                  · skip
                    refine z_iconst (v := 1) dL_wovenRows_97 (by decide) ?_
                    refine z_iadd dL_wovenRows_98 ?_
                    refine z_top (v2 := .int (nI (zCt (fun x => !(A k x == B k x)) (j + 1)))) (by first | exact congrArg Value.int (zCt_t (by rw [beq_eq_false_iff_ne.mpr (fun q => c_90 (by rw [q]))]; rfl)) | exact congrArg Value.int (zCt_f (by rw [m_eq (by have := hA k j hx_k hx_j; omega) (by have := hB k j hx_k hx_j; omega) c_90, beq_self_eq_true]; rfl))) ?_
                    refine z_istore (lv' := [(9, .int (nI (zCt (fun x => !(A k x == B k x)) (j + 1)))), (12, .int (nI (A k j))), (11, .int (nI j)), (10, .int (nI (N k))), (8, .int (nI k)), (0, .ref 0), (1, .int (nI c)), (2, .int (nI (zSN own k))), (3, .int (nI (zSN F k))), (4, .int (nI (zMx N k))), (5, .int (nI (zSN N k))), (6, .int (pFs own k)), (7, .int 1)]) dL_wovenRows_99 (by decide) rfl ?_
                    refine z_iload 1 dL_wovenRows_101 rfl ?_
                    refine z_if_lt (tgt := 147) dL_wovenRows_103 (by decide) (fun c_103 => ?_) (fun c_103 => ?_)
                    · exact absurd c_103 (nI_pos (by have := hA k j hx_k hx_j; omega))
                    · skip
                      refine z_aload_n 5 dL_wovenRows_106 rfl rfl ?_
                      refine z_aload_n 5 dL_wovenRows_107 rfl rfl ?_
                      refine z_iload 2 dL_wovenRows_108 rfl ?_
                      refine z_iload 4 dL_wovenRows_110 rfl ?_
                      refine z_iconst (v := 2) dL_wovenRows_112 (by decide) ?_
                      refine z_callSH (N := mL_cells) 4 [.ref 0, .int (nI j), .int (nI k), .int 2] [.ref 0] lHL_cells ⟨zw_802, zw_803⟩ rfl rfl (Nat.le_of_ble_eq_true rfl) (by decide) ⟨hlen, hlen⟩ hG ⟨Nat.zero_le _, Nat.zero_le _⟩ (x2 j k (by omega) (by omega)) dL_wovenRows_113 ?_
                      refine z_iconst (v := 0) dL_wovenRows_116 (by decide) ?_
                      refine z_callSH (N := mL_lotOf) 3 [.ref 0, .int (nI (L k j)), .int 0] [] lHL_lotOf ⟨zw_842, zw_843⟩ rfl rfl (Nat.le_of_ble_eq_true rfl) (by decide) ⟨hlen, hlen⟩ hG ⟨Nat.zero_le _, Nat.zero_le _⟩ (l0 j k (by omega) (by omega)) dL_wovenRows_117 ?_
                      refine z_iload 1 dL_wovenRows_120 rfl ?_
                      refine z_icmp_ne (tgt := 147) dL_wovenRows_122 (by decide) (fun c_122 => ?_) (fun c_122 => ?_)
                      · exact absurd c_122 (fun q => q rfl)
                      · skip
                        refine z_aload_n 5 dL_wovenRows_125 rfl rfl ?_
                        refine z_iload 2 dL_wovenRows_126 rfl ?_
                        refine z_iload 4 dL_wovenRows_128 rfl ?_
                        refine z_iconst (v := 3) dL_wovenRows_130 (by decide) ?_
                        refine z_callSH (N := mL_cells) 4 [.ref 0, .int (nI j), .int (nI k), .int 3] [] lHL_cells ⟨zw_802, zw_803⟩ rfl rfl (Nat.le_of_ble_eq_true rfl) (by decide) ⟨hlen, hlen⟩ hG ⟨Nat.zero_le _, Nat.zero_le _⟩ (x3 j k (by omega) (by omega)) dL_wovenRows_131 ?_
                        refine z_iload_n 6 dL_wovenRows_134 rfl rfl ?_
                        refine z_iconst (v := 1) dL_wovenRows_135 (by decide) ?_
                        refine z_isub dL_wovenRows_136 ?_
                        refine z_iload 2 dL_wovenRows_137 rfl ?_
                        refine z_isub dL_wovenRows_139 ?_
                        refine z_top (v2 := .int (nI (c - 1 - j))) (by rw [nI_sub1 hx_j]) ?_
                        refine z_icmp_ne (tgt := 147) dL_wovenRows_140 (by decide) (fun c_140 => ?_) (fun c_140 => ?_)
                        · exact absurd c_140 (fun q => q rfl)
                        · skip
                          refine z_iconst (v := 1) dL_wovenRows_143 (by decide) ?_
                          refine z_goto (tgt := 148) dL_wovenRows_144 (by decide) ?_
                          refine z_istore (lv' := [(7, .int 1), (9, .int (nI (zCt (fun x => !(A k x == B k x)) (j + 1)))), (12, .int (nI (A k j))), (11, .int (nI j)), (10, .int (nI (N k))), (8, .int (nI k)), (0, .ref 0), (1, .int (nI c)), (2, .int (nI (zSN own k))), (3, .int (nI (zSN F k))), (4, .int (nI (zMx N k))), (5, .int (nI (zSN N k))), (6, .int (pFs own k))]) dL_wovenRows_148 (by decide) rfl ?_
                          refine z_iinc (v := nI (j + 1)) (lv' := [(11, .int (nI (j + 1))), (7, .int 1), (9, .int (nI (zCt (fun x => !(A k x == B k x)) (j + 1)))), (12, .int (nI (A k j))), (10, .int (nI (N k))), (8, .int (nI k)), (0, .ref 0), (1, .int (nI c)), (2, .int (nI (zSN own k))), (3, .int (nI (zSN F k))), (4, .int (nI (zMx N k))), (5, .int (nI (zSN N k))), (6, .int (pFs own k))]) 3 dL_wovenRows_150 rfl (nI_1 j) (by decide) rfl ?_
                          refine z_goto (tgt := 55) dL_wovenRows_153 (by decide) ?_
                          refine z_sub [0, 2, 4, 5, 6, 7, 8, 9, 10, 11, 12, 1] (lv' := [(11, .int (nI (j + 1))), (9, .int (nI (zCt (fun x => !(A k x == B k x)) (j + 1)))), (10, .int (nI (N k))), (8, .int (nI k)), (0, .ref 0), (1, .int (nI c)), (2, .int (nI (zSN own k))), (3, .int (nI (zSN F k))), (4, .int (nI (zMx N k))), (5, .int (nI (zSN N k))), (6, .int (pFs own k)), (7, .int 1)]) rfl ?_
                          refine z_eqs (lv2 := [(11, .int (nI (j + 1))), (9, .int (nI (zCt (fun x => !(A k x == B k x)) (j + 1)))), (10, .int (nI (N k))), (8, .int (nI k)), (0, .ref 0), (1, .int (nI c)), (2, .int (nI (zSN own k))), (3, .int (nI (zSN F k))), (4, .int (nI (zMx N k))), (5, .int (nI (zSN N k))), (6, .int (pFs own k)), (7, .int 1)]) (h2 := H) (by rfl) (by rfl) ?_
                          exact ih55 (j + 1) (by omega) (by omega)
                  · skip
                    refine z_iconst (v := 0) dL_wovenRows_93 (by decide) ?_
                    refine z_goto (tgt := 98) dL_wovenRows_94 (by decide) ?_
                    refine z_iadd dL_wovenRows_98 ?_
                    refine z_top (v2 := .int (nI (zCt (fun x => !(A k x == B k x)) (j + 1)))) (by first | exact congrArg Value.int (zCt_t (by rw [beq_eq_false_iff_ne.mpr (fun q => c_90 (by rw [q]))]; rfl)) | exact congrArg Value.int (zCt_f (by rw [m_eq (by have := hA k j hx_k hx_j; omega) (by have := hB k j hx_k hx_j; omega) c_90, beq_self_eq_true]; rfl))) ?_
                    refine z_istore (lv' := [(9, .int (nI (zCt (fun x => !(A k x == B k x)) (j + 1)))), (12, .int (nI (A k j))), (11, .int (nI j)), (10, .int (nI (N k))), (8, .int (nI k)), (0, .ref 0), (1, .int (nI c)), (2, .int (nI (zSN own k))), (3, .int (nI (zSN F k))), (4, .int (nI (zMx N k))), (5, .int (nI (zSN N k))), (6, .int (pFs own k)), (7, .int 1)]) dL_wovenRows_99 (by decide) rfl ?_
                    refine z_iload 1 dL_wovenRows_101 rfl ?_
                    refine z_if_lt (tgt := 147) dL_wovenRows_103 (by decide) (fun c_103 => ?_) (fun c_103 => ?_)
                    · exact absurd c_103 (nI_pos (by have := hA k j hx_k hx_j; omega))
                    · skip
                      refine z_aload_n 5 dL_wovenRows_106 rfl rfl ?_
                      refine z_aload_n 5 dL_wovenRows_107 rfl rfl ?_
                      refine z_iload 2 dL_wovenRows_108 rfl ?_
                      refine z_iload 4 dL_wovenRows_110 rfl ?_
                      refine z_iconst (v := 2) dL_wovenRows_112 (by decide) ?_
                      refine z_callSH (N := mL_cells) 4 [.ref 0, .int (nI j), .int (nI k), .int 2] [.ref 0] lHL_cells ⟨zw_802, zw_803⟩ rfl rfl (Nat.le_of_ble_eq_true rfl) (by decide) ⟨hlen, hlen⟩ hG ⟨Nat.zero_le _, Nat.zero_le _⟩ (x2 j k (by omega) (by omega)) dL_wovenRows_113 ?_
                      refine z_iconst (v := 0) dL_wovenRows_116 (by decide) ?_
                      refine z_callSH (N := mL_lotOf) 3 [.ref 0, .int (nI (L k j)), .int 0] [] lHL_lotOf ⟨zw_842, zw_843⟩ rfl rfl (Nat.le_of_ble_eq_true rfl) (by decide) ⟨hlen, hlen⟩ hG ⟨Nat.zero_le _, Nat.zero_le _⟩ (l0 j k (by omega) (by omega)) dL_wovenRows_117 ?_
                      refine z_iload 1 dL_wovenRows_120 rfl ?_
                      refine z_icmp_ne (tgt := 147) dL_wovenRows_122 (by decide) (fun c_122 => ?_) (fun c_122 => ?_)
                      · exact absurd c_122 (fun q => q rfl)
                      · skip
                        refine z_aload_n 5 dL_wovenRows_125 rfl rfl ?_
                        refine z_iload 2 dL_wovenRows_126 rfl ?_
                        refine z_iload 4 dL_wovenRows_128 rfl ?_
                        refine z_iconst (v := 3) dL_wovenRows_130 (by decide) ?_
                        refine z_callSH (N := mL_cells) 4 [.ref 0, .int (nI j), .int (nI k), .int 3] [] lHL_cells ⟨zw_802, zw_803⟩ rfl rfl (Nat.le_of_ble_eq_true rfl) (by decide) ⟨hlen, hlen⟩ hG ⟨Nat.zero_le _, Nat.zero_le _⟩ (x3 j k (by omega) (by omega)) dL_wovenRows_131 ?_
                        refine z_iload_n 6 dL_wovenRows_134 rfl rfl ?_
                        refine z_iconst (v := 1) dL_wovenRows_135 (by decide) ?_
                        refine z_isub dL_wovenRows_136 ?_
                        refine z_iload 2 dL_wovenRows_137 rfl ?_
                        refine z_isub dL_wovenRows_139 ?_
                        refine z_top (v2 := .int (nI (c - 1 - j))) (by rw [nI_sub1 hx_j]) ?_
                        refine z_icmp_ne (tgt := 147) dL_wovenRows_140 (by decide) (fun c_140 => ?_) (fun c_140 => ?_)
                        · exact absurd c_140 (fun q => q rfl)
                        · skip
                          refine z_iconst (v := 1) dL_wovenRows_143 (by decide) ?_
                          refine z_goto (tgt := 148) dL_wovenRows_144 (by decide) ?_
                          refine z_istore (lv' := [(7, .int 1), (9, .int (nI (zCt (fun x => !(A k x == B k x)) (j + 1)))), (12, .int (nI (A k j))), (11, .int (nI j)), (10, .int (nI (N k))), (8, .int (nI k)), (0, .ref 0), (1, .int (nI c)), (2, .int (nI (zSN own k))), (3, .int (nI (zSN F k))), (4, .int (nI (zMx N k))), (5, .int (nI (zSN N k))), (6, .int (pFs own k))]) dL_wovenRows_148 (by decide) rfl ?_
                          refine z_iinc (v := nI (j + 1)) (lv' := [(11, .int (nI (j + 1))), (7, .int 1), (9, .int (nI (zCt (fun x => !(A k x == B k x)) (j + 1)))), (12, .int (nI (A k j))), (10, .int (nI (N k))), (8, .int (nI k)), (0, .ref 0), (1, .int (nI c)), (2, .int (nI (zSN own k))), (3, .int (nI (zSN F k))), (4, .int (nI (zMx N k))), (5, .int (nI (zSN N k))), (6, .int (pFs own k))]) 3 dL_wovenRows_150 rfl (nI_1 j) (by decide) rfl ?_
                          refine z_goto (tgt := 55) dL_wovenRows_153 (by decide) ?_
                          refine z_sub [0, 2, 4, 5, 6, 7, 8, 9, 10, 11, 12, 1] (lv' := [(11, .int (nI (j + 1))), (9, .int (nI (zCt (fun x => !(A k x == B k x)) (j + 1)))), (10, .int (nI (N k))), (8, .int (nI k)), (0, .ref 0), (1, .int (nI c)), (2, .int (nI (zSN own k))), (3, .int (nI (zSN F k))), (4, .int (nI (zMx N k))), (5, .int (nI (zSN N k))), (6, .int (pFs own k)), (7, .int 1)]) rfl ?_
                          refine z_eqs (lv2 := [(11, .int (nI (j + 1))), (9, .int (nI (zCt (fun x => !(A k x == B k x)) (j + 1)))), (10, .int (nI (N k))), (8, .int (nI k)), (0, .ref 0), (1, .int (nI c)), (2, .int (nI (zSN own k))), (3, .int (nI (zSN F k))), (4, .int (nI (zMx N k))), (5, .int (nI (zSN N k))), (6, .int (pFs own k)), (7, .int 1)]) (h2 := H) (by rfl) (by rfl) ?_
                          exact ih55 (j + 1) (by omega) (by omega)
          refine z_sub [0, 2, 1, 3, 4, 5, 6, 7, 8, 9, 10, 11] (lv' := [(11, .int 0), (9, .int 0), (10, .int (nI (N k))), (8, .int (nI k)), (0, .ref 0), (1, .int (nI c)), (2, .int (nI (zSN own k))), (3, .int (nI (zSN F k))), (4, .int (nI (zMx N k))), (5, .int (nI (zSN N k))), (6, .int (pFs own k)), (7, .int 1)]) rfl ?_
          refine z_eqs (lv2 := [(11, .int (nI 0)), (9, .int (nI (zCt (fun x => !(A k x == B k x)) 0))), (10, .int (nI (N k))), (8, .int (nI k)), (0, .ref 0), (1, .int (nI c)), (2, .int (nI (zSN own k))), (3, .int (nI (zSN F k))), (4, .int (nI (zMx N k))), (5, .int (nI (zSN N k))), (6, .int (pFs own k)), (7, .int 1)]) (h2 := H) (by rfl) (by rfl) ?_
          exact L55_3 (c + 1) 0 (Nat.zero_le _) (by omega)
  refine z_sub [0, 8, 7, 6, 5, 4, 3, 2, 1] (lv' := [(8, .int 0), (0, .ref 0), (1, .int (nI c)), (2, .int 0), (3, .int 0), (4, .int 0), (5, .int 0), (6, .int ((-1))), (7, .int 1)]) rfl ?_
  refine z_eqs (lv2 := [(8, .int (nI 0)), (0, .ref 0), (1, .int (nI c)), (2, .int (nI (zSN own 0))), (3, .int (nI (zSN F 0))), (4, .int (nI (zMx N 0))), (5, .int (nI (zSN N 0))), (6, .int (pFs own 0)), (7, .int 1)]) (h2 := H) (by rfl) (by rfl) ?_
  exact L25_1 (w + 1) 0 (Nat.zero_le _) (by omega)
