theorem p_sub0 (a : Int32) : a - nI 0 = a := by rw [nI_0, Int32.sub_zero]
theorem p_subs (a : Int32) (x y : Nat) : a - nI x - nI y = a - nI (x + y) := by rw [← nI_add, ← Int32.sub_sub]
theorem p_if_t {f : Nat → Nat} {q : Nat → Nat} {v l : Nat} (ha : q l < 8) (hv : v < 8) (h : ¬ nI (q l) = nI v) : Value.int (nI (zSN (fun l => if q l = v then f l else 0) l) + 0) = .int (nI (zSN (fun l => if q l = v then f l else 0) (l + 1))) := by
  show _ = Value.int (nI (zSN (fun l => if q l = v then f l else 0) l + (if q l = v then f l else 0)))
  rw [if_neg (m_ne (by omega) (by omega) h), Int32.add_zero, Nat.add_zero]
theorem p_if_f {f : Nat → Nat} {q : Nat → Nat} {v l : Nat} (ha : q l < 8) (hv : v < 8) (h : nI (q l) = nI v) : Value.int (nI (zSN (fun l => if q l = v then f l else 0) l) + nI (f l)) = .int (nI (zSN (fun l => if q l = v then f l else 0) (l + 1))) := by
  show _ = Value.int (nI (zSN (fun l => if q l = v then f l else 0) l + (if q l = v then f l else 0)))
  rw [if_pos (m_eq (by omega) (by omega) h), nI_add]
theorem p_ct_t {q : Nat → Nat} {v l : Nat} (ha : q l < 8) (hv : v < 8) (h : ¬ nI (q l) = nI v) : Value.int (nI (zCt (fun l => q l == v) l) + 0) = .int (nI (zCt (fun l => q l == v) (l + 1))) :=
  congrArg Value.int (zCt_f (beq_eq_false_iff_ne.mpr (m_ne (by omega) (by omega) h)))
theorem p_ct_f {q : Nat → Nat} {v l : Nat} (ha : q l < 8) (hv : v < 8) (h : nI (q l) = nI v) : Value.int (nI (zCt (fun l => q l == v) l) + 1) = .int (nI (zCt (fun l => q l == v) (l + 1))) :=
  congrArg Value.int (zCt_t (by rw [m_eq (by omega) (by omega) h, beq_self_eq_true]))
theorem p_eqv {E l : Nat} (hE : E < 2 ^ 30) (hl : l < 2 ^ 30) (h1 : ¬ nI (E - l) = 0) (h2 : ¬ nI l < nI E) : False := by
  have a := m_z_eq_f (by omega) h1
  have b := m_nlt (by omega) (by omega) h2
  omega
theorem p_eqw {E l : Nat} (hE : E < 2 ^ 30) (hl : l < 2 ^ 30) (h1 : nI (E - l) = 0) (h2 : nI l < nI E) : False := by
  have a := m_z_ne_f (by omega) h1
  have b := m_lt (by omega) (by omega) h2
  omega

set_option maxHeartbeats 4000000 in
set_option maxRecDepth 100000 in
theorem v_yarns {G : zT} {H : zH} {fs9 : List Value} (hG : zAl G = false) (hlen : H.length < 1000) (e0 : H[0]? = some (.inr (7, fs9))) {c r w cnt P : Nat} {n m K q W C E T : Nat → Nat} {u : Nat → Bool} (hc : c ≤ 20) (hr : r ≤ 16) (hw : w ≤ r) (hcn : cnt ≤ 16) (hn : ∀ l, l < cnt → n l + K l ≤ m l ∧ m l ≤ 999) (hu : ∀ l, l < cnt → u l = true → 0 < n l) (hq : ∀ l, l < cnt → q l < 8) (hE : ∀ v, E v ≤ 640) (hLe : ∀ v, pLe q n v cnt ≤ 16000) (hKW : zSN K cnt = zSN W 8) (hC : zSN C 8 = c * r) (hET : zSN E 8 = zSN (fun j => c + T (w + j)) (r - w)) (hP0 : zSN (fun v => E v - pLe q n v cnt) 8 = 0 → P = r - w) (hP1 : ¬ zSN (fun v => E v - pLe q n v cnt) 8 = 0 → P < r - w) (w0 : zRun G mL_whole 0 0 [.ref 0, .int 0] H (.inr (some (.int (nI c)))) H) (w1 : zRun G mL_whole 0 0 [.ref 0, .int 1] H (.inr (some (.int (nI r)))) H) (w2 : zRun G mL_whole 0 0 [.ref 0, .int 2] H (.inr (some (.int (nI w)))) H) (w3 : zRun G mL_whole 0 0 [.ref 0, .int 3] H (.inr (some (.int (nI cnt)))) H) (l0 : ∀ l, l < cnt → zRun G mL_lotOf 0 0 [.ref 0, .int (nI l), .int 0] H (.inr (some (.int (nI (q l))))) H) (l1 : ∀ l, l < cnt → zRun G mL_lotOf 0 0 [.ref 0, .int (nI l), .int 1] H (.inr (some (.int (nI (m l))))) H) (l2 : ∀ l, l < cnt → zRun G mL_lotOf 0 0 [.ref 0, .int (nI l), .int 2] H (.inr (some (.int (nI (n l))))) H) (l4 : ∀ l, l < cnt → zRun G mL_lotOf 0 0 [.ref 0, .int (nI l), .int 4] H (.inr (some (.int (nI (K l))))) H) (l5 : ∀ l, l < cnt → zRun G mL_lotOf 0 0 [.ref 0, .int (nI l), .int 5] H (.inr (some (.int (zB (u l))))) H) (k0 : ∀ v, v < 8 → zRun G mL_colorOf 0 0 [.ref 0, .int (nI v), .int 0] H (.inr (some (.int (nI (C v))))) H) (k1 : ∀ v, v < 8 → zRun G mL_colorOf 0 0 [.ref 0, .int (nI v), .int 1] H (.inr (some (.int (nI (W v))))) H) (k2 : ∀ v, v < 8 → zRun G mL_colorOf 0 0 [.ref 0, .int (nI v), .int 2] H (.inr (some (.int (nI (pLe q n v cnt))))) H) (k3 : ∀ v, v < 8 → zRun G mL_colorOf 0 0 [.ref 0, .int (nI v), .int 3] H (.inr (some (.int (nI (zCt (fun l => q l == v) cnt))))) H) (k5 : ∀ v, v < 8 → zRun G mL_colorOf 0 0 [.ref 0, .int (nI v), .int 5] H (.inr (some (.int (nI (E v))))) H) (hmi : ∀ v, v < 8 → zRun G mL_missing 0 0 [.ref 0, .int (nI v)] H (.inr (some (.int (nI (E v - pLe q n v cnt))))) H) (hsh : ∀ y, y < r → zRun G mL_shuttlesFor 0 0 [.ref 0, .int (nI y)] H (.inr (some (.int (nI (T y))))) H) (hrp : zRun G mX9_rowsPossible 0 0 [.ref 0] H (.inr (some (.int (nI P)))) H) : zRun G mL_yarns 0 0 [.ref 0] H (.inr (some (.int 1))) H := by
  have hls : zSN (fun v => E v - pLe q n v cnt) 8 < 2 ^ 31 := Nat.lt_of_le_of_lt (zSN_le (m := 640) (fun v => by have := hE v; omega) 8) (by omega)
  refine zRun_of (by decide +kernel) rfl rfl (Nat.le_of_ble_eq_true rfl) ?_
  suffices hs : ∀ (o9 : zO) (h9 : zH), (Sum.inr (some (.int 1)) : zO) = o9 → H = h9 → zPW G mL_yarns 0 0 o9 h9 0 0 0 [(0, .ref 0)] [] H from hs _ _ rfl rfl
  intro o9 h9 ho9 hh9
  refine z_iconst (v := 0) dL_yarns_0 (by decide) ?_
  refine z_istore_n (lv' := [(1, .int 0), (0, .ref 0)]) dL_yarns_1 rfl (by decide) rfl ?_
  refine z_iconst (v := 0) dL_yarns_2 (by decide) ?_
  refine z_istore_n (lv' := [(2, .int 0), (1, .int 0), (0, .ref 0)]) dL_yarns_3 rfl (by decide) rfl ?_
  refine z_iconst (v := 0) dL_yarns_4 (by decide) ?_
  refine z_istore_n (lv' := [(3, .int 0), (2, .int 0), (1, .int 0), (0, .ref 0)]) dL_yarns_5 rfl (by decide) rfl ?_
  refine z_iconst (v := 0) dL_yarns_6 (by decide) ?_
  refine z_istore (lv' := [(4, .int 0), (3, .int 0), (2, .int 0), (1, .int 0), (0, .ref 0)]) dL_yarns_7 (by decide) rfl ?_
  refine z_iconst (v := 1) dL_yarns_9 (by decide) ?_
  refine z_istore (lv' := [(5, .int 1), (4, .int 0), (3, .int 0), (2, .int 0), (1, .int 0), (0, .ref 0)]) dL_yarns_10 (by decide) rfl ?_
  refine z_iconst (v := 0) dL_yarns_12 (by decide) ?_
  refine z_istore (lv' := [(6, .int 0), (5, .int 1), (4, .int 0), (3, .int 0), (2, .int 0), (1, .int 0), (0, .ref 0)]) dL_yarns_13 (by decide) rfl ?_
  have L15_1 : ∀ (d k : Nat), k ≤ cnt → cnt + 1 ≤ k + d → zPW G mL_yarns 0 0 o9 h9 0 0 15 [(6, .int (nI k)), (1, .int (nI (zSN K k))), (0, .ref 0), (2, .int 0), (3, .int 0), (4, .int 0), (5, .int 1)] [] H := by
    intro d
    induction d with
    | zero => intro k hk hd; exact absurd hd (by omega)
    | succ d ih =>
      intro k hk_k hd_k
      have ih15 := ih
      clear ih
      refine z_iload 0 dL_yarns_15 rfl ?_
      refine z_aload_n 2 dL_yarns_17 rfl rfl ?_
      refine z_iconst (v := 3) dL_yarns_18 (by decide) ?_
      refine z_callSH (N := mL_whole) 2 [.ref 0, .int 3] [.int (nI k)] lHL_whole ⟨zw_810, zw_811⟩ rfl rfl (Nat.le_of_ble_eq_true rfl) (by decide) ⟨hlen, hlen⟩ hG ⟨Nat.zero_le _, Nat.zero_le _⟩ w3 dL_yarns_19 ?_
      refine z_icmp_ge (tgt := 114) dL_yarns_22 (by decide) (fun c_22 => ?_) (fun c_22 => ?_)
      · skip
        have hx_k := zge (by omega) hk_k c_22
        refine z_iconst (v := 0) dL_yarns_114 (by decide) ?_
        refine z_istore (lv' := [(6, .int 0), (1, .int (nI (zSN K k))), (0, .ref 0), (2, .int 0), (3, .int 0), (4, .int 0), (5, .int 1)]) dL_yarns_115 (by decide) rfl ?_
        have L117_2 : ∀ (d v : Nat), v ≤ 8 → 8 + 1 ≤ v + d → zPW G mL_yarns 0 0 o9 h9 0 0 117 [(6, .int (nI v)), (1, .int (nI (zSN K cnt) - nI (zSN W v))), (0, .ref 0), (2, .int (nI (zSN C v))), (3, .int (nI (zSN E v))), (4, .int (nI (zSN (fun v => E v - pLe q n v cnt) v))), (5, .int 1)] [] H := by
          intro d
          induction d with
          | zero => intro v hk hd; exact absurd hd (by omega)
          | succ d ih =>
            intro v hk_v hd_v
            have ih117 := ih
            clear ih
            refine z_iload 0 dL_yarns_117 rfl ?_
            refine z_bipush (v := nI 8) dL_yarns_119 (by decide) ?_
            refine z_icmp_ge (tgt := 316) dL_yarns_121 (by decide) (fun c_121 => ?_) (fun c_121 => ?_)
            · skip
              have hx_v := zge (by omega) hk_v c_121
              refine z_aload_n 2 dL_yarns_316 rfl rfl ?_
              refine z_iconst (v := 2) dL_yarns_317 (by decide) ?_
              refine z_callSH (N := mL_whole) 2 [.ref 0, .int 2] [] lHL_whole ⟨zw_810, zw_811⟩ rfl rfl (Nat.le_of_ble_eq_true rfl) (by decide) ⟨hlen, hlen⟩ hG ⟨Nat.zero_le _, Nat.zero_le _⟩ w2 dL_yarns_318 ?_
              refine z_istore (lv' := [(6, .int (nI w)), (1, .int (nI (zSN K cnt) - nI (zSN W v))), (0, .ref 0), (2, .int (nI (zSN C v))), (3, .int (nI (zSN E v))), (4, .int (nI (zSN (fun v => E v - pLe q n v cnt) v))), (5, .int 1)]) dL_yarns_321 (by decide) rfl ?_
              have L323_3 : ∀ (d y : Nat), y ≤ r → r + 1 ≤ y + d → w ≤ y → zPW G mL_yarns 0 0 o9 h9 0 0 323 [(6, .int (nI y)), (3, .int (nI (zSN E 8) - nI (zSN (fun j => c + T (w + j)) (y - w)))), (0, .ref 0), (1, .int (nI (zSN K cnt) - nI (zSN W 8))), (2, .int (nI (zSN C 8))), (4, .int (nI (zSN (fun v => E v - pLe q n v cnt) 8))), (5, .int 1)] [] H := by
                intro d
                induction d with
                | zero => intro y hk hd; exact absurd hd (by omega)
                | succ d ih =>
                  intro y hk_y hd_y hwy
                  have ih323 := ih
                  clear ih
                  refine z_iload 0 dL_yarns_323 rfl ?_
                  refine z_aload_n 2 dL_yarns_325 rfl rfl ?_
                  refine z_iconst (v := 1) dL_yarns_326 (by decide) ?_
                  refine z_callSH (N := mL_whole) 2 [.ref 0, .int 1] [.int (nI y)] lHL_whole ⟨zw_810, zw_811⟩ rfl rfl (Nat.le_of_ble_eq_true rfl) (by decide) ⟨hlen, hlen⟩ hG ⟨Nat.zero_le _, Nat.zero_le _⟩ w1 dL_yarns_327 ?_
                  refine z_icmp_ge (tgt := 354) dL_yarns_330 (by decide) (fun c_330 => ?_) (fun c_330 => ?_)
                  · skip
                    have hx_y := zge (by omega) hk_y c_330
                    refine z_aload_n 2 dL_yarns_354 rfl rfl ?_
                    refine z_iconst (v := 1) dL_yarns_355 (by decide) ?_
                    refine z_callSH (N := mL_whole) 2 [.ref 0, .int 1] [] lHL_whole ⟨zw_810, zw_811⟩ rfl rfl (Nat.le_of_ble_eq_true rfl) (by decide) ⟨hlen, hlen⟩ hG ⟨Nat.zero_le _, Nat.zero_le _⟩ w1 dL_yarns_356 ?_
                    refine z_aload_n 2 dL_yarns_359 rfl rfl ?_
                    refine z_iconst (v := 2) dL_yarns_360 (by decide) ?_
                    refine z_callSH (N := mL_whole) 2 [.ref 0, .int 2] [.int (nI r)] lHL_whole ⟨zw_810, zw_811⟩ rfl rfl (Nat.le_of_ble_eq_true rfl) (by decide) ⟨hlen, hlen⟩ hG ⟨Nat.zero_le _, Nat.zero_le _⟩ w2 dL_yarns_361 ?_
                    refine z_isub dL_yarns_364 ?_
                    refine z_top (v2 := .int (nI (r - w))) (by rw [pk_sub hw]) ?_
                    refine z_istore (lv' := [(6, .int (nI (r - w))), (3, .int (nI (zSN E 8) - nI (zSN (fun j => c + T (w + j)) (y - w)))), (0, .ref 0), (1, .int (nI (zSN K cnt) - nI (zSN W 8))), (2, .int (nI (zSN C 8))), (4, .int (nI (zSN (fun v => E v - pLe q n v cnt) 8))), (5, .int 1)]) dL_yarns_365 (by decide) rfl ?_
                    refine z_iload 6 dL_yarns_367 rfl ?_
                    refine z_if_eq (tgt := 425) dL_yarns_369 (by decide) (fun c_369 => ?_) (fun c_369 => ?_)
                    · exact absurd c_369 (by decide)
                    · skip
                      refine z_iload_n 3 dL_yarns_372 rfl rfl ?_
                      refine z_if_ne (tgt := 425) dL_yarns_373 (by decide) (fun c_373 => ?_) (fun c_373 => ?_)
                      · exact absurd c_373 (fun q9 => q9 (by rw [hKW, Int32.sub_self]))
                      · skip
                        refine z_iload_n 4 dL_yarns_376 rfl rfl ?_
                        refine z_aload_n 2 dL_yarns_377 rfl rfl ?_
                        refine z_iconst (v := 0) dL_yarns_378 (by decide) ?_
                        refine z_callSH (N := mL_whole) 2 [.ref 0, .int 0] [.int (nI (zSN C 8))] lHL_whole ⟨zw_810, zw_811⟩ rfl rfl (Nat.le_of_ble_eq_true rfl) (by decide) ⟨hlen, hlen⟩ hG ⟨Nat.zero_le _, Nat.zero_le _⟩ w0 dL_yarns_379 ?_
                        refine z_aload_n 2 dL_yarns_382 rfl rfl ?_
                        refine z_iconst (v := 1) dL_yarns_383 (by decide) ?_
                        refine z_callSH (N := mL_whole) 2 [.ref 0, .int 1] [.int (nI c), .int (nI (zSN C 8))] lHL_whole ⟨zw_810, zw_811⟩ rfl rfl (Nat.le_of_ble_eq_true rfl) (by decide) ⟨hlen, hlen⟩ hG ⟨Nat.zero_le _, Nat.zero_le _⟩ w1 dL_yarns_384 ?_
                        refine z_imul dL_yarns_387 ?_
                        refine z_icmp_ne (tgt := 425) dL_yarns_388 (by decide) (fun c_388 => ?_) (fun c_388 => ?_)
                        · exact absurd c_388 (fun q9 => q9 (by rw [hC, pk_mul]))
                        · skip
                          refine z_iload_n 1 dL_yarns_391 rfl rfl ?_
                          refine z_if_ne (tgt := 425) dL_yarns_392 (by decide) (fun c_392 => ?_) (fun c_392 => ?_)
                          · exact absurd c_392 (fun q9 => q9 (by rw [hx_y, hET, Int32.sub_self]))
                          · skip
                            refine z_iload 5 dL_yarns_395 rfl ?_
                            refine z_if_ne (tgt := 412) dL_yarns_397 (by decide) (fun c_397 => ?_) (fun c_397 => ?_)
                            · skip
                              refine z_aload_n 2 dL_yarns_412 rfl rfl ?_
                              refine z_callV (N := mX9_rowsPossible) 0 [] [] lX9_rowsPossible ⟨zw_890, zw_891, zw_892⟩ rfl e0 rfl rfl (Nat.le_of_ble_eq_true rfl) (by decide) ⟨hlen, hlen⟩ ⟨Nat.zero_le _, Nat.zero_le _⟩ (fun _ => rfl) hrp dL_yarns_413 ?_
                              refine z_iload 0 dL_yarns_416 rfl ?_
                              refine z_icmp_ge (tgt := 425) dL_yarns_418 (by decide) (fun c_418 => ?_) (fun c_418 => ?_)
                              · exact absurd c_418 (nI_ge (hP1 (m_z_ne_t hls c_397)) (by omega))
                              · skip
                                refine z_iconst (v := 1) dL_yarns_421 (by decide) ?_
                                refine z_goto (tgt := 426) dL_yarns_422 (by decide) ?_
                                exact z_zret rfl (by rfl) dL_yarns_426 (zo_i ho9 (by rfl)) (zo_h hh9 (by rfl)) (Nat.zero_le _) (Nat.zero_le _)
                            · skip
                              refine z_aload_n 2 dL_yarns_400 rfl rfl ?_
                              refine z_callV (N := mX9_rowsPossible) 0 [] [] lX9_rowsPossible ⟨zw_890, zw_891, zw_892⟩ rfl e0 rfl rfl (Nat.le_of_ble_eq_true rfl) (by decide) ⟨hlen, hlen⟩ ⟨Nat.zero_le _, Nat.zero_le _⟩ (fun _ => rfl) hrp dL_yarns_401 ?_
                              refine z_iload 0 dL_yarns_404 rfl ?_
                              refine z_icmp_ne (tgt := 425) dL_yarns_406 (by decide) (fun c_406 => ?_) (fun c_406 => ?_)
                              · exact absurd c_406 (fun q9 => q9 (by rw [hP0 (m_z_ne_f hls c_397)]))
                              · skip
                                refine z_goto (tgt := 421) dL_yarns_409 (by decide) ?_
                                refine z_iconst (v := 1) dL_yarns_421 (by decide) ?_
                                refine z_goto (tgt := 426) dL_yarns_422 (by decide) ?_
                                exact z_zret rfl (by rfl) dL_yarns_426 (zo_i ho9 (by rfl)) (zo_h hh9 (by rfl)) (Nat.zero_le _) (Nat.zero_le _)
                  · skip
                    have hx_y := zlt' (by omega) hk_y c_330
                    refine z_iload_n 1 dL_yarns_333 rfl rfl ?_
                    refine z_aload_n 2 dL_yarns_334 rfl rfl ?_
                    refine z_iconst (v := 0) dL_yarns_335 (by decide) ?_
                    refine z_callSH (N := mL_whole) 2 [.ref 0, .int 0] [.int (nI (zSN E 8) - nI (zSN (fun j => c + T (w + j)) (y - w)))] lHL_whole ⟨zw_810, zw_811⟩ rfl rfl (Nat.le_of_ble_eq_true rfl) (by decide) ⟨hlen, hlen⟩ hG ⟨Nat.zero_le _, Nat.zero_le _⟩ w0 dL_yarns_336 ?_
                    refine z_aload_n 2 dL_yarns_339 rfl rfl ?_
                    refine z_iload 0 dL_yarns_340 rfl ?_
                    refine z_callSH (N := mL_shuttlesFor) 2 [.ref 0, .int (nI y)] [.int (nI c), .int (nI (zSN E 8) - nI (zSN (fun j => c + T (w + j)) (y - w)))] lHL_shuttlesFor ⟨zw_882, zw_883⟩ rfl rfl (Nat.le_of_ble_eq_true rfl) (by decide) ⟨hlen, hlen⟩ hG ⟨Nat.zero_le _, Nat.zero_le _⟩ (hsh y (by omega)) dL_yarns_342 ?_
                    refine z_iadd dL_yarns_345 ?_
                    refine z_isub dL_yarns_346 ?_
                    refine z_top (v2 := .int (nI (zSN E 8) - nI (zSN (fun j => c + T (w + j)) (y + 1 - w)))) (by rw [show y + 1 - w = (y - w) + 1 by omega, show zSN (fun j => c + T (w + j)) ((y - w) + 1) = zSN (fun j => c + T (w + j)) (y - w) + (c + T (w + (y - w))) from rfl, show w + (y - w) = y by omega, nI_add, p_subs]) ?_
                    refine z_istore_n (lv' := [(3, .int (nI (zSN E 8) - nI (zSN (fun j => c + T (w + j)) (y + 1 - w)))), (6, .int (nI y)), (0, .ref 0), (1, .int (nI (zSN K cnt) - nI (zSN W 8))), (2, .int (nI (zSN C 8))), (4, .int (nI (zSN (fun v => E v - pLe q n v cnt) 8))), (5, .int 1)]) dL_yarns_347 rfl (by decide) rfl ?_
                    refine z_iinc (v := nI (y + 1)) (lv' := [(6, .int (nI (y + 1))), (3, .int (nI (zSN E 8) - nI (zSN (fun j => c + T (w + j)) (y + 1 - w)))), (0, .ref 0), (1, .int (nI (zSN K cnt) - nI (zSN W 8))), (2, .int (nI (zSN C 8))), (4, .int (nI (zSN (fun v => E v - pLe q n v cnt) 8))), (5, .int 1)]) 1 dL_yarns_348 rfl (nI_1 y) (by decide) rfl ?_
                    refine z_goto (tgt := 323) dL_yarns_351 (by decide) ?_
                    refine z_sub [0, 1, 2, 3, 4, 5, 6] (lv' := [(6, .int (nI (y + 1))), (3, .int (nI (zSN E 8) - nI (zSN (fun j => c + T (w + j)) (y + 1 - w)))), (0, .ref 0), (1, .int (nI (zSN K cnt) - nI (zSN W 8))), (2, .int (nI (zSN C 8))), (4, .int (nI (zSN (fun v => E v - pLe q n v cnt) 8))), (5, .int 1)]) rfl ?_
                    refine z_eqs (lv2 := [(6, .int (nI (y + 1))), (3, .int (nI (zSN E 8) - nI (zSN (fun j => c + T (w + j)) ((y + 1) - w)))), (0, .ref 0), (1, .int (nI (zSN K cnt) - nI (zSN W 8))), (2, .int (nI (zSN C 8))), (4, .int (nI (zSN (fun v => E v - pLe q n v cnt) 8))), (5, .int 1)]) (h2 := H) (by rfl) (by rfl) ?_
                    exact ih323 (y + 1) (by omega) (by omega) (by omega)
              refine z_sub [0, 4, 2, 1, 3, 5, 6] (lv' := [(6, .int (nI w)), (3, .int (nI (zSN E v))), (0, .ref 0), (1, .int (nI (zSN K cnt) - nI (zSN W v))), (2, .int (nI (zSN C v))), (4, .int (nI (zSN (fun v => E v - pLe q n v cnt) v))), (5, .int 1)]) rfl ?_
              refine z_eqs (lv2 := [(6, .int (nI w)), (3, .int (nI (zSN E 8) - nI (zSN (fun j => c + T (w + j)) (w - w)))), (0, .ref 0), (1, .int (nI (zSN K cnt) - nI (zSN W 8))), (2, .int (nI (zSN C 8))), (4, .int (nI (zSN (fun v => E v - pLe q n v cnt) 8))), (5, .int 1)]) (h2 := H) (by rw [hx_v, Nat.sub_self, show nI (zSN E 8) - nI (zSN (fun j => c + T (w + j)) 0) = nI (zSN E 8) from p_sub0 _]) (by rfl) ?_
              exact L323_3 (r + 1) w hw (by omega) (Nat.le_refl _)
            · skip
              have hx_v := zlt' (by omega) hk_v c_121
              refine z_iload 6 dL_yarns_124 rfl ?_
              refine z_if_eq (tgt := 316) dL_yarns_126 (by decide) (fun c_126 => ?_) (fun c_126 => ?_)
              · exact absurd c_126 (by decide)
              · skip
                refine z_iconst (v := 0) dL_yarns_129 (by decide) ?_
                refine z_istore (lv' := [(7, .int 0), (6, .int (nI v)), (1, .int (nI (zSN K cnt) - nI (zSN W v))), (0, .ref 0), (2, .int (nI (zSN C v))), (3, .int (nI (zSN E v))), (4, .int (nI (zSN (fun v => E v - pLe q n v cnt) v))), (5, .int 1)]) dL_yarns_130 (by decide) rfl ?_
                refine z_iconst (v := 0) dL_yarns_132 (by decide) ?_
                refine z_istore (lv' := [(8, .int 0), (7, .int 0), (6, .int (nI v)), (1, .int (nI (zSN K cnt) - nI (zSN W v))), (0, .ref 0), (2, .int (nI (zSN C v))), (3, .int (nI (zSN E v))), (4, .int (nI (zSN (fun v => E v - pLe q n v cnt) v))), (5, .int 1)]) dL_yarns_133 (by decide) rfl ?_
                refine z_iconst (v := 0) dL_yarns_135 (by decide) ?_
                refine z_istore (lv' := [(9, .int 0), (8, .int 0), (7, .int 0), (6, .int (nI v)), (1, .int (nI (zSN K cnt) - nI (zSN W v))), (0, .ref 0), (2, .int (nI (zSN C v))), (3, .int (nI (zSN E v))), (4, .int (nI (zSN (fun v => E v - pLe q n v cnt) v))), (5, .int 1)]) dL_yarns_136 (by decide) rfl ?_
                have L138_4 : ∀ (d l : Nat), l ≤ cnt → cnt + 1 ≤ l + d → zPW G mL_yarns 0 0 o9 h9 0 0 138 [(9, .int (nI l)), (7, .int (nI (zSN (fun l => if q l = v then n l else 0) l))), (8, .int (nI (zCt (fun l => q l == v) l))), (6, .int (nI v)), (1, .int (nI (zSN K cnt) - nI (zSN W v))), (0, .ref 0), (2, .int (nI (zSN C v))), (3, .int (nI (zSN E v))), (4, .int (nI (zSN (fun v => E v - pLe q n v cnt) v))), (5, .int 1)] [] H := by
                  intro d
                  induction d with
                  | zero => intro l hk hd; exact absurd hd (by omega)
                  | succ d ih =>
                    intro l hk_l hd_l
                    have ih138 := ih
                    clear ih
                    refine z_iload 0 dL_yarns_138 rfl ?_
                    refine z_aload_n 5 dL_yarns_140 rfl rfl ?_
                    refine z_iconst (v := 3) dL_yarns_141 (by decide) ?_
                    refine z_callSH (N := mL_whole) 2 [.ref 0, .int 3] [.int (nI l)] lHL_whole ⟨zw_810, zw_811⟩ rfl rfl (Nat.le_of_ble_eq_true rfl) (by decide) ⟨hlen, hlen⟩ hG ⟨Nat.zero_le _, Nat.zero_le _⟩ w3 dL_yarns_142 ?_
                    refine z_icmp_ge (tgt := 204) dL_yarns_145 (by decide) (fun c_145 => ?_) (fun c_145 => ?_)
                    · skip
                      have hx_l := zge (by omega) hk_l c_145
                      refine z_iload_n 4 dL_yarns_204 rfl rfl ?_
                      refine z_aload_n 5 dL_yarns_205 rfl rfl ?_
                      refine z_iload 3 dL_yarns_206 rfl ?_
                      refine z_iconst (v := 1) dL_yarns_208 (by decide) ?_
                      refine z_callSH (N := mL_colorOf) 3 [.ref 0, .int (nI v), .int 1] [.int (nI (zSN K cnt) - nI (zSN W v))] lHL_colorOf ⟨zw_853, zw_854⟩ rfl rfl (Nat.le_of_ble_eq_true rfl) (by decide) ⟨hlen, hlen⟩ hG ⟨Nat.zero_le _, Nat.zero_le _⟩ (k1 v (by omega)) dL_yarns_209 ?_
                      refine z_isub dL_yarns_212 ?_
                      refine z_top (v2 := .int (nI (zSN K cnt) - nI (zSN W (v + 1)))) (by exact congrArg Value.int (p_subs _ _ _)) ?_
                      refine z_istore_n (lv' := [(1, .int (nI (zSN K cnt) - nI (zSN W (v + 1)))), (9, .int (nI l)), (7, .int (nI (zSN (fun l => if q l = v then n l else 0) l))), (8, .int (nI (zCt (fun l => q l == v) l))), (6, .int (nI v)), (0, .ref 0), (2, .int (nI (zSN C v))), (3, .int (nI (zSN E v))), (4, .int (nI (zSN (fun v => E v - pLe q n v cnt) v))), (5, .int 1)]) dL_yarns_213 rfl (by decide) rfl ?_
                      refine z_iload_n 6 dL_yarns_214 rfl rfl ?_
                      refine z_aload_n 5 dL_yarns_215 rfl rfl ?_
                      refine z_iload 4 dL_yarns_216 rfl ?_
                      refine z_iconst (v := 0) dL_yarns_218 (by decide) ?_
                      refine z_callSH (N := mL_colorOf) 3 [.ref 0, .int (nI v), .int 0] [.int (nI (zSN C v))] lHL_colorOf ⟨zw_853, zw_854⟩ rfl rfl (Nat.le_of_ble_eq_true rfl) (by decide) ⟨hlen, hlen⟩ hG ⟨Nat.zero_le _, Nat.zero_le _⟩ (k0 v (by omega)) dL_yarns_219 ?_
                      refine z_iadd dL_yarns_222 ?_
                      refine z_top (v2 := .int (nI (zSN C (v + 1)))) (by rw [zSN_s]) ?_
                      refine z_istore_n (lv' := [(2, .int (nI (zSN C (v + 1)))), (1, .int (nI (zSN K cnt) - nI (zSN W (v + 1)))), (9, .int (nI l)), (7, .int (nI (zSN (fun l => if q l = v then n l else 0) l))), (8, .int (nI (zCt (fun l => q l == v) l))), (6, .int (nI v)), (0, .ref 0), (3, .int (nI (zSN E v))), (4, .int (nI (zSN (fun v => E v - pLe q n v cnt) v))), (5, .int 1)]) dL_yarns_223 rfl (by decide) rfl ?_
                      refine z_iload_n 7 dL_yarns_224 rfl rfl ?_
                      refine z_aload_n 6 dL_yarns_225 rfl rfl ?_
                      refine z_iload 5 dL_yarns_226 rfl ?_
                      refine z_iconst (v := 5) dL_yarns_228 (by decide) ?_
                      refine z_callSH (N := mL_colorOf) 3 [.ref 0, .int (nI v), .int 5] [.int (nI (zSN E v))] lHL_colorOf ⟨zw_853, zw_854⟩ rfl rfl (Nat.le_of_ble_eq_true rfl) (by decide) ⟨hlen, hlen⟩ hG ⟨Nat.zero_le _, Nat.zero_le _⟩ (k5 v (by omega)) dL_yarns_229 ?_
                      refine z_iadd dL_yarns_232 ?_
                      refine z_top (v2 := .int (nI (zSN E (v + 1)))) (by rw [zSN_s]) ?_
                      refine z_istore_n (lv' := [(3, .int (nI (zSN E (v + 1)))), (2, .int (nI (zSN C (v + 1)))), (1, .int (nI (zSN K cnt) - nI (zSN W (v + 1)))), (9, .int (nI l)), (7, .int (nI (zSN (fun l => if q l = v then n l else 0) l))), (8, .int (nI (zCt (fun l => q l == v) l))), (6, .int (nI v)), (0, .ref 0), (4, .int (nI (zSN (fun v => E v - pLe q n v cnt) v))), (5, .int 1)]) dL_yarns_233 rfl (by decide) rfl ?_
                      refine z_iload 8 dL_yarns_234 rfl ?_
                      refine z_aload_n 7 dL_yarns_236 rfl rfl ?_
                      refine z_iload 6 dL_yarns_237 rfl ?_
                      refine z_callSH (N := mL_missing) 2 [.ref 0, .int (nI v)] [.int (nI (zSN (fun v => E v - pLe q n v cnt) v))] lHL_missing ⟨zw_872, zw_873⟩ rfl rfl (Nat.le_of_ble_eq_true rfl) (by decide) ⟨hlen, hlen⟩ hG ⟨Nat.zero_le _, Nat.zero_le _⟩ (hmi v (by omega)) dL_yarns_239 ?_
                      refine z_iadd dL_yarns_242 ?_
                      refine z_top (v2 := .int (nI (zSN (fun v => E v - pLe q n v cnt) (v + 1)))) (by exact congrArg Value.int (zSN_s (fun v => E v - pLe q n v cnt) v)) ?_
                      refine z_istore (lv' := [(4, .int (nI (zSN (fun v => E v - pLe q n v cnt) (v + 1)))), (3, .int (nI (zSN E (v + 1)))), (2, .int (nI (zSN C (v + 1)))), (1, .int (nI (zSN K cnt) - nI (zSN W (v + 1)))), (9, .int (nI l)), (7, .int (nI (zSN (fun l => if q l = v then n l else 0) l))), (8, .int (nI (zCt (fun l => q l == v) l))), (6, .int (nI v)), (0, .ref 0), (5, .int 1)]) dL_yarns_243 (by decide) rfl ?_
                      refine z_aload_n 8 dL_yarns_245 rfl rfl ?_
                      refine z_iload 7 dL_yarns_246 rfl ?_
                      refine z_iconst (v := 2) dL_yarns_248 (by decide) ?_
                      refine z_callSH (N := mL_colorOf) 3 [.ref 0, .int (nI v), .int 2] [] lHL_colorOf ⟨zw_853, zw_854⟩ rfl rfl (Nat.le_of_ble_eq_true rfl) (by decide) ⟨hlen, hlen⟩ hG ⟨Nat.zero_le _, Nat.zero_le _⟩ (k2 v (by omega)) dL_yarns_249 ?_
                      refine z_iload 5 dL_yarns_252 rfl ?_
                      refine z_icmp_ne (tgt := 307) dL_yarns_254 (by decide) (fun c_254 => ?_) (fun c_254 => ?_)
                      · exact absurd c_254 (fun q9 => q9 (by rw [hx_l]; rfl))
                      · skip
                        refine z_aload_n 8 dL_yarns_257 rfl rfl ?_
                        refine z_iload 7 dL_yarns_258 rfl ?_
                        refine z_iconst (v := 3) dL_yarns_260 (by decide) ?_
                        refine z_callSH (N := mL_colorOf) 3 [.ref 0, .int (nI v), .int 3] [] lHL_colorOf ⟨zw_853, zw_854⟩ rfl rfl (Nat.le_of_ble_eq_true rfl) (by decide) ⟨hlen, hlen⟩ hG ⟨Nat.zero_le _, Nat.zero_le _⟩ (k3 v (by omega)) dL_yarns_261 ?_
                        refine z_iload 6 dL_yarns_264 rfl ?_
                        refine z_icmp_ne (tgt := 307) dL_yarns_266 (by decide) (fun c_266 => ?_) (fun c_266 => ?_)
                        · exact absurd c_266 (fun q9 => q9 (by rw [hx_l]))
                        · skip
                          refine z_aload_n 8 dL_yarns_269 rfl rfl ?_
                          refine z_iload 7 dL_yarns_270 rfl ?_
                          refine z_callSH (N := mL_missing) 2 [.ref 0, .int (nI v)] [] lHL_missing ⟨zw_872, zw_873⟩ rfl rfl (Nat.le_of_ble_eq_true rfl) (by decide) ⟨hlen, hlen⟩ hG ⟨Nat.zero_le _, Nat.zero_le _⟩ (hmi v (by omega)) dL_yarns_272 ?_
                          refine z_if_ne (tgt := 282) dL_yarns_275 (by decide) (fun c_275 => ?_) (fun c_275 => ?_)
                          · skip
                            refine z_iconst (v := 0) dL_yarns_282 (by decide) ?_
                            refine z_aload_n 8 dL_yarns_283 rfl rfl ?_
                            refine z_iload 7 dL_yarns_284 rfl ?_
                            refine z_iconst (v := 5) dL_yarns_286 (by decide) ?_
                            refine z_callSH (N := mL_colorOf) 3 [.ref 0, .int (nI v), .int 5] [.int 0] lHL_colorOf ⟨zw_853, zw_854⟩ rfl rfl (Nat.le_of_ble_eq_true rfl) (by decide) ⟨hlen, hlen⟩ hG ⟨Nat.zero_le _, Nat.zero_le _⟩ (k5 v (by omega)) dL_yarns_287 ?_
                            refine z_iload 5 dL_yarns_290 rfl ?_
                            refine z_icmp_gt (tgt := 299) dL_yarns_292 (by decide) (fun c_292 => ?_) (fun c_292 => ?_)
                            · skip
                              refine z_iconst (v := 0) dL_yarns_299 (by decide) ?_
                              refine z_icmp_ne (tgt := 307) dL_yarns_300 (by decide) (fun c_300 => ?_) (fun c_300 => ?_)
                              · exfalso; first | exact c_300 rfl | exact p_eqv (by have := hE v; omega) (by have := hLe v; omega) c_275 (by rw [hx_l] at c_292; exact c_292) | exact p_eqw (by have := hE v; omega) (by have := hLe v; omega) c_275 (by rw [hx_l] at c_292; exact c_292)
                              · skip
                                refine z_iconst (v := 1) dL_yarns_303 (by decide) ?_
                                refine z_goto (tgt := 308) dL_yarns_304 (by decide) ?_
                                refine z_istore (lv' := [(5, .int 1), (4, .int (nI (zSN (fun v => E v - pLe q n v cnt) (v + 1)))), (3, .int (nI (zSN E (v + 1)))), (2, .int (nI (zSN C (v + 1)))), (1, .int (nI (zSN K cnt) - nI (zSN W (v + 1)))), (9, .int (nI l)), (7, .int (nI (zSN (fun l => if q l = v then n l else 0) l))), (8, .int (nI (zCt (fun l => q l == v) l))), (6, .int (nI v)), (0, .ref 0)]) dL_yarns_308 (by decide) rfl ?_
                                refine z_iinc (v := nI (v + 1)) (lv' := [(6, .int (nI (v + 1))), (5, .int 1), (4, .int (nI (zSN (fun v => E v - pLe q n v cnt) (v + 1)))), (3, .int (nI (zSN E (v + 1)))), (2, .int (nI (zSN C (v + 1)))), (1, .int (nI (zSN K cnt) - nI (zSN W (v + 1)))), (9, .int (nI l)), (7, .int (nI (zSN (fun l => if q l = v then n l else 0) l))), (8, .int (nI (zCt (fun l => q l == v) l))), (0, .ref 0)]) 8 dL_yarns_310 rfl (nI_1 v) (by decide) rfl ?_
                                refine z_goto (tgt := 117) dL_yarns_313 (by decide) ?_
                                refine z_sub [0, 5, 9, 4, 3, 2, 1] (lv' := [(6, .int (nI (v + 1))), (1, .int (nI (zSN K cnt) - nI (zSN W (v + 1)))), (0, .ref 0), (2, .int (nI (zSN C (v + 1)))), (3, .int (nI (zSN E (v + 1)))), (4, .int (nI (zSN (fun v => E v - pLe q n v cnt) (v + 1)))), (5, .int 1)]) rfl ?_
                                refine z_eqs (lv2 := [(6, .int (nI (v + 1))), (1, .int (nI (zSN K cnt) - nI (zSN W (v + 1)))), (0, .ref 0), (2, .int (nI (zSN C (v + 1)))), (3, .int (nI (zSN E (v + 1)))), (4, .int (nI (zSN (fun v => E v - pLe q n v cnt) (v + 1)))), (5, .int 1)]) (h2 := H) (by rfl) (by rfl) ?_
                                exact ih117 (v + 1) (by omega) (by omega)
                            · skip
                              refine z_iconst (v := 1) dL_yarns_295 (by decide) ?_
                              refine z_goto (tgt := 300) dL_yarns_296 (by decide) ?_
                              refine z_icmp_ne (tgt := 307) dL_yarns_300 (by decide) (fun c_300 => ?_) (fun c_300 => ?_)
                              · exfalso; first | exact c_300 rfl | exact p_eqv (by have := hE v; omega) (by have := hLe v; omega) c_275 (by rw [hx_l] at c_292; exact c_292) | exact p_eqw (by have := hE v; omega) (by have := hLe v; omega) c_275 (by rw [hx_l] at c_292; exact c_292)
                              · skip
                                refine z_iconst (v := 1) dL_yarns_303 (by decide) ?_
                                refine z_goto (tgt := 308) dL_yarns_304 (by decide) ?_
                                refine z_istore (lv' := [(5, .int 1), (4, .int (nI (zSN (fun v => E v - pLe q n v cnt) (v + 1)))), (3, .int (nI (zSN E (v + 1)))), (2, .int (nI (zSN C (v + 1)))), (1, .int (nI (zSN K cnt) - nI (zSN W (v + 1)))), (9, .int (nI l)), (7, .int (nI (zSN (fun l => if q l = v then n l else 0) l))), (8, .int (nI (zCt (fun l => q l == v) l))), (6, .int (nI v)), (0, .ref 0)]) dL_yarns_308 (by decide) rfl ?_
                                refine z_iinc (v := nI (v + 1)) (lv' := [(6, .int (nI (v + 1))), (5, .int 1), (4, .int (nI (zSN (fun v => E v - pLe q n v cnt) (v + 1)))), (3, .int (nI (zSN E (v + 1)))), (2, .int (nI (zSN C (v + 1)))), (1, .int (nI (zSN K cnt) - nI (zSN W (v + 1)))), (9, .int (nI l)), (7, .int (nI (zSN (fun l => if q l = v then n l else 0) l))), (8, .int (nI (zCt (fun l => q l == v) l))), (0, .ref 0)]) 8 dL_yarns_310 rfl (nI_1 v) (by decide) rfl ?_
                                refine z_goto (tgt := 117) dL_yarns_313 (by decide) ?_
                                refine z_sub [0, 5, 9, 4, 3, 2, 1] (lv' := [(6, .int (nI (v + 1))), (1, .int (nI (zSN K cnt) - nI (zSN W (v + 1)))), (0, .ref 0), (2, .int (nI (zSN C (v + 1)))), (3, .int (nI (zSN E (v + 1)))), (4, .int (nI (zSN (fun v => E v - pLe q n v cnt) (v + 1)))), (5, .int 1)]) rfl ?_
                                refine z_eqs (lv2 := [(6, .int (nI (v + 1))), (1, .int (nI (zSN K cnt) - nI (zSN W (v + 1)))), (0, .ref 0), (2, .int (nI (zSN C (v + 1)))), (3, .int (nI (zSN E (v + 1)))), (4, .int (nI (zSN (fun v => E v - pLe q n v cnt) (v + 1)))), (5, .int 1)]) (h2 := H) (by rfl) (by rfl) ?_
                                exact ih117 (v + 1) (by omega) (by omega)
                          · skip
                            refine z_iconst (v := 1) dL_yarns_278 (by decide) ?_
                            refine z_goto (tgt := 283) dL_yarns_279 (by decide) ?_
                            refine z_aload_n 8 dL_yarns_283 rfl rfl ?_
                            refine z_iload 7 dL_yarns_284 rfl ?_
                            refine z_iconst (v := 5) dL_yarns_286 (by decide) ?_
                            refine z_callSH (N := mL_colorOf) 3 [.ref 0, .int (nI v), .int 5] [.int 1] lHL_colorOf ⟨zw_853, zw_854⟩ rfl rfl (Nat.le_of_ble_eq_true rfl) (by decide) ⟨hlen, hlen⟩ hG ⟨Nat.zero_le _, Nat.zero_le _⟩ (k5 v (by omega)) dL_yarns_287 ?_
                            refine z_iload 5 dL_yarns_290 rfl ?_
                            refine z_icmp_gt (tgt := 299) dL_yarns_292 (by decide) (fun c_292 => ?_) (fun c_292 => ?_)
                            · skip
                              refine z_iconst (v := 0) dL_yarns_299 (by decide) ?_
                              refine z_icmp_ne (tgt := 307) dL_yarns_300 (by decide) (fun c_300 => ?_) (fun c_300 => ?_)
                              · exfalso; first | exact c_300 rfl | exact p_eqv (by have := hE v; omega) (by have := hLe v; omega) c_275 (by rw [hx_l] at c_292; exact c_292) | exact p_eqw (by have := hE v; omega) (by have := hLe v; omega) c_275 (by rw [hx_l] at c_292; exact c_292)
                              · skip
                                refine z_iconst (v := 1) dL_yarns_303 (by decide) ?_
                                refine z_goto (tgt := 308) dL_yarns_304 (by decide) ?_
                                refine z_istore (lv' := [(5, .int 1), (4, .int (nI (zSN (fun v => E v - pLe q n v cnt) (v + 1)))), (3, .int (nI (zSN E (v + 1)))), (2, .int (nI (zSN C (v + 1)))), (1, .int (nI (zSN K cnt) - nI (zSN W (v + 1)))), (9, .int (nI l)), (7, .int (nI (zSN (fun l => if q l = v then n l else 0) l))), (8, .int (nI (zCt (fun l => q l == v) l))), (6, .int (nI v)), (0, .ref 0)]) dL_yarns_308 (by decide) rfl ?_
                                refine z_iinc (v := nI (v + 1)) (lv' := [(6, .int (nI (v + 1))), (5, .int 1), (4, .int (nI (zSN (fun v => E v - pLe q n v cnt) (v + 1)))), (3, .int (nI (zSN E (v + 1)))), (2, .int (nI (zSN C (v + 1)))), (1, .int (nI (zSN K cnt) - nI (zSN W (v + 1)))), (9, .int (nI l)), (7, .int (nI (zSN (fun l => if q l = v then n l else 0) l))), (8, .int (nI (zCt (fun l => q l == v) l))), (0, .ref 0)]) 8 dL_yarns_310 rfl (nI_1 v) (by decide) rfl ?_
                                refine z_goto (tgt := 117) dL_yarns_313 (by decide) ?_
                                refine z_sub [0, 5, 9, 4, 3, 2, 1] (lv' := [(6, .int (nI (v + 1))), (1, .int (nI (zSN K cnt) - nI (zSN W (v + 1)))), (0, .ref 0), (2, .int (nI (zSN C (v + 1)))), (3, .int (nI (zSN E (v + 1)))), (4, .int (nI (zSN (fun v => E v - pLe q n v cnt) (v + 1)))), (5, .int 1)]) rfl ?_
                                refine z_eqs (lv2 := [(6, .int (nI (v + 1))), (1, .int (nI (zSN K cnt) - nI (zSN W (v + 1)))), (0, .ref 0), (2, .int (nI (zSN C (v + 1)))), (3, .int (nI (zSN E (v + 1)))), (4, .int (nI (zSN (fun v => E v - pLe q n v cnt) (v + 1)))), (5, .int 1)]) (h2 := H) (by rfl) (by rfl) ?_
                                exact ih117 (v + 1) (by omega) (by omega)
                            · skip
                              refine z_iconst (v := 1) dL_yarns_295 (by decide) ?_
                              refine z_goto (tgt := 300) dL_yarns_296 (by decide) ?_
                              refine z_icmp_ne (tgt := 307) dL_yarns_300 (by decide) (fun c_300 => ?_) (fun c_300 => ?_)
                              · exfalso; first | exact c_300 rfl | exact p_eqv (by have := hE v; omega) (by have := hLe v; omega) c_275 (by rw [hx_l] at c_292; exact c_292) | exact p_eqw (by have := hE v; omega) (by have := hLe v; omega) c_275 (by rw [hx_l] at c_292; exact c_292)
                              · skip
                                refine z_iconst (v := 1) dL_yarns_303 (by decide) ?_
                                refine z_goto (tgt := 308) dL_yarns_304 (by decide) ?_
                                refine z_istore (lv' := [(5, .int 1), (4, .int (nI (zSN (fun v => E v - pLe q n v cnt) (v + 1)))), (3, .int (nI (zSN E (v + 1)))), (2, .int (nI (zSN C (v + 1)))), (1, .int (nI (zSN K cnt) - nI (zSN W (v + 1)))), (9, .int (nI l)), (7, .int (nI (zSN (fun l => if q l = v then n l else 0) l))), (8, .int (nI (zCt (fun l => q l == v) l))), (6, .int (nI v)), (0, .ref 0)]) dL_yarns_308 (by decide) rfl ?_
                                refine z_iinc (v := nI (v + 1)) (lv' := [(6, .int (nI (v + 1))), (5, .int 1), (4, .int (nI (zSN (fun v => E v - pLe q n v cnt) (v + 1)))), (3, .int (nI (zSN E (v + 1)))), (2, .int (nI (zSN C (v + 1)))), (1, .int (nI (zSN K cnt) - nI (zSN W (v + 1)))), (9, .int (nI l)), (7, .int (nI (zSN (fun l => if q l = v then n l else 0) l))), (8, .int (nI (zCt (fun l => q l == v) l))), (0, .ref 0)]) 8 dL_yarns_310 rfl (nI_1 v) (by decide) rfl ?_
                                refine z_goto (tgt := 117) dL_yarns_313 (by decide) ?_
                                refine z_sub [0, 5, 9, 4, 3, 2, 1] (lv' := [(6, .int (nI (v + 1))), (1, .int (nI (zSN K cnt) - nI (zSN W (v + 1)))), (0, .ref 0), (2, .int (nI (zSN C (v + 1)))), (3, .int (nI (zSN E (v + 1)))), (4, .int (nI (zSN (fun v => E v - pLe q n v cnt) (v + 1)))), (5, .int 1)]) rfl ?_
                                refine z_eqs (lv2 := [(6, .int (nI (v + 1))), (1, .int (nI (zSN K cnt) - nI (zSN W (v + 1)))), (0, .ref 0), (2, .int (nI (zSN C (v + 1)))), (3, .int (nI (zSN E (v + 1)))), (4, .int (nI (zSN (fun v => E v - pLe q n v cnt) (v + 1)))), (5, .int 1)]) (h2 := H) (by rfl) (by rfl) ?_
                                exact ih117 (v + 1) (by omega) (by omega)
                    · skip
                      have hx_l := zlt' (by omega) hk_l c_145
                      refine z_iload 1 dL_yarns_148 rfl ?_
                      refine z_aload_n 5 dL_yarns_150 rfl rfl ?_
                      refine z_iload 0 dL_yarns_151 rfl ?_
                      refine z_iconst (v := 0) dL_yarns_153 (by decide) ?_
                      refine z_callSH (N := mL_lotOf) 3 [.ref 0, .int (nI l), .int 0] [.int (nI (zSN (fun l => if q l = v then n l else 0) l))] lHL_lotOf ⟨zw_842, zw_843⟩ rfl rfl (Nat.le_of_ble_eq_true rfl) (by decide) ⟨hlen, hlen⟩ hG ⟨Nat.zero_le _, Nat.zero_le _⟩ (l0 l (by omega)) dL_yarns_154 ?_
                      refine z_iload 3 dL_yarns_157 rfl ?_
                      refine z_icmp_ne (tgt := 172) dL_yarns_159 (by decide) (fun c_159 => ?_) (fun c_159 => ?_)
                      · skip
                        refine z_iconst (v := 0) dL_yarns_172 (by decide) ?_
                        refine z_iadd dL_yarns_173 ?_
                        refine z_top (v2 := .int (nI (zSN (fun l => if q l = v then n l else 0) (l + 1)))) (by first | exact p_if_t (hq l hx_l) hx_v c_159 | exact p_if_f (hq l hx_l) hx_v c_159) ?_
                        refine z_istore (lv' := [(7, .int (nI (zSN (fun l => if q l = v then n l else 0) (l + 1)))), (9, .int (nI l)), (8, .int (nI (zCt (fun l => q l == v) l))), (6, .int (nI v)), (1, .int (nI (zSN K cnt) - nI (zSN W v))), (0, .ref 0), (2, .int (nI (zSN C v))), (3, .int (nI (zSN E v))), (4, .int (nI (zSN (fun v => E v - pLe q n v cnt) v))), (5, .int 1)]) dL_yarns_174 (by decide) rfl ?_
                        refine z_iload 2 dL_yarns_176 rfl ?_
                        refine z_aload_n 5 dL_yarns_178 rfl rfl ?_
                        refine z_iload 1 dL_yarns_179 rfl ?_
                        refine z_iconst (v := 0) dL_yarns_181 (by decide) ?_
                        refine z_callSH (N := mL_lotOf) 3 [.ref 0, .int (nI l), .int 0] [.int (nI (zCt (fun l => q l == v) l))] lHL_lotOf ⟨zw_842, zw_843⟩ rfl rfl (Nat.le_of_ble_eq_true rfl) (by decide) ⟨hlen, hlen⟩ hG ⟨Nat.zero_le _, Nat.zero_le _⟩ (l0 l (by omega)) dL_yarns_182 ?_
                        refine z_iload 3 dL_yarns_185 rfl ?_
                        refine z_icmp_ne (tgt := 194) dL_yarns_187 (by decide) (fun c_187 => ?_) (fun c_187 => ?_)
                        · skip
                          refine z_iconst (v := 0) dL_yarns_194 (by decide) ?_
                          refine z_iadd dL_yarns_195 ?_
                          refine z_top (v2 := .int (nI (zCt (fun l => q l == v) (l + 1)))) (by first | exact p_ct_t (hq l hx_l) hx_v c_187 | exact p_ct_f (hq l hx_l) hx_v c_187) ?_
                          refine z_istore (lv' := [(8, .int (nI (zCt (fun l => q l == v) (l + 1)))), (7, .int (nI (zSN (fun l => if q l = v then n l else 0) (l + 1)))), (9, .int (nI l)), (6, .int (nI v)), (1, .int (nI (zSN K cnt) - nI (zSN W v))), (0, .ref 0), (2, .int (nI (zSN C v))), (3, .int (nI (zSN E v))), (4, .int (nI (zSN (fun v => E v - pLe q n v cnt) v))), (5, .int 1)]) dL_yarns_196 (by decide) rfl ?_
                          refine z_iinc (v := nI (l + 1)) (lv' := [(9, .int (nI (l + 1))), (8, .int (nI (zCt (fun l => q l == v) (l + 1)))), (7, .int (nI (zSN (fun l => if q l = v then n l else 0) (l + 1)))), (6, .int (nI v)), (1, .int (nI (zSN K cnt) - nI (zSN W v))), (0, .ref 0), (2, .int (nI (zSN C v))), (3, .int (nI (zSN E v))), (4, .int (nI (zSN (fun v => E v - pLe q n v cnt) v))), (5, .int 1)]) 2 dL_yarns_198 rfl (nI_1 l) (by decide) rfl ?_
                          refine z_goto (tgt := 138) dL_yarns_201 (by decide) ?_
                          refine z_sub [0, 2, 1, 3, 4, 5, 6, 7, 8, 9] (lv' := [(9, .int (nI (l + 1))), (7, .int (nI (zSN (fun l => if q l = v then n l else 0) (l + 1)))), (8, .int (nI (zCt (fun l => q l == v) (l + 1)))), (6, .int (nI v)), (1, .int (nI (zSN K cnt) - nI (zSN W v))), (0, .ref 0), (2, .int (nI (zSN C v))), (3, .int (nI (zSN E v))), (4, .int (nI (zSN (fun v => E v - pLe q n v cnt) v))), (5, .int 1)]) rfl ?_
                          refine z_eqs (lv2 := [(9, .int (nI (l + 1))), (7, .int (nI (zSN (fun l => if q l = v then n l else 0) (l + 1)))), (8, .int (nI (zCt (fun l => q l == v) (l + 1)))), (6, .int (nI v)), (1, .int (nI (zSN K cnt) - nI (zSN W v))), (0, .ref 0), (2, .int (nI (zSN C v))), (3, .int (nI (zSN E v))), (4, .int (nI (zSN (fun v => E v - pLe q n v cnt) v))), (5, .int 1)]) (h2 := H) (by rfl) (by rfl) ?_
                          exact ih138 (l + 1) (by omega) (by omega)
                        · skip
                          refine z_iconst (v := 1) dL_yarns_190 (by decide) ?_
                          refine z_goto (tgt := 195) dL_yarns_191 (by decide) ?_
                          refine z_iadd dL_yarns_195 ?_
                          refine z_top (v2 := .int (nI (zCt (fun l => q l == v) (l + 1)))) (by first | exact p_ct_t (hq l hx_l) hx_v c_187 | exact p_ct_f (hq l hx_l) hx_v c_187) ?_
                          refine z_istore (lv' := [(8, .int (nI (zCt (fun l => q l == v) (l + 1)))), (7, .int (nI (zSN (fun l => if q l = v then n l else 0) (l + 1)))), (9, .int (nI l)), (6, .int (nI v)), (1, .int (nI (zSN K cnt) - nI (zSN W v))), (0, .ref 0), (2, .int (nI (zSN C v))), (3, .int (nI (zSN E v))), (4, .int (nI (zSN (fun v => E v - pLe q n v cnt) v))), (5, .int 1)]) dL_yarns_196 (by decide) rfl ?_
                          refine z_iinc (v := nI (l + 1)) (lv' := [(9, .int (nI (l + 1))), (8, .int (nI (zCt (fun l => q l == v) (l + 1)))), (7, .int (nI (zSN (fun l => if q l = v then n l else 0) (l + 1)))), (6, .int (nI v)), (1, .int (nI (zSN K cnt) - nI (zSN W v))), (0, .ref 0), (2, .int (nI (zSN C v))), (3, .int (nI (zSN E v))), (4, .int (nI (zSN (fun v => E v - pLe q n v cnt) v))), (5, .int 1)]) 2 dL_yarns_198 rfl (nI_1 l) (by decide) rfl ?_
                          refine z_goto (tgt := 138) dL_yarns_201 (by decide) ?_
                          refine z_sub [0, 2, 1, 3, 4, 5, 6, 7, 8, 9] (lv' := [(9, .int (nI (l + 1))), (7, .int (nI (zSN (fun l => if q l = v then n l else 0) (l + 1)))), (8, .int (nI (zCt (fun l => q l == v) (l + 1)))), (6, .int (nI v)), (1, .int (nI (zSN K cnt) - nI (zSN W v))), (0, .ref 0), (2, .int (nI (zSN C v))), (3, .int (nI (zSN E v))), (4, .int (nI (zSN (fun v => E v - pLe q n v cnt) v))), (5, .int 1)]) rfl ?_
                          refine z_eqs (lv2 := [(9, .int (nI (l + 1))), (7, .int (nI (zSN (fun l => if q l = v then n l else 0) (l + 1)))), (8, .int (nI (zCt (fun l => q l == v) (l + 1)))), (6, .int (nI v)), (1, .int (nI (zSN K cnt) - nI (zSN W v))), (0, .ref 0), (2, .int (nI (zSN C v))), (3, .int (nI (zSN E v))), (4, .int (nI (zSN (fun v => E v - pLe q n v cnt) v))), (5, .int 1)]) (h2 := H) (by rfl) (by rfl) ?_
                          exact ih138 (l + 1) (by omega) (by omega)
                      · skip
                        refine z_aload_n 5 dL_yarns_162 rfl rfl ?_
                        refine z_iload 0 dL_yarns_163 rfl ?_
                        refine z_iconst (v := 2) dL_yarns_165 (by decide) ?_
                        refine z_callSH (N := mL_lotOf) 3 [.ref 0, .int (nI l), .int 2] [.int (nI (zSN (fun l => if q l = v then n l else 0) l))] lHL_lotOf ⟨zw_842, zw_843⟩ rfl rfl (Nat.le_of_ble_eq_true rfl) (by decide) ⟨hlen, hlen⟩ hG ⟨Nat.zero_le _, Nat.zero_le _⟩ (l2 l (by omega)) dL_yarns_166 ?_
                        refine z_goto (tgt := 173) dL_yarns_169 (by decide) ?_
                        refine z_iadd dL_yarns_173 ?_
                        refine z_top (v2 := .int (nI (zSN (fun l => if q l = v then n l else 0) (l + 1)))) (by first | exact p_if_t (hq l hx_l) hx_v c_159 | exact p_if_f (hq l hx_l) hx_v c_159) ?_
                        refine z_istore (lv' := [(7, .int (nI (zSN (fun l => if q l = v then n l else 0) (l + 1)))), (9, .int (nI l)), (8, .int (nI (zCt (fun l => q l == v) l))), (6, .int (nI v)), (1, .int (nI (zSN K cnt) - nI (zSN W v))), (0, .ref 0), (2, .int (nI (zSN C v))), (3, .int (nI (zSN E v))), (4, .int (nI (zSN (fun v => E v - pLe q n v cnt) v))), (5, .int 1)]) dL_yarns_174 (by decide) rfl ?_
                        refine z_iload 2 dL_yarns_176 rfl ?_
                        refine z_aload_n 5 dL_yarns_178 rfl rfl ?_
                        refine z_iload 1 dL_yarns_179 rfl ?_
                        refine z_iconst (v := 0) dL_yarns_181 (by decide) ?_
                        refine z_callSH (N := mL_lotOf) 3 [.ref 0, .int (nI l), .int 0] [.int (nI (zCt (fun l => q l == v) l))] lHL_lotOf ⟨zw_842, zw_843⟩ rfl rfl (Nat.le_of_ble_eq_true rfl) (by decide) ⟨hlen, hlen⟩ hG ⟨Nat.zero_le _, Nat.zero_le _⟩ (l0 l (by omega)) dL_yarns_182 ?_
                        refine z_iload 3 dL_yarns_185 rfl ?_
                        refine z_icmp_ne (tgt := 194) dL_yarns_187 (by decide) (fun c_187 => ?_) (fun c_187 => ?_)
                        · skip
                          refine z_iconst (v := 0) dL_yarns_194 (by decide) ?_
                          refine z_iadd dL_yarns_195 ?_
                          refine z_top (v2 := .int (nI (zCt (fun l => q l == v) (l + 1)))) (by first | exact p_ct_t (hq l hx_l) hx_v c_187 | exact p_ct_f (hq l hx_l) hx_v c_187) ?_
                          refine z_istore (lv' := [(8, .int (nI (zCt (fun l => q l == v) (l + 1)))), (7, .int (nI (zSN (fun l => if q l = v then n l else 0) (l + 1)))), (9, .int (nI l)), (6, .int (nI v)), (1, .int (nI (zSN K cnt) - nI (zSN W v))), (0, .ref 0), (2, .int (nI (zSN C v))), (3, .int (nI (zSN E v))), (4, .int (nI (zSN (fun v => E v - pLe q n v cnt) v))), (5, .int 1)]) dL_yarns_196 (by decide) rfl ?_
                          refine z_iinc (v := nI (l + 1)) (lv' := [(9, .int (nI (l + 1))), (8, .int (nI (zCt (fun l => q l == v) (l + 1)))), (7, .int (nI (zSN (fun l => if q l = v then n l else 0) (l + 1)))), (6, .int (nI v)), (1, .int (nI (zSN K cnt) - nI (zSN W v))), (0, .ref 0), (2, .int (nI (zSN C v))), (3, .int (nI (zSN E v))), (4, .int (nI (zSN (fun v => E v - pLe q n v cnt) v))), (5, .int 1)]) 2 dL_yarns_198 rfl (nI_1 l) (by decide) rfl ?_
                          refine z_goto (tgt := 138) dL_yarns_201 (by decide) ?_
                          refine z_sub [0, 2, 1, 3, 4, 5, 6, 7, 8, 9] (lv' := [(9, .int (nI (l + 1))), (7, .int (nI (zSN (fun l => if q l = v then n l else 0) (l + 1)))), (8, .int (nI (zCt (fun l => q l == v) (l + 1)))), (6, .int (nI v)), (1, .int (nI (zSN K cnt) - nI (zSN W v))), (0, .ref 0), (2, .int (nI (zSN C v))), (3, .int (nI (zSN E v))), (4, .int (nI (zSN (fun v => E v - pLe q n v cnt) v))), (5, .int 1)]) rfl ?_
                          refine z_eqs (lv2 := [(9, .int (nI (l + 1))), (7, .int (nI (zSN (fun l => if q l = v then n l else 0) (l + 1)))), (8, .int (nI (zCt (fun l => q l == v) (l + 1)))), (6, .int (nI v)), (1, .int (nI (zSN K cnt) - nI (zSN W v))), (0, .ref 0), (2, .int (nI (zSN C v))), (3, .int (nI (zSN E v))), (4, .int (nI (zSN (fun v => E v - pLe q n v cnt) v))), (5, .int 1)]) (h2 := H) (by rfl) (by rfl) ?_
                          exact ih138 (l + 1) (by omega) (by omega)
                        · skip
                          refine z_iconst (v := 1) dL_yarns_190 (by decide) ?_
                          refine z_goto (tgt := 195) dL_yarns_191 (by decide) ?_
                          refine z_iadd dL_yarns_195 ?_
                          refine z_top (v2 := .int (nI (zCt (fun l => q l == v) (l + 1)))) (by first | exact p_ct_t (hq l hx_l) hx_v c_187 | exact p_ct_f (hq l hx_l) hx_v c_187) ?_
                          refine z_istore (lv' := [(8, .int (nI (zCt (fun l => q l == v) (l + 1)))), (7, .int (nI (zSN (fun l => if q l = v then n l else 0) (l + 1)))), (9, .int (nI l)), (6, .int (nI v)), (1, .int (nI (zSN K cnt) - nI (zSN W v))), (0, .ref 0), (2, .int (nI (zSN C v))), (3, .int (nI (zSN E v))), (4, .int (nI (zSN (fun v => E v - pLe q n v cnt) v))), (5, .int 1)]) dL_yarns_196 (by decide) rfl ?_
                          refine z_iinc (v := nI (l + 1)) (lv' := [(9, .int (nI (l + 1))), (8, .int (nI (zCt (fun l => q l == v) (l + 1)))), (7, .int (nI (zSN (fun l => if q l = v then n l else 0) (l + 1)))), (6, .int (nI v)), (1, .int (nI (zSN K cnt) - nI (zSN W v))), (0, .ref 0), (2, .int (nI (zSN C v))), (3, .int (nI (zSN E v))), (4, .int (nI (zSN (fun v => E v - pLe q n v cnt) v))), (5, .int 1)]) 2 dL_yarns_198 rfl (nI_1 l) (by decide) rfl ?_
                          refine z_goto (tgt := 138) dL_yarns_201 (by decide) ?_
                          refine z_sub [0, 2, 1, 3, 4, 5, 6, 7, 8, 9] (lv' := [(9, .int (nI (l + 1))), (7, .int (nI (zSN (fun l => if q l = v then n l else 0) (l + 1)))), (8, .int (nI (zCt (fun l => q l == v) (l + 1)))), (6, .int (nI v)), (1, .int (nI (zSN K cnt) - nI (zSN W v))), (0, .ref 0), (2, .int (nI (zSN C v))), (3, .int (nI (zSN E v))), (4, .int (nI (zSN (fun v => E v - pLe q n v cnt) v))), (5, .int 1)]) rfl ?_
                          refine z_eqs (lv2 := [(9, .int (nI (l + 1))), (7, .int (nI (zSN (fun l => if q l = v then n l else 0) (l + 1)))), (8, .int (nI (zCt (fun l => q l == v) (l + 1)))), (6, .int (nI v)), (1, .int (nI (zSN K cnt) - nI (zSN W v))), (0, .ref 0), (2, .int (nI (zSN C v))), (3, .int (nI (zSN E v))), (4, .int (nI (zSN (fun v => E v - pLe q n v cnt) v))), (5, .int 1)]) (h2 := H) (by rfl) (by rfl) ?_
                          exact ih138 (l + 1) (by omega) (by omega)
                refine z_sub [0, 2, 1, 3, 4, 5, 6, 7, 8, 9] (lv' := [(9, .int 0), (7, .int 0), (8, .int 0), (6, .int (nI v)), (1, .int (nI (zSN K cnt) - nI (zSN W v))), (0, .ref 0), (2, .int (nI (zSN C v))), (3, .int (nI (zSN E v))), (4, .int (nI (zSN (fun v => E v - pLe q n v cnt) v))), (5, .int 1)]) rfl ?_
                refine z_eqs (lv2 := [(9, .int (nI 0)), (7, .int (nI (zSN (fun l => if q l = v then n l else 0) 0))), (8, .int (nI (zCt (fun l => q l == v) 0))), (6, .int (nI v)), (1, .int (nI (zSN K cnt) - nI (zSN W v))), (0, .ref 0), (2, .int (nI (zSN C v))), (3, .int (nI (zSN E v))), (4, .int (nI (zSN (fun v => E v - pLe q n v cnt) v))), (5, .int 1)]) (h2 := H) (by rfl) (by rfl) ?_
                exact L138_4 (cnt + 1) 0 (Nat.zero_le _) (by omega)
        refine z_sub [0, 1, 2, 3, 4, 5, 6] (lv' := [(6, .int 0), (1, .int (nI (zSN K k))), (0, .ref 0), (2, .int 0), (3, .int 0), (4, .int 0), (5, .int 1)]) rfl ?_
        refine z_eqs (lv2 := [(6, .int (nI 0)), (1, .int (nI (zSN K cnt) - nI (zSN W 0))), (0, .ref 0), (2, .int (nI (zSN C 0))), (3, .int (nI (zSN E 0))), (4, .int (nI (zSN (fun v => E v - pLe q n v cnt) 0))), (5, .int 1)]) (h2 := H) (by rw [hx_k, show nI (zSN K cnt) - nI (zSN W 0) = nI (zSN K cnt) from p_sub0 _]; rfl) (by rfl) ?_
        exact L117_2 (8 + 1) 0 (Nat.zero_le _) (by omega)
      · skip
        have hx_k := zlt' (by omega) hk_k c_22
        refine z_iload 6 dL_yarns_25 rfl ?_
        refine z_if_eq (tgt := 114) dL_yarns_27 (by decide) (fun c_27 => ?_) (fun c_27 => ?_)
        · exact absurd c_27 (by decide)
        · skip
          refine z_aload_n 2 dL_yarns_30 rfl rfl ?_
          refine z_iload 0 dL_yarns_31 rfl ?_
          refine z_iconst (v := 2) dL_yarns_33 (by decide) ?_
          refine z_callSH (N := mL_lotOf) 3 [.ref 0, .int (nI k), .int 2] [] lHL_lotOf ⟨zw_842, zw_843⟩ rfl rfl (Nat.le_of_ble_eq_true rfl) (by decide) ⟨hlen, hlen⟩ hG ⟨Nat.zero_le _, Nat.zero_le _⟩ (l2 k (by omega)) dL_yarns_34 ?_
          refine z_istore (lv' := [(7, .int (nI (n k))), (6, .int (nI k)), (1, .int (nI (zSN K k))), (0, .ref 0), (2, .int 0), (3, .int 0), (4, .int 0), (5, .int 1)]) dL_yarns_37 (by decide) rfl ?_
          refine z_iload_n 2 dL_yarns_39 rfl rfl ?_
          refine z_aload_n 3 dL_yarns_40 rfl rfl ?_
          refine z_iload 1 dL_yarns_41 rfl ?_
          refine z_iconst (v := 4) dL_yarns_43 (by decide) ?_
          refine z_callSH (N := mL_lotOf) 3 [.ref 0, .int (nI k), .int 4] [.int (nI (zSN K k))] lHL_lotOf ⟨zw_842, zw_843⟩ rfl rfl (Nat.le_of_ble_eq_true rfl) (by decide) ⟨hlen, hlen⟩ hG ⟨Nat.zero_le _, Nat.zero_le _⟩ (l4 k (by omega)) dL_yarns_44 ?_
          refine z_iadd dL_yarns_47 ?_
          refine z_top (v2 := .int (nI (zSN K (k + 1)))) (by rw [zSN_s]) ?_
          refine z_istore_n (lv' := [(1, .int (nI (zSN K (k + 1)))), (7, .int (nI (n k))), (6, .int (nI k)), (0, .ref 0), (2, .int 0), (3, .int 0), (4, .int 0), (5, .int 1)]) dL_yarns_48 rfl (by decide) rfl ?_
          refine z_iload 1 dL_yarns_49 rfl ?_
          refine z_if_lt (tgt := 105) dL_yarns_51 (by decide) (fun c_51 => ?_) (fun c_51 => ?_)
          · exact absurd c_51 (nI_pos (by have := hn k hx_k; omega))
          · skip
            refine z_iload 1 dL_yarns_54 rfl ?_
            refine z_aload_n 3 dL_yarns_56 rfl rfl ?_
            refine z_iload 2 dL_yarns_57 rfl ?_
            refine z_iconst (v := 1) dL_yarns_59 (by decide) ?_
            refine z_callSH (N := mL_lotOf) 3 [.ref 0, .int (nI k), .int 1] [.int (nI (n k))] lHL_lotOf ⟨zw_842, zw_843⟩ rfl rfl (Nat.le_of_ble_eq_true rfl) (by decide) ⟨hlen, hlen⟩ hG ⟨Nat.zero_le _, Nat.zero_le _⟩ (l1 k (by omega)) dL_yarns_60 ?_
            refine z_icmp_gt (tgt := 105) dL_yarns_63 (by decide) (fun c_63 => ?_) (fun c_63 => ?_)
            · exact absurd c_63 (nI_nlt (by have := hn k hx_k; omega) (by have := hn k hx_k; omega))
            · skip
              refine z_aload_n 3 dL_yarns_66 rfl rfl ?_
              refine z_iload 2 dL_yarns_67 rfl ?_
              refine z_iconst (v := 4) dL_yarns_69 (by decide) ?_
              refine z_callSH (N := mL_lotOf) 3 [.ref 0, .int (nI k), .int 4] [] lHL_lotOf ⟨zw_842, zw_843⟩ rfl rfl (Nat.le_of_ble_eq_true rfl) (by decide) ⟨hlen, hlen⟩ hG ⟨Nat.zero_le _, Nat.zero_le _⟩ (l4 k (by omega)) dL_yarns_70 ?_
              refine z_aload_n 3 dL_yarns_73 rfl rfl ?_
              refine z_iload 2 dL_yarns_74 rfl ?_
              refine z_iconst (v := 1) dL_yarns_76 (by decide) ?_
              refine z_callSH (N := mL_lotOf) 3 [.ref 0, .int (nI k), .int 1] [.int (nI (K k))] lHL_lotOf ⟨zw_842, zw_843⟩ rfl rfl (Nat.le_of_ble_eq_true rfl) (by decide) ⟨hlen, hlen⟩ hG ⟨Nat.zero_le _, Nat.zero_le _⟩ (l1 k (by omega)) dL_yarns_77 ?_
              refine z_iload 1 dL_yarns_80 rfl ?_
              refine z_isub dL_yarns_82 ?_
              refine z_top (v2 := .int (nI (m k - n k))) (by rw [pk_sub (by have := hn k hx_k; omega)]) ?_
              refine z_icmp_gt (tgt := 105) dL_yarns_83 (by decide) (fun c_83 => ?_) (fun c_83 => ?_)
              · exact absurd c_83 (nI_nlt (by have := hn k hx_k; omega) (by have := hn k hx_k; omega))
              · skip
                refine z_aload_n 3 dL_yarns_86 rfl rfl ?_
                refine z_iload 2 dL_yarns_87 rfl ?_
                refine z_iconst (v := 5) dL_yarns_89 (by decide) ?_
                refine z_callSH (N := mL_lotOf) 3 [.ref 0, .int (nI k), .int 5] [] lHL_lotOf ⟨zw_842, zw_843⟩ rfl rfl (Nat.le_of_ble_eq_true rfl) (by decide) ⟨hlen, hlen⟩ hG ⟨Nat.zero_le _, Nat.zero_le _⟩ (l5 k (by omega)) dL_yarns_90 ?_
                refine z_if_eq (tgt := 101) dL_yarns_93 (by decide) (fun c_93 => ?_) (fun c_93 => ?_)
                · skip
                  have b_93 := zB_0.mp c_93
                  refine z_iconst (v := 1) dL_yarns_101 (by decide) ?_
                  refine z_goto (tgt := 106) dL_yarns_102 (by decide) ?_
                  refine z_istore (lv' := [(5, .int 1), (1, .int (nI (zSN K (k + 1)))), (7, .int (nI (n k))), (6, .int (nI k)), (0, .ref 0), (2, .int 0), (3, .int 0), (4, .int 0)]) dL_yarns_106 (by decide) rfl ?_
                  refine z_iinc (v := nI (k + 1)) (lv' := [(6, .int (nI (k + 1))), (5, .int 1), (1, .int (nI (zSN K (k + 1)))), (7, .int (nI (n k))), (0, .ref 0), (2, .int 0), (3, .int 0), (4, .int 0)]) 3 dL_yarns_108 rfl (nI_1 k) (by decide) rfl ?_
                  refine z_goto (tgt := 15) dL_yarns_111 (by decide) ?_
                  refine z_sub [0, 2, 4, 5, 6, 7, 1] (lv' := [(6, .int (nI (k + 1))), (1, .int (nI (zSN K (k + 1)))), (0, .ref 0), (2, .int 0), (3, .int 0), (4, .int 0), (5, .int 1)]) rfl ?_
                  refine z_eqs (lv2 := [(6, .int (nI (k + 1))), (1, .int (nI (zSN K (k + 1)))), (0, .ref 0), (2, .int 0), (3, .int 0), (4, .int 0), (5, .int 1)]) (h2 := H) (by rfl) (by rfl) ?_
                  exact ih15 (k + 1) (by omega) (by omega)
                · skip
                  have b_93 := zB_tt c_93
                  refine z_iload 1 dL_yarns_96 rfl ?_
                  refine z_if_le (tgt := 105) dL_yarns_98 (by decide) (fun c_98 => ?_) (fun c_98 => ?_)
                  · exact absurd c_98 (nI_nle (hu k hx_k b_93) (by have := hn k hx_k; omega))
                  · skip
                    refine z_iconst (v := 1) dL_yarns_101 (by decide) ?_
                    refine z_goto (tgt := 106) dL_yarns_102 (by decide) ?_
                    refine z_istore (lv' := [(5, .int 1), (1, .int (nI (zSN K (k + 1)))), (7, .int (nI (n k))), (6, .int (nI k)), (0, .ref 0), (2, .int 0), (3, .int 0), (4, .int 0)]) dL_yarns_106 (by decide) rfl ?_
                    refine z_iinc (v := nI (k + 1)) (lv' := [(6, .int (nI (k + 1))), (5, .int 1), (1, .int (nI (zSN K (k + 1)))), (7, .int (nI (n k))), (0, .ref 0), (2, .int 0), (3, .int 0), (4, .int 0)]) 3 dL_yarns_108 rfl (nI_1 k) (by decide) rfl ?_
                    refine z_goto (tgt := 15) dL_yarns_111 (by decide) ?_
                    refine z_sub [0, 2, 4, 5, 6, 7, 1] (lv' := [(6, .int (nI (k + 1))), (1, .int (nI (zSN K (k + 1)))), (0, .ref 0), (2, .int 0), (3, .int 0), (4, .int 0), (5, .int 1)]) rfl ?_
                    refine z_eqs (lv2 := [(6, .int (nI (k + 1))), (1, .int (nI (zSN K (k + 1)))), (0, .ref 0), (2, .int 0), (3, .int 0), (4, .int 0), (5, .int 1)]) (h2 := H) (by rfl) (by rfl) ?_
                    exact ih15 (k + 1) (by omega) (by omega)
  refine z_sub [0, 5, 6, 4, 3, 2, 1] (lv' := [(6, .int 0), (1, .int 0), (0, .ref 0), (2, .int 0), (3, .int 0), (4, .int 0), (5, .int 1)]) rfl ?_
  refine z_eqs (lv2 := [(6, .int (nI 0)), (1, .int (nI (zSN K 0))), (0, .ref 0), (2, .int 0), (3, .int 0), (4, .int 0), (5, .int 1)]) (h2 := H) (by rfl) (by rfl) ?_
  exact L15_1 (cnt + 1) 0 (Nat.zero_le _) (by omega)
