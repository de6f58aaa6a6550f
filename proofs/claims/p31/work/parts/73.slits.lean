theorem p_ctB (p : Nat → Bool) (n : Nat) : Value.int (nI (zCt p n) + zB (p n)) = .int (nI (zCt p (n + 1))) := by
  cases h : p n
  · exact congrArg Value.int (zCt_f h)
  · exact congrArg Value.int (zCt_t h)
theorem p_sr_t {s : Nat → Bool} {f : Nat → Nat} {k : Nat} (h : ¬ zB (s k) = 1) : Value.int (nI (zSN (fun k => if s k then f k else 0) k) + 0) = .int (nI (zSN (fun k => if s k then f k else 0) (k + 1))) := by
  show _ = Value.int (nI (zSN (fun k => if s k then f k else 0) k + (if s k then f k else 0)))
  rw [if_neg (fun z => h (zB_1 z)), Int32.add_zero, Nat.add_zero]
theorem p_sr_f {s : Nat → Bool} {f : Nat → Nat} {k : Nat} (h : zB (s k) = 1) : Value.int (nI (zSN (fun k => if s k then f k else 0) k) + nI (f k)) = .int (nI (zSN (fun k => if s k then f k else 0) (k + 1))) := by
  show _ = Value.int (nI (zSN (fun k => if s k then f k else 0) k + (if s k then f k else 0)))
  rw [if_pos (zB_tt (by rw [h]; decide)), nI_add]
theorem p_len {y l : Nat} (h : 1 ≤ l) : nI (y + l - 1) - nI y + 1 = nI l := by
  rw [pk_sub (by omega), nI_1, show y + l - 1 - y + 1 = l by omega]
theorem p_prev {k : Nat} (hk : k < 2 ^ 31) (h : ¬ nI k = 0) : nI k - 1 = nI (k - 1) := by
  have := m_z_eq_f hk h
  rw [← nI_one, pk_sub (by omega)]
theorem p_ord {a b x y : Nat} (ha : a < 100) (hb : b < 100) (hx : x < 100) (hy : y < 100) (h : 20 * a + b < 20 * x + y) : ¬ nI 20 * nI x + nI y ≤ nI 20 * nI a + nI b := by
  rw [pk_mul, pk_mul, nI_add, nI_add]
  exact nI_ge h (by omega)

set_option maxHeartbeats 4000000 in
set_option maxRecDepth 100000 in
theorem v_slits {G : zT} {H : zH} {fs9 : List Value} (hG : zAl G = false) (hlen : H.length < 1000) (e0 : H[0]? = some (.inr (7, fs9))) {lim w g9 g10 : Nat} {S sb sy sl : Nat → Nat} {ss : Nat → Bool} (hl1 : 1 ≤ lim) (hl16 : lim ≤ 16) (hw : w ≤ 16) (hZ : S lim ≤ 320) (hS : ∀ k, S k ≤ 320) (hanti : ∀ k, S (k + 1) ≤ S k) (hg : g10 ≤ g9 ∧ g9 ≤ 640) (hs : ∀ k, k < S lim → lim < sl k ∧ sy k + sl k ≤ w ∧ sb k < 100) (hord : ∀ k, k + 1 < S lim → 20 * sb k + sy k < 20 * sb (k + 1) + sy (k + 1)) (w13 : zRun G mL_whole 0 0 [.ref 0, .int (nI 13)] H (.inr (some (.int (nI lim)))) H) (w6 : zRun G mL_whole 0 0 [.ref 0, .int (nI 6)] H (.inr (some (.int (nI (S lim))))) H) (w10 : zRun G mL_whole 0 0 [.ref 0, .int (nI 10)] H (.inr (some (.int (nI g10)))) H) (w9 : zRun G mL_whole 0 0 [.ref 0, .int (nI 9)] H (.inr (some (.int (nI g9)))) H) (w7 : zRun G mL_whole 0 0 [.ref 0, .int (nI 7)] H (.inr (some (.int (nI (zCt ss (S lim)))))) H) (w8 : zRun G mL_whole 0 0 [.ref 0, .int (nI 8)] H (.inr (some (.int (nI (zSN (fun k => if ss k then sl k else 0) (S lim)))))) H) (w2 : zRun G mL_whole 0 0 [.ref 0, .int 2] H (.inr (some (.int (nI w)))) H) (sw : ∀ k, 1 ≤ k → k ≤ 16 → zRun G mL_slitsWith 0 0 [.ref 0, .int (nI k)] H (.inr (some (.int (nI (S k))))) H) (sno : zRun G mL_slitOf 0 0 [.ref 0, .int (nI (S lim)), .int 2] H (.inr (some (.int (-1)))) H) (s0 : ∀ k, k < S lim → zRun G mL_slitOf 0 0 [.ref 0, .int (nI k), .int 0] H (.inr (some (.int (nI (sb k))))) H) (s1 : ∀ k, k < S lim → zRun G mL_slitOf 0 0 [.ref 0, .int (nI k), .int 1] H (.inr (some (.int (nI (sy k))))) H) (s2 : ∀ k, k < S lim → zRun G mL_slitOf 0 0 [.ref 0, .int (nI k), .int 2] H (.inr (some (.int (nI (sy k + sl k - 1))))) H) (s3 : ∀ k, k < S lim → zRun G mL_slitOf 0 0 [.ref 0, .int (nI k), .int 3] H (.inr (some (.int (zB (ss k))))) H) : zRun G mL_slits 0 0 [.ref 0] H (.inr (some (.int 1))) H := by
  refine zRun_of (by decide +kernel) rfl rfl (Nat.le_of_ble_eq_true rfl) ?_
  suffices hs : ∀ (o9 : zO) (h9 : zH), (Sum.inr (some (.int 1)) : zO) = o9 → H = h9 → zPW G mL_slits 0 0 o9 h9 0 0 0 [(0, .ref 0)] [] H from hs _ _ rfl rfl
  intro o9 h9 ho9 hh9
  refine z_aload_n 0 dL_slits_0 rfl rfl ?_
  refine z_bipush (v := nI 13) dL_slits_1 (by decide) ?_
  refine z_callSH (N := mL_whole) 2 [.ref 0, .int (nI 13)] [] lHL_whole ⟨zw_810, zw_811⟩ rfl rfl (Nat.le_of_ble_eq_true rfl) (by decide) ⟨hlen, hlen⟩ hG ⟨Nat.zero_le _, Nat.zero_le _⟩ w13 dL_slits_3 ?_
  refine z_istore_n (lv' := [(1, .int (nI lim)), (0, .ref 0)]) dL_slits_6 rfl (by decide) rfl ?_
  refine z_aload_n 1 dL_slits_7 rfl rfl ?_
  refine z_bipush (v := nI 6) dL_slits_8 (by decide) ?_
  refine z_callSH (N := mL_whole) 2 [.ref 0, .int (nI 6)] [] lHL_whole ⟨zw_810, zw_811⟩ rfl rfl (Nat.le_of_ble_eq_true rfl) (by decide) ⟨hlen, hlen⟩ hG ⟨Nat.zero_le _, Nat.zero_le _⟩ w6 dL_slits_10 ?_
  refine z_istore_n (lv' := [(2, .int (nI (S lim))), (1, .int (nI lim)), (0, .ref 0)]) dL_slits_13 rfl (by decide) rfl ?_
  refine z_iconst (v := 0) dL_slits_14 (by decide) ?_
  refine z_istore_n (lv' := [(3, .int 0), (2, .int (nI (S lim))), (1, .int (nI lim)), (0, .ref 0)]) dL_slits_15 rfl (by decide) rfl ?_
  refine z_iconst (v := 0) dL_slits_16 (by decide) ?_
  refine z_istore (lv' := [(4, .int 0), (3, .int 0), (2, .int (nI (S lim))), (1, .int (nI lim)), (0, .ref 0)]) dL_slits_17 (by decide) rfl ?_
  refine z_aload_n 4 dL_slits_19 rfl rfl ?_
  refine z_iload_n 3 dL_slits_20 rfl rfl ?_
  refine z_callSH (N := mL_slitsWith) 2 [.ref 0, .int (nI lim)] [] lHL_slitsWith ⟨zw_906, zw_907⟩ rfl rfl (Nat.le_of_ble_eq_true rfl) (by decide) ⟨hlen, hlen⟩ hG ⟨Nat.zero_le _, Nat.zero_le _⟩ (sw lim (by omega) (by omega)) dL_slits_21 ?_
  refine z_iload_n 2 dL_slits_24 rfl rfl ?_
  refine z_icmp_ne (tgt := 67) dL_slits_25 (by decide) (fun c_25 => ?_) (fun c_25 => ?_)
  · exact absurd c_25 (fun q => q rfl)
  · skip
    refine z_aload_n 4 dL_slits_28 rfl rfl ?_
    refine z_iload_n 2 dL_slits_29 rfl rfl ?_
    refine z_iconst (v := 2) dL_slits_30 (by decide) ?_
    refine z_callSH (N := mL_slitOf) 3 [.ref 0, .int (nI (S lim)), .int 2] [] lHL_slitOf ⟨zw_914, zw_915⟩ rfl rfl (Nat.le_of_ble_eq_true rfl) (by decide) ⟨hlen, hlen⟩ hG ⟨Nat.zero_le _, Nat.zero_le _⟩ sno dL_slits_31 ?_
    refine z_iconst (v := (-1)) dL_slits_34 (by decide) ?_
    refine z_icmp_ne (tgt := 67) dL_slits_35 (by decide) (fun c_35 => ?_) (fun c_35 => ?_)
    · exact absurd c_35 (fun q => q rfl)
    · skip
      refine z_aload_n 4 dL_slits_38 rfl rfl ?_
      refine z_bipush (v := nI 10) dL_slits_39 (by decide) ?_
      refine z_callSH (N := mL_whole) 2 [.ref 0, .int (nI 10)] [] lHL_whole ⟨zw_810, zw_811⟩ rfl rfl (Nat.le_of_ble_eq_true rfl) (by decide) ⟨hlen, hlen⟩ hG ⟨Nat.zero_le _, Nat.zero_le _⟩ w10 dL_slits_41 ?_
      refine z_aload_n 4 dL_slits_44 rfl rfl ?_
      refine z_bipush (v := nI 9) dL_slits_45 (by decide) ?_
      refine z_callSH (N := mL_whole) 2 [.ref 0, .int (nI 9)] [.int (nI g10)] lHL_whole ⟨zw_810, zw_811⟩ rfl rfl (Nat.le_of_ble_eq_true rfl) (by decide) ⟨hlen, hlen⟩ hG ⟨Nat.zero_le _, Nat.zero_le _⟩ w9 dL_slits_47 ?_
      refine z_icmp_gt (tgt := 67) dL_slits_50 (by decide) (fun c_50 => ?_) (fun c_50 => ?_)
      · exact absurd c_50 (nI_nlt hg.1 (by omega))
      · skip
        refine z_aload_n 4 dL_slits_53 rfl rfl ?_
        refine z_bipush (v := nI 7) dL_slits_54 (by decide) ?_
        refine z_callSH (N := mL_whole) 2 [.ref 0, .int (nI 7)] [] lHL_whole ⟨zw_810, zw_811⟩ rfl rfl (Nat.le_of_ble_eq_true rfl) (by decide) ⟨hlen, hlen⟩ hG ⟨Nat.zero_le _, Nat.zero_le _⟩ w7 dL_slits_56 ?_
        refine z_iload_n 2 dL_slits_59 rfl rfl ?_
        refine z_icmp_gt (tgt := 67) dL_slits_60 (by decide) (fun c_60 => ?_) (fun c_60 => ?_)
        · exact absurd c_60 (nI_nlt (zCt_le _ _) (by omega))
        · skip
          refine z_iconst (v := 1) dL_slits_63 (by decide) ?_
          refine z_goto (tgt := 68) dL_slits_64 (by decide) ?_
          refine z_istore (lv' := [(5, .int 1), (4, .int 0), (3, .int 0), (2, .int (nI (S lim))), (1, .int (nI lim)), (0, .ref 0)]) dL_slits_68 (by decide) rfl ?_
          refine z_iconst (v := 0) dL_slits_70 (by decide) ?_
          refine z_istore (lv' := [(6, .int 0), (5, .int 1), (4, .int 0), (3, .int 0), (2, .int (nI (S lim))), (1, .int (nI lim)), (0, .ref 0)]) dL_slits_71 (by decide) rfl ?_
          have L73_1 : ∀ (d k : Nat), k ≤ (S lim) → (S lim) + 1 ≤ k + d → zPW G mL_slits 0 0 o9 h9 0 0 73 [(6, .int (nI k)), (3, .int (nI (zCt ss k))), (4, .int (nI (zSN (fun k => if ss k then sl k else 0) k))), (5, .int 1), (0, .ref 0), (1, .int (nI lim)), (2, .int (nI (S lim)))] [] H := by
            intro d
            induction d with
            | zero => intro k hk hd; exact absurd hd (by omega)
            | succ d ih =>
              intro k hk_k hd_k
              have ih73 := ih
              clear ih
              refine z_iload 0 dL_slits_73 rfl ?_
              refine z_iload_n 6 dL_slits_75 rfl rfl ?_
              refine z_icmp_ge (tgt := 217) dL_slits_76 (by decide) (fun c_76 => ?_) (fun c_76 => ?_)
              · skip
                have hx_k := zge (by omega) hk_k c_76
                refine z_iconst (v := 2) dL_slits_217 (by decide) ?_
                refine z_istore (lv' := [(6, .int 2), (3, .int (nI (zCt ss k))), (4, .int (nI (zSN (fun k => if ss k then sl k else 0) k))), (5, .int 1), (0, .ref 0), (1, .int (nI lim)), (2, .int (nI (S lim)))]) dL_slits_218 (by decide) rfl ?_
                have L220_2 : ∀ (d j : Nat), j ≤ 17 → 17 + 1 ≤ j + d → 2 ≤ j → zPW G mL_slits 0 0 o9 h9 0 0 220 [(6, .int (nI j)), (3, .int (nI (zCt ss (S lim)))), (4, .int (nI (zSN (fun k => if ss k then sl k else 0) (S lim)))), (5, .int 1), (0, .ref 0)] [] H := by
                  intro d
                  induction d with
                  | zero => intro j hk hd; exact absurd hd (by omega)
                  | succ d ih =>
                    intro j hk_j hd_j h2j
                    have ih220 := ih
                    clear ih
                    refine z_iload 0 dL_slits_220 rfl ?_
                    refine z_bipush (v := nI 17) dL_slits_222 (by decide) ?_
                    refine z_icmp_ge (tgt := 262) dL_slits_224 (by decide) (fun c_224 => ?_) (fun c_224 => ?_)
                    · skip
                      have hx_j := zge (by omega) hk_j c_224
                      refine z_iload 3 dL_slits_262 rfl ?_
                      refine z_if_eq (tgt := 292) dL_slits_264 (by decide) (fun c_264 => ?_) (fun c_264 => ?_)
                      · exact absurd c_264 (by decide)
                      · skip
                        refine z_aload_n 4 dL_slits_267 rfl rfl ?_
                        refine z_bipush (v := nI 7) dL_slits_268 (by decide) ?_
                        refine z_callSH (N := mL_whole) 2 [.ref 0, .int (nI 7)] [] lHL_whole ⟨zw_810, zw_811⟩ rfl rfl (Nat.le_of_ble_eq_true rfl) (by decide) ⟨hlen, hlen⟩ hG ⟨Nat.zero_le _, Nat.zero_le _⟩ w7 dL_slits_270 ?_
                        refine z_iload_n 1 dL_slits_273 rfl rfl ?_
                        refine z_icmp_ne (tgt := 292) dL_slits_274 (by decide) (fun c_274 => ?_) (fun c_274 => ?_)
                        · exact absurd c_274 (fun q => q rfl)
                        · skip
                          refine z_aload_n 4 dL_slits_277 rfl rfl ?_
                          refine z_bipush (v := nI 8) dL_slits_278 (by decide) ?_
                          refine z_callSH (N := mL_whole) 2 [.ref 0, .int (nI 8)] [] lHL_whole ⟨zw_810, zw_811⟩ rfl rfl (Nat.le_of_ble_eq_true rfl) (by decide) ⟨hlen, hlen⟩ hG ⟨Nat.zero_le _, Nat.zero_le _⟩ w8 dL_slits_280 ?_
                          refine z_iload 2 dL_slits_283 rfl ?_
                          refine z_icmp_ne (tgt := 292) dL_slits_285 (by decide) (fun c_285 => ?_) (fun c_285 => ?_)
                          · exact absurd c_285 (fun q => q rfl)
                          · skip
                            refine z_iconst (v := 1) dL_slits_288 (by decide) ?_
                            refine z_goto (tgt := 293) dL_slits_289 (by decide) ?_
                            exact z_zret rfl (by rfl) dL_slits_293 (zo_i ho9 (by rfl)) (zo_h hh9 (by rfl)) (Nat.zero_le _) (Nat.zero_le _)
                    · skip
                      have hx_j := zlt' (by omega) hk_j c_224
                      refine z_iload 3 dL_slits_227 rfl ?_
                      refine z_if_eq (tgt := 262) dL_slits_229 (by decide) (fun c_229 => ?_) (fun c_229 => ?_)
                      · exact absurd c_229 (by decide)
                      · skip
                        refine z_aload_n 4 dL_slits_232 rfl rfl ?_
                        refine z_iload 0 dL_slits_233 rfl ?_
                        refine z_callSH (N := mL_slitsWith) 2 [.ref 0, .int (nI j)] [] lHL_slitsWith ⟨zw_906, zw_907⟩ rfl rfl (Nat.le_of_ble_eq_true rfl) (by decide) ⟨hlen, hlen⟩ hG ⟨Nat.zero_le _, Nat.zero_le _⟩ (sw j (by omega) (by omega)) dL_slits_235 ?_
                        refine z_aload_n 4 dL_slits_238 rfl rfl ?_
                        refine z_iload 0 dL_slits_239 rfl ?_
                        refine z_iconst (v := 1) dL_slits_241 (by decide) ?_
                        refine z_isub dL_slits_242 ?_
                        refine z_top (v2 := .int (nI (j - 1))) (by rw [← nI_one, pk_sub (by omega)]) ?_
                        refine z_callSH (N := mL_slitsWith) 2 [.ref 0, .int (nI (j - 1))] [.int (nI (S j))] lHL_slitsWith ⟨zw_906, zw_907⟩ rfl rfl (Nat.le_of_ble_eq_true rfl) (by decide) ⟨hlen, hlen⟩ hG ⟨Nat.zero_le _, Nat.zero_le _⟩ (sw (j - 1) (by omega) (by omega)) dL_slits_243 ?_
                        refine z_icmp_gt (tgt := 253) dL_slits_246 (by decide) (fun c_246 => ?_) (fun c_246 => ?_)
                        · exact absurd c_246 (nI_nlt (by have := hanti (j - 1); rw [show j - 1 + 1 = j by omega] at this; exact this) (by have := hS (j - 1); omega))
                        · skip
                          refine z_iconst (v := 1) dL_slits_249 (by decide) ?_
                          refine z_goto (tgt := 254) dL_slits_250 (by decide) ?_
                          refine z_istore (lv' := [(5, .int 1), (6, .int (nI j)), (3, .int (nI (zCt ss (S lim)))), (4, .int (nI (zSN (fun k => if ss k then sl k else 0) (S lim)))), (0, .ref 0)]) dL_slits_254 (by decide) rfl ?_
                          refine z_iinc (v := nI (j + 1)) (lv' := [(6, .int (nI (j + 1))), (5, .int 1), (3, .int (nI (zCt ss (S lim)))), (4, .int (nI (zSN (fun k => if ss k then sl k else 0) (S lim)))), (0, .ref 0)]) 1 dL_slits_256 rfl (nI_1 j) (by decide) rfl ?_
                          refine z_goto (tgt := 220) dL_slits_259 (by decide) ?_
                          refine z_sub [0, 2, 3, 1, 4] (lv' := [(6, .int (nI (j + 1))), (3, .int (nI (zCt ss (S lim)))), (4, .int (nI (zSN (fun k => if ss k then sl k else 0) (S lim)))), (5, .int 1), (0, .ref 0)]) rfl ?_
                          refine z_eqs (lv2 := [(6, .int (nI (j + 1))), (3, .int (nI (zCt ss (S lim)))), (4, .int (nI (zSN (fun k => if ss k then sl k else 0) (S lim)))), (5, .int 1), (0, .ref 0)]) (h2 := H) (by rfl) (by rfl) ?_
                          exact ih220 (j + 1) (by omega) (by omega) (by omega)
                refine z_sub [0, 1, 2, 3, 4] (lv' := [(6, .int 2), (3, .int (nI (zCt ss k))), (4, .int (nI (zSN (fun k => if ss k then sl k else 0) k))), (5, .int 1), (0, .ref 0)]) rfl ?_
                refine z_eqs (lv2 := [(6, .int (nI 2)), (3, .int (nI (zCt ss (S lim)))), (4, .int (nI (zSN (fun k => if ss k then sl k else 0) (S lim)))), (5, .int 1), (0, .ref 0)]) (h2 := H) (by rw [hx_k]; rfl) (by rfl) ?_
                exact L220_2 (17 + 1) 2 (by omega) (by omega) (Nat.le_refl _)
              · skip
                have hx_k := zlt' (by omega) hk_k c_76
                refine z_iload 3 dL_slits_79 rfl ?_
                refine z_if_eq (tgt := 217) dL_slits_81 (by decide) (fun c_81 => ?_) (fun c_81 => ?_)
                · exact absurd c_81 (by decide)
                · skip
                  refine z_aload_n 4 dL_slits_84 rfl rfl ?_
                  refine z_iload 0 dL_slits_85 rfl ?_
                  refine z_iconst (v := 2) dL_slits_87 (by decide) ?_
                  refine z_callSH (N := mL_slitOf) 3 [.ref 0, .int (nI k), .int 2] [] lHL_slitOf ⟨zw_914, zw_915⟩ rfl rfl (Nat.le_of_ble_eq_true rfl) (by decide) ⟨hlen, hlen⟩ hG ⟨Nat.zero_le _, Nat.zero_le _⟩ (s2 k (by omega)) dL_slits_88 ?_
                  refine z_aload_n 4 dL_slits_91 rfl rfl ?_
                  refine z_iload 0 dL_slits_92 rfl ?_
                  refine z_iconst (v := 1) dL_slits_94 (by decide) ?_
                  refine z_callSH (N := mL_slitOf) 3 [.ref 0, .int (nI k), .int 1] [.int (nI (sy k + sl k - 1))] lHL_slitOf ⟨zw_914, zw_915⟩ rfl rfl (Nat.le_of_ble_eq_true rfl) (by decide) ⟨hlen, hlen⟩ hG ⟨Nat.zero_le _, Nat.zero_le _⟩ (s1 k (by omega)) dL_slits_95 ?_
                  refine z_isub dL_slits_98 ?_
                  refine z_iconst (v := 1) dL_slits_99 (by decide) ?_
                  refine z_iadd dL_slits_100 ?_
                  refine z_top (v2 := .int (nI (sl k))) (by rw [p_len (by have := hs k hx_k; omega)]) ?_
                  refine z_istore (lv' := [(7, .int (nI (sl k))), (6, .int (nI k)), (3, .int (nI (zCt ss k))), (4, .int (nI (zSN (fun k => if ss k then sl k else 0) k))), (5, .int 1), (0, .ref 0), (1, .int (nI lim)), (2, .int (nI (S lim)))]) dL_slits_101 (by decide) rfl ?_
                  refine z_iload_n 2 dL_slits_103 rfl rfl ?_
                  refine z_aload_n 5 dL_slits_104 rfl rfl ?_
                  refine z_iload 1 dL_slits_105 rfl ?_
                  refine z_iconst (v := 3) dL_slits_107 (by decide) ?_
                  refine z_callSH (N := mL_slitOf) 3 [.ref 0, .int (nI k), .int 3] [.int (nI (zCt ss k))] lHL_slitOf ⟨zw_914, zw_915⟩ rfl rfl (Nat.le_of_ble_eq_true rfl) (by decide) ⟨hlen, hlen⟩ hG ⟨Nat.zero_le _, Nat.zero_le _⟩ (s3 k (by omega)) dL_slits_108 ?_
                  refine z_iadd dL_slits_111 ?_
                  refine z_top (v2 := .int (nI (zCt ss (k + 1)))) (by exact p_ctB _ _) ?_
                  refine z_istore_n (lv' := [(3, .int (nI (zCt ss (k + 1)))), (7, .int (nI (sl k))), (6, .int (nI k)), (4, .int (nI (zSN (fun k => if ss k then sl k else 0) k))), (5, .int 1), (0, .ref 0), (1, .int (nI lim)), (2, .int (nI (S lim)))]) dL_slits_112 rfl (by decide) rfl ?_
                  refine z_iload 3 dL_slits_113 rfl ?_
                  refine z_aload_n 5 dL_slits_115 rfl rfl ?_
                  refine z_iload 2 dL_slits_116 rfl ?_
                  refine z_iconst (v := 3) dL_slits_118 (by decide) ?_
                  refine z_callSH (N := mL_slitOf) 3 [.ref 0, .int (nI k), .int 3] [.int (nI (zSN (fun k => if ss k then sl k else 0) k))] lHL_slitOf ⟨zw_914, zw_915⟩ rfl rfl (Nat.le_of_ble_eq_true rfl) (by decide) ⟨hlen, hlen⟩ hG ⟨Nat.zero_le _, Nat.zero_le _⟩ (s3 k (by omega)) dL_slits_119 ?_
                  refine z_iconst (v := 1) dL_slits_122 (by decide) ?_
                  refine z_icmp_ne (tgt := 131) dL_slits_123 (by decide) (fun c_123 => ?_) (fun c_123 => ?_)
                  · skip
                    refine z_iconst (v := 0) dL_slits_131 (by decide) ?_
                    refine z_iadd dL_slits_132 ?_
                    refine z_top (v2 := .int (nI (zSN (fun k => if ss k then sl k else 0) (k + 1)))) (by first | exact p_sr_t c_123 | exact p_sr_f c_123) ?_
                    refine z_istore (lv' := [(4, .int (nI (zSN (fun k => if ss k then sl k else 0) (k + 1)))), (3, .int (nI (zCt ss (k + 1)))), (7, .int (nI (sl k))), (6, .int (nI k)), (5, .int 1), (0, .ref 0), (1, .int (nI lim)), (2, .int (nI (S lim)))]) dL_slits_133 (by decide) rfl ?_
                    refine z_iload 2 dL_slits_135 rfl ?_
                    refine z_iload_n 6 dL_slits_137 rfl rfl ?_
                    refine z_icmp_le (tgt := 208) dL_slits_138 (by decide) (fun c_138 => ?_) (fun c_138 => ?_)
                    · exact absurd c_138 (nI_ge (hs k hx_k).1 (by have := hs k hx_k; omega))
                    · skip
                      refine z_aload_n 5 dL_slits_141 rfl rfl ?_
                      refine z_iload 3 dL_slits_142 rfl ?_
                      refine z_iconst (v := 2) dL_slits_144 (by decide) ?_
                      refine z_callSH (N := mL_slitOf) 3 [.ref 0, .int (nI k), .int 2] [] lHL_slitOf ⟨zw_914, zw_915⟩ rfl rfl (Nat.le_of_ble_eq_true rfl) (by decide) ⟨hlen, hlen⟩ hG ⟨Nat.zero_le _, Nat.zero_le _⟩ (s2 k (by omega)) dL_slits_145 ?_
                      refine z_aload_n 5 dL_slits_148 rfl rfl ?_
                      refine z_iconst (v := 2) dL_slits_149 (by decide) ?_
                      refine z_callSH (N := mL_whole) 2 [.ref 0, .int 2] [.int (nI (sy k + sl k - 1))] lHL_whole ⟨zw_810, zw_811⟩ rfl rfl (Nat.le_of_ble_eq_true rfl) (by decide) ⟨hlen, hlen⟩ hG ⟨Nat.zero_le _, Nat.zero_le _⟩ w2 dL_slits_150 ?_
                      refine z_icmp_ge (tgt := 208) dL_slits_153 (by decide) (fun c_153 => ?_) (fun c_153 => ?_)
                      · exact absurd c_153 (nI_ge (by have := hs k hx_k; omega) (by omega))
                      · skip
                        refine z_iload 3 dL_slits_156 rfl ?_
                        refine z_if_eq (tgt := 204) dL_slits_158 (by decide) (fun c_158 => ?_) (fun c_158 => ?_)
                        · skip
                          refine z_iconst (v := 1) dL_slits_204 (by decide) ?_
                          refine z_goto (tgt := 209) dL_slits_205 (by decide) ?_
                          refine z_istore (lv' := [(5, .int 1), (4, .int (nI (zSN (fun k => if ss k then sl k else 0) (k + 1)))), (3, .int (nI (zCt ss (k + 1)))), (7, .int (nI (sl k))), (6, .int (nI k)), (0, .ref 0), (1, .int (nI lim)), (2, .int (nI (S lim)))]) dL_slits_209 (by decide) rfl ?_
                          refine z_iinc (v := nI (k + 1)) (lv' := [(6, .int (nI (k + 1))), (5, .int 1), (4, .int (nI (zSN (fun k => if ss k then sl k else 0) (k + 1)))), (3, .int (nI (zCt ss (k + 1)))), (7, .int (nI (sl k))), (0, .ref 0), (1, .int (nI lim)), (2, .int (nI (S lim)))]) 4 dL_slits_211 rfl (nI_1 k) (by decide) rfl ?_
                          refine z_goto (tgt := 73) dL_slits_214 (by decide) ?_
                          refine z_sub [0, 3, 2, 1, 5, 6, 7] (lv' := [(6, .int (nI (k + 1))), (3, .int (nI (zCt ss (k + 1)))), (4, .int (nI (zSN (fun k => if ss k then sl k else 0) (k + 1)))), (5, .int 1), (0, .ref 0), (1, .int (nI lim)), (2, .int (nI (S lim)))]) rfl ?_
                          refine z_eqs (lv2 := [(6, .int (nI (k + 1))), (3, .int (nI (zCt ss (k + 1)))), (4, .int (nI (zSN (fun k => if ss k then sl k else 0) (k + 1)))), (5, .int 1), (0, .ref 0), (1, .int (nI lim)), (2, .int (nI (S lim)))]) (h2 := H) (by rfl) (by rfl) ?_
                          exact ih73 (k + 1) (by omega) (by omega)
                        · skip
                          refine z_bipush (v := nI 20) dL_slits_161 (by decide) ?_
                          refine z_aload_n 5 dL_slits_163 rfl rfl ?_
                          refine z_iload 3 dL_slits_164 rfl ?_
                          refine z_iconst (v := 1) dL_slits_166 (by decide) ?_
                          refine z_isub dL_slits_167 ?_
                          refine z_top (v2 := .int (nI (k - 1))) (by rw [p_prev (by omega) c_158]) ?_
                          refine z_iconst (v := 0) dL_slits_168 (by decide) ?_
                          refine z_callSH (N := mL_slitOf) 3 [.ref 0, .int (nI (k - 1)), .int 0] [.int (nI 20)] lHL_slitOf ⟨zw_914, zw_915⟩ rfl rfl (Nat.le_of_ble_eq_true rfl) (by decide) ⟨hlen, hlen⟩ hG ⟨Nat.zero_le _, Nat.zero_le _⟩ (s0 (k - 1) (by omega)) dL_slits_169 ?_
                          refine z_imul dL_slits_172 ?_
                          refine z_aload_n 5 dL_slits_173 rfl rfl ?_
                          refine z_iload 3 dL_slits_174 rfl ?_
                          refine z_iconst (v := 1) dL_slits_176 (by decide) ?_
                          refine z_isub dL_slits_177 ?_
                          refine z_top (v2 := .int (nI (k - 1))) (by rw [p_prev (by omega) c_158]) ?_
                          refine z_iconst (v := 1) dL_slits_178 (by decide) ?_
                          refine z_callSH (N := mL_slitOf) 3 [.ref 0, .int (nI (k - 1)), .int 1] [.int ((nI 20) * (nI (sb (k - 1))))] lHL_slitOf ⟨zw_914, zw_915⟩ rfl rfl (Nat.le_of_ble_eq_true rfl) (by decide) ⟨hlen, hlen⟩ hG ⟨Nat.zero_le _, Nat.zero_le _⟩ (s1 (k - 1) (by omega)) dL_slits_179 ?_
                          refine z_iadd dL_slits_182 ?_
                          refine z_bipush (v := nI 20) dL_slits_183 (by decide) ?_
                          refine z_aload_n 5 dL_slits_185 rfl rfl ?_
                          refine z_iload 3 dL_slits_186 rfl ?_
                          refine z_iconst (v := 0) dL_slits_188 (by decide) ?_
                          refine z_callSH (N := mL_slitOf) 3 [.ref 0, .int (nI k), .int 0] [.int (nI 20), .int (((nI 20) * (nI (sb (k - 1)))) + (nI (sy (k - 1))))] lHL_slitOf ⟨zw_914, zw_915⟩ rfl rfl (Nat.le_of_ble_eq_true rfl) (by decide) ⟨hlen, hlen⟩ hG ⟨Nat.zero_le _, Nat.zero_le _⟩ (s0 k (by omega)) dL_slits_189 ?_
                          refine z_imul dL_slits_192 ?_
                          refine z_aload_n 5 dL_slits_193 rfl rfl ?_
                          refine z_iload 3 dL_slits_194 rfl ?_
                          refine z_iconst (v := 1) dL_slits_196 (by decide) ?_
                          refine z_callSH (N := mL_slitOf) 3 [.ref 0, .int (nI k), .int 1] [.int ((nI 20) * (nI (sb k))), .int (((nI 20) * (nI (sb (k - 1)))) + (nI (sy (k - 1))))] lHL_slitOf ⟨zw_914, zw_915⟩ rfl rfl (Nat.le_of_ble_eq_true rfl) (by decide) ⟨hlen, hlen⟩ hG ⟨Nat.zero_le _, Nat.zero_le _⟩ (s1 k (by omega)) dL_slits_197 ?_
                          refine z_iadd dL_slits_200 ?_
                          refine z_icmp_ge (tgt := 208) dL_slits_201 (by decide) (fun c_201 => ?_) (fun c_201 => ?_)
                          · exact absurd c_201 (p_ord (by have := hs (k - 1) (by omega); omega) (by have := hs (k - 1) (by omega); omega) (by have := hs k hx_k; omega) (by have := hs k hx_k; omega) (by have z0 := m_z_eq_f (by omega) c_158; have := hord (k - 1) (by omega); rw [show k - 1 + 1 = k by omega] at this; exact this))
                          · skip
                            refine z_iconst (v := 1) dL_slits_204 (by decide) ?_
                            refine z_goto (tgt := 209) dL_slits_205 (by decide) ?_
                            refine z_istore (lv' := [(5, .int 1), (4, .int (nI (zSN (fun k => if ss k then sl k else 0) (k + 1)))), (3, .int (nI (zCt ss (k + 1)))), (7, .int (nI (sl k))), (6, .int (nI k)), (0, .ref 0), (1, .int (nI lim)), (2, .int (nI (S lim)))]) dL_slits_209 (by decide) rfl ?_
                            refine z_iinc (v := nI (k + 1)) (lv' := [(6, .int (nI (k + 1))), (5, .int 1), (4, .int (nI (zSN (fun k => if ss k then sl k else 0) (k + 1)))), (3, .int (nI (zCt ss (k + 1)))), (7, .int (nI (sl k))), (0, .ref 0), (1, .int (nI lim)), (2, .int (nI (S lim)))]) 4 dL_slits_211 rfl (nI_1 k) (by decide) rfl ?_
                            refine z_goto (tgt := 73) dL_slits_214 (by decide) ?_
                            refine z_sub [0, 3, 2, 1, 5, 6, 7] (lv' := [(6, .int (nI (k + 1))), (3, .int (nI (zCt ss (k + 1)))), (4, .int (nI (zSN (fun k => if ss k then sl k else 0) (k + 1)))), (5, .int 1), (0, .ref 0), (1, .int (nI lim)), (2, .int (nI (S lim)))]) rfl ?_
                            refine z_eqs (lv2 := [(6, .int (nI (k + 1))), (3, .int (nI (zCt ss (k + 1)))), (4, .int (nI (zSN (fun k => if ss k then sl k else 0) (k + 1)))), (5, .int 1), (0, .ref 0), (1, .int (nI lim)), (2, .int (nI (S lim)))]) (h2 := H) (by rfl) (by rfl) ?_
                            exact ih73 (k + 1) (by omega) (by omega)
                  · skip
                    refine z_iload 1 dL_slits_126 rfl ?_
                    refine z_goto (tgt := 132) dL_slits_128 (by decide) ?_
                    refine z_iadd dL_slits_132 ?_
                    refine z_top (v2 := .int (nI (zSN (fun k => if ss k then sl k else 0) (k + 1)))) (by first | exact p_sr_t c_123 | exact p_sr_f c_123) ?_
                    refine z_istore (lv' := [(4, .int (nI (zSN (fun k => if ss k then sl k else 0) (k + 1)))), (3, .int (nI (zCt ss (k + 1)))), (7, .int (nI (sl k))), (6, .int (nI k)), (5, .int 1), (0, .ref 0), (1, .int (nI lim)), (2, .int (nI (S lim)))]) dL_slits_133 (by decide) rfl ?_
                    refine z_iload 2 dL_slits_135 rfl ?_
                    refine z_iload_n 6 dL_slits_137 rfl rfl ?_
                    refine z_icmp_le (tgt := 208) dL_slits_138 (by decide) (fun c_138 => ?_) (fun c_138 => ?_)
                    · exact absurd c_138 (nI_ge (hs k hx_k).1 (by have := hs k hx_k; omega))
                    · skip
                      refine z_aload_n 5 dL_slits_141 rfl rfl ?_
                      refine z_iload 3 dL_slits_142 rfl ?_
                      refine z_iconst (v := 2) dL_slits_144 (by decide) ?_
                      refine z_callSH (N := mL_slitOf) 3 [.ref 0, .int (nI k), .int 2] [] lHL_slitOf ⟨zw_914, zw_915⟩ rfl rfl (Nat.le_of_ble_eq_true rfl) (by decide) ⟨hlen, hlen⟩ hG ⟨Nat.zero_le _, Nat.zero_le _⟩ (s2 k (by omega)) dL_slits_145 ?_
                      refine z_aload_n 5 dL_slits_148 rfl rfl ?_
                      refine z_iconst (v := 2) dL_slits_149 (by decide) ?_
                      refine z_callSH (N := mL_whole) 2 [.ref 0, .int 2] [.int (nI (sy k + sl k - 1))] lHL_whole ⟨zw_810, zw_811⟩ rfl rfl (Nat.le_of_ble_eq_true rfl) (by decide) ⟨hlen, hlen⟩ hG ⟨Nat.zero_le _, Nat.zero_le _⟩ w2 dL_slits_150 ?_
                      refine z_icmp_ge (tgt := 208) dL_slits_153 (by decide) (fun c_153 => ?_) (fun c_153 => ?_)
                      · exact absurd c_153 (nI_ge (by have := hs k hx_k; omega) (by omega))
                      · skip
                        refine z_iload 3 dL_slits_156 rfl ?_
                        refine z_if_eq (tgt := 204) dL_slits_158 (by decide) (fun c_158 => ?_) (fun c_158 => ?_)
                        · skip
                          refine z_iconst (v := 1) dL_slits_204 (by decide) ?_
                          refine z_goto (tgt := 209) dL_slits_205 (by decide) ?_
                          refine z_istore (lv' := [(5, .int 1), (4, .int (nI (zSN (fun k => if ss k then sl k else 0) (k + 1)))), (3, .int (nI (zCt ss (k + 1)))), (7, .int (nI (sl k))), (6, .int (nI k)), (0, .ref 0), (1, .int (nI lim)), (2, .int (nI (S lim)))]) dL_slits_209 (by decide) rfl ?_
                          refine z_iinc (v := nI (k + 1)) (lv' := [(6, .int (nI (k + 1))), (5, .int 1), (4, .int (nI (zSN (fun k => if ss k then sl k else 0) (k + 1)))), (3, .int (nI (zCt ss (k + 1)))), (7, .int (nI (sl k))), (0, .ref 0), (1, .int (nI lim)), (2, .int (nI (S lim)))]) 4 dL_slits_211 rfl (nI_1 k) (by decide) rfl ?_
                          refine z_goto (tgt := 73) dL_slits_214 (by decide) ?_
                          refine z_sub [0, 3, 2, 1, 5, 6, 7] (lv' := [(6, .int (nI (k + 1))), (3, .int (nI (zCt ss (k + 1)))), (4, .int (nI (zSN (fun k => if ss k then sl k else 0) (k + 1)))), (5, .int 1), (0, .ref 0), (1, .int (nI lim)), (2, .int (nI (S lim)))]) rfl ?_
                          refine z_eqs (lv2 := [(6, .int (nI (k + 1))), (3, .int (nI (zCt ss (k + 1)))), (4, .int (nI (zSN (fun k => if ss k then sl k else 0) (k + 1)))), (5, .int 1), (0, .ref 0), (1, .int (nI lim)), (2, .int (nI (S lim)))]) (h2 := H) (by rfl) (by rfl) ?_
                          exact ih73 (k + 1) (by omega) (by omega)
                        · skip
                          refine z_bipush (v := nI 20) dL_slits_161 (by decide) ?_
                          refine z_aload_n 5 dL_slits_163 rfl rfl ?_
                          refine z_iload 3 dL_slits_164 rfl ?_
                          refine z_iconst (v := 1) dL_slits_166 (by decide) ?_
                          refine z_isub dL_slits_167 ?_
                          refine z_top (v2 := .int (nI (k - 1))) (by rw [p_prev (by omega) c_158]) ?_
                          refine z_iconst (v := 0) dL_slits_168 (by decide) ?_
                          refine z_callSH (N := mL_slitOf) 3 [.ref 0, .int (nI (k - 1)), .int 0] [.int (nI 20)] lHL_slitOf ⟨zw_914, zw_915⟩ rfl rfl (Nat.le_of_ble_eq_true rfl) (by decide) ⟨hlen, hlen⟩ hG ⟨Nat.zero_le _, Nat.zero_le _⟩ (s0 (k - 1) (by omega)) dL_slits_169 ?_
                          refine z_imul dL_slits_172 ?_
                          refine z_aload_n 5 dL_slits_173 rfl rfl ?_
                          refine z_iload 3 dL_slits_174 rfl ?_
                          refine z_iconst (v := 1) dL_slits_176 (by decide) ?_
                          refine z_isub dL_slits_177 ?_
                          refine z_top (v2 := .int (nI (k - 1))) (by rw [p_prev (by omega) c_158]) ?_
                          refine z_iconst (v := 1) dL_slits_178 (by decide) ?_
                          refine z_callSH (N := mL_slitOf) 3 [.ref 0, .int (nI (k - 1)), .int 1] [.int ((nI 20) * (nI (sb (k - 1))))] lHL_slitOf ⟨zw_914, zw_915⟩ rfl rfl (Nat.le_of_ble_eq_true rfl) (by decide) ⟨hlen, hlen⟩ hG ⟨Nat.zero_le _, Nat.zero_le _⟩ (s1 (k - 1) (by omega)) dL_slits_179 ?_
                          refine z_iadd dL_slits_182 ?_
                          refine z_bipush (v := nI 20) dL_slits_183 (by decide) ?_
                          refine z_aload_n 5 dL_slits_185 rfl rfl ?_
                          refine z_iload 3 dL_slits_186 rfl ?_
                          refine z_iconst (v := 0) dL_slits_188 (by decide) ?_
                          refine z_callSH (N := mL_slitOf) 3 [.ref 0, .int (nI k), .int 0] [.int (nI 20), .int (((nI 20) * (nI (sb (k - 1)))) + (nI (sy (k - 1))))] lHL_slitOf ⟨zw_914, zw_915⟩ rfl rfl (Nat.le_of_ble_eq_true rfl) (by decide) ⟨hlen, hlen⟩ hG ⟨Nat.zero_le _, Nat.zero_le _⟩ (s0 k (by omega)) dL_slits_189 ?_
                          refine z_imul dL_slits_192 ?_
                          refine z_aload_n 5 dL_slits_193 rfl rfl ?_
                          refine z_iload 3 dL_slits_194 rfl ?_
                          refine z_iconst (v := 1) dL_slits_196 (by decide) ?_
                          refine z_callSH (N := mL_slitOf) 3 [.ref 0, .int (nI k), .int 1] [.int ((nI 20) * (nI (sb k))), .int (((nI 20) * (nI (sb (k - 1)))) + (nI (sy (k - 1))))] lHL_slitOf ⟨zw_914, zw_915⟩ rfl rfl (Nat.le_of_ble_eq_true rfl) (by decide) ⟨hlen, hlen⟩ hG ⟨Nat.zero_le _, Nat.zero_le _⟩ (s1 k (by omega)) dL_slits_197 ?_
                          refine z_iadd dL_slits_200 ?_
                          refine z_icmp_ge (tgt := 208) dL_slits_201 (by decide) (fun c_201 => ?_) (fun c_201 => ?_)
                          · exact absurd c_201 (p_ord (by have := hs (k - 1) (by omega); omega) (by have := hs (k - 1) (by omega); omega) (by have := hs k hx_k; omega) (by have := hs k hx_k; omega) (by have z0 := m_z_eq_f (by omega) c_158; have := hord (k - 1) (by omega); rw [show k - 1 + 1 = k by omega] at this; exact this))
                          · skip
                            refine z_iconst (v := 1) dL_slits_204 (by decide) ?_
                            refine z_goto (tgt := 209) dL_slits_205 (by decide) ?_
                            refine z_istore (lv' := [(5, .int 1), (4, .int (nI (zSN (fun k => if ss k then sl k else 0) (k + 1)))), (3, .int (nI (zCt ss (k + 1)))), (7, .int (nI (sl k))), (6, .int (nI k)), (0, .ref 0), (1, .int (nI lim)), (2, .int (nI (S lim)))]) dL_slits_209 (by decide) rfl ?_
                            refine z_iinc (v := nI (k + 1)) (lv' := [(6, .int (nI (k + 1))), (5, .int 1), (4, .int (nI (zSN (fun k => if ss k then sl k else 0) (k + 1)))), (3, .int (nI (zCt ss (k + 1)))), (7, .int (nI (sl k))), (0, .ref 0), (1, .int (nI lim)), (2, .int (nI (S lim)))]) 4 dL_slits_211 rfl (nI_1 k) (by decide) rfl ?_
                            refine z_goto (tgt := 73) dL_slits_214 (by decide) ?_
                            refine z_sub [0, 3, 2, 1, 5, 6, 7] (lv' := [(6, .int (nI (k + 1))), (3, .int (nI (zCt ss (k + 1)))), (4, .int (nI (zSN (fun k => if ss k then sl k else 0) (k + 1)))), (5, .int 1), (0, .ref 0), (1, .int (nI lim)), (2, .int (nI (S lim)))]) rfl ?_
                            refine z_eqs (lv2 := [(6, .int (nI (k + 1))), (3, .int (nI (zCt ss (k + 1)))), (4, .int (nI (zSN (fun k => if ss k then sl k else 0) (k + 1)))), (5, .int 1), (0, .ref 0), (1, .int (nI lim)), (2, .int (nI (S lim)))]) (h2 := H) (by rfl) (by rfl) ?_
                            exact ih73 (k + 1) (by omega) (by omega)
          refine z_sub [0, 3, 2, 1, 6, 5, 4] (lv' := [(6, .int 0), (3, .int 0), (4, .int 0), (5, .int 1), (0, .ref 0), (1, .int (nI lim)), (2, .int (nI (S lim)))]) rfl ?_
          refine z_eqs (lv2 := [(6, .int (nI 0)), (3, .int (nI (zCt ss 0))), (4, .int (nI (zSN (fun k => if ss k then sl k else 0) 0))), (5, .int 1), (0, .ref 0), (1, .int (nI lim)), (2, .int (nI (S lim)))]) (h2 := H) (by rfl) (by rfl) ?_
          exact L73_1 ((S lim) + 1) 0 (Nat.zero_le _) (by omega)

set_option maxHeartbeats 4000000 in
set_option maxRecDepth 100000 in
theorem v_holds {G : zT} {H : zH} {fs9 : List Value} (hG : zAl G = false) (hlen : H.length < 1000) (e0 : H[0]? = some (.inr (7, fs9))) (h_wovenRows : zRun G mL_wovenRows 0 0 [.ref 0] H (.inr (some (.int 1))) H) (h_yarns : zRun G mL_yarns 0 0 [.ref 0] H (.inr (some (.int 1))) H) (h_slits : zRun G mL_slits 0 0 [.ref 0] H (.inr (some (.int 1))) H) : zRun G mL_holds 0 0 [.ref 0] H (.inr (some (.int 1))) H := by
  refine zRun_of (by decide +kernel) rfl rfl (Nat.le_of_ble_eq_true rfl) ?_
  suffices hs : ∀ (o9 : zO) (h9 : zH), (Sum.inr (some (.int 1)) : zO) = o9 → H = h9 → zPW G mL_holds 0 0 o9 h9 0 0 0 [(0, .ref 0)] [] H from hs _ _ rfl rfl
  intro o9 h9 ho9 hh9
  refine z_aload_n 0 dL_holds_0 rfl rfl ?_
  refine z_callS (N := mL_wovenRows) 1 [.ref 0] [] lL_wovenRows ⟨zw_831, zw_832⟩ rfl rfl rfl (Nat.le_of_ble_eq_true rfl) (by decide) ⟨hlen, hlen⟩ hG ⟨Nat.zero_le _, Nat.zero_le _⟩ h_wovenRows dL_holds_1 ?_
  refine z_if_eq (tgt := 25) dL_holds_4 (by decide) (fun c_4 => ?_) (fun c_4 => ?_)
  · exact absurd c_4 (by decide)
  · skip
    refine z_aload_n 0 dL_holds_7 rfl rfl ?_
    refine z_callS (N := mL_yarns) 1 [.ref 0] [] lL_yarns ⟨zw_869, zw_870⟩ rfl rfl rfl (Nat.le_of_ble_eq_true rfl) (by decide) ⟨hlen, hlen⟩ hG ⟨Nat.zero_le _, Nat.zero_le _⟩ h_yarns dL_holds_8 ?_
    refine z_if_eq (tgt := 25) dL_holds_11 (by decide) (fun c_11 => ?_) (fun c_11 => ?_)
    · exact absurd c_11 (by decide)
    · skip
      refine z_aload_n 0 dL_holds_14 rfl rfl ?_
      refine z_callS (N := mL_slits) 1 [.ref 0] [] lL_slits ⟨zw_903, zw_904⟩ rfl rfl rfl (Nat.le_of_ble_eq_true rfl) (by decide) ⟨hlen, hlen⟩ hG ⟨Nat.zero_le _, Nat.zero_le _⟩ h_slits dL_holds_15 ?_
      refine z_if_eq (tgt := 25) dL_holds_18 (by decide) (fun c_18 => ?_) (fun c_18 => ?_)
      · exact absurd c_18 (by decide)
      · skip
        refine z_iconst (v := 1) dL_holds_21 (by decide) ?_
        refine z_goto (tgt := 26) dL_holds_22 (by decide) ?_
        exact z_zret rfl (by rfl) dL_holds_26 (zo_i ho9 (by rfl)) (zo_h hh9 (by rfl)) (Nat.zero_le _) (Nat.zero_le _)
