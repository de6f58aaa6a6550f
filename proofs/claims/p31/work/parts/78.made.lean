theorem zj_hal {P X Y : zH} {m : Nat} (e : X.length = Y.length + m) : (P ++ X).length = (P ++ Y).length + m := by rw [List.length_append, List.length_append, e, Nat.add_assoc]
theorem zj_lt {P X : zH} {q n b : Nat} (h : P.length = q) (e : X.length = n) (hlt : q + n < b) : (P ++ X).length < b := by rw [List.length_append, h, e]; exact hlt
theorem zj_pos {P X : zH} {n : Nat} (e : X.length = n + 1) : 0 < (P ++ X).length := by rw [List.length_append, e]; omega

theorem df_X6 : ∀ j, j < 1 → defaultValue (tyX6 j) = vp_V [.null] j := by
  intro j hj
  rcases (show j = 0 by omega) with rfl <;> rfl

theorem df_X2 : ∀ j, j < 1 → defaultValue (tyX2 j) = vp_V [.null] j := by
  intro j hj
  rcases (show j = 0 by omega) with rfl <;> rfl

theorem df_X5 : ∀ j, j < 6 → defaultValue (tyX5 j) = vp_V [.int (nI 0), .null, .null, .null, .null, .null] j := by
  intro j hj
  rcases (show j = 0 ∨ j = 1 ∨ j = 2 ∨ j = 3 ∨ j = 4 ∨ j = 5 by omega) with rfl | rfl | rfl | rfl | rfl | rfl <;> rfl

theorem df_X4 : ∀ j, j < 11 → defaultValue (tyX4 j) = vp_V [.int (nI 0), .int (nI 0), .int (nI 0), .int (nI 0), .int (nI 0), .null, .null, .null, .null, .null, .null] j := by
  intro j hj
  rcases (show j = 0 ∨ j = 1 ∨ j = 2 ∨ j = 3 ∨ j = 4 ∨ j = 5 ∨ j = 6 ∨ j = 7 ∨ j = 8 ∨ j = 9 ∨ j = 10 by omega) with rfl | rfl | rfl | rfl | rfl | rfl | rfl | rfl | rfl | rfl | rfl <;> rfl

theorem df_X3 : ∀ j, j < 3 → defaultValue (tyX3 j) = vp_V [.null, .int (nI 0), .int (nI 0)] j := by
  intro j hj
  rcases (show j = 0 ∨ j = 1 ∨ j = 2 by omega) with rfl | rfl | rfl <;> rfl

theorem df_X1 : ∀ j, j < 2 → defaultValue (tyX1 j) = vp_V [.null, .int (nI 0)] j := by
  intro j hj
  rcases (show j = 0 ∨ j = 1 by omega) with rfl | rfl <;> rfl

theorem df_X0 : ∀ j, j < 5 → defaultValue (tyX0 j) = vp_V [.null, .null, .null, .int (nI 0), .int (nI 0)] j := by
  intro j hj
  rcases (show j = 0 ∨ j = 1 ∨ j = 2 ∨ j = 3 ∨ j = 4 by omega) with rfl | rfl | rfl | rfl | rfl <;> rfl

theorem df_X9 : ∀ j, j < 4 → defaultValue (tyX9 j) = vp_V [.null, .null, .null, .null] j := by
  intro j hj
  rcases (show j = 0 ∨ j = 1 ∨ j = 2 ∨ j = 3 by omega) with rfl | rfl | rfl | rfl <;> rfl

set_option maxHeartbeats 4000000 in
set_option maxRecDepth 100000 in
theorem i_num {G : zT} (hG : zAl G = true) {pre : zH} {k : Nat} (hk : pre.length = k) (hl : k + 3 < 999) {n : Nat} (hn : n ≤ 1000) : zRun G mX6_init 1 n [.ref k, .int (nI n)] (pre ++ ([.inr (6, [.null])] : zH)) (.inr none) (pre ++ ([.inr (6, [.ref (k + 1)]), .inl (0, n, .inl (fun _ => 0))] : zH)) := by
  refine zRun_of (by decide +kernel) rfl rfl (Nat.le_of_ble_eq_true rfl) ?_
  suffices hs : ∀ (o9 : zO) (h9 : zH), (Sum.inr none : zO) = o9 → (pre ++ ([.inr (6, [.ref (k + 1)]), .inl (0, n, .inl (fun _ => 0))] : zH)) = h9 → zPW G mX6_init 1 n o9 h9 0 0 0 [(0, .ref k), (1, .int (nI n))] [] (pre ++ ([.inr (6, [.null])] : zH)) from hs _ _ rfl rfl
  intro o9 h9 ho9 hh9
  refine z_aload_n 0 dX6_init_0 rfl rfl ?_
  refine z_objInit zw_84 (by decide) (Nat.le_of_ble_eq_true rfl) dX6_init_1 ?_
  refine z_aload_n 0 dX6_init_4 rfl rfl ?_
  refine z_iload_n 1 dX6_init_5 rfl rfl ?_
  refine z_iconst (v := nI 0) dX6_init_6 (by decide) ?_
  refine z_mmax zw_85 (by decide) (Nat.le_of_ble_eq_true rfl) ⟨Nat.zero_le _, Nat.zero_le _⟩ dX6_init_7 ?_
  refine z_top (v2 := .int (nI n)) (congrArg Value.int (if_neg (nI_pos (by omega)))) ?_
  refine z_newaI (N := n) (h2 := pre ++ ([.inr (6, [.null]), .inl (0, n, .inl (fun _ => 0))] : zH)) hG (zj_lt (n := 1) hk rfl (by omega)) (zj_pos (n := 0) rfl) (nI_pos (by omega)) (nI_clamp (by omega)) (by omega) ⟨Nat.le_of_ble_eq_true rfl, by omega⟩ zw_78 dX6_init_10 (zj_len (n := 1) hk rfl) (zj_app rfl) ?_
  refine z_putFa 0 tyX6 (zj_get 0 hk rfl) rfl inX6 tyX6_ok nmX6 (by decide) zw_88 rfl rfl rfl rfl (by decide +kernel) (Nat.le_of_ble_eq_true rfl) dX6_init_12 ?_
  refine z_eqh (h2 := pre ++ ([.inr (6, [.ref (k + 1)]), .inl (0, n, .inl (fun _ => 0))] : zH)) (zj_set 0 hk rfl) ?_
  exact z_vret rfl dX6_init_15 ho9.symm (zo_h hh9 rfl) (by decide) (by first | decide | omega)

set_option maxHeartbeats 4000000 in
set_option maxRecDepth 100000 in
theorem i_grid {G : zT} (hG : zAl G = true) {pre : zH} {k : Nat} (hk : pre.length = k) (hl : k + 3 < 999) : zRun G mX2_init 1 320 [.ref k] (pre ++ ([.inr (2, [.null])] : zH)) (.inr none) (pre ++ ([.inr (2, [.ref (k + 1)]), .inl (0, 320, .inl (fun _ => 0))] : zH)) := by
  refine zRun_of (by decide +kernel) rfl rfl (Nat.le_of_ble_eq_true rfl) ?_
  suffices hs : ∀ (o9 : zO) (h9 : zH), (Sum.inr none : zO) = o9 → (pre ++ ([.inr (2, [.ref (k + 1)]), .inl (0, 320, .inl (fun _ => 0))] : zH)) = h9 → zPW G mX2_init 1 320 o9 h9 0 0 0 [(0, .ref k)] [] (pre ++ ([.inr (2, [.null])] : zH)) from hs _ _ rfl rfl
  intro o9 h9 ho9 hh9
  refine z_aload_n 0 dX2_init_0 rfl rfl ?_
  refine z_objInit zw_73 (by decide) (Nat.le_of_ble_eq_true rfl) dX2_init_1 ?_
  refine z_aload_n 0 dX2_init_4 rfl rfl ?_
  refine z_sipush (v := nI 320) dX2_init_5 (by decide) ?_
  refine z_newaI (N := 320) (h2 := pre ++ ([.inr (2, [.null]), .inl (0, 320, .inl (fun _ => 0))] : zH)) hG (zj_lt (n := 1) hk rfl (by omega)) (zj_pos (n := 0) rfl) (nI_pos (by omega)) (nI_clamp (by omega)) (by omega) ⟨Nat.le_of_ble_eq_true rfl, Nat.le_of_ble_eq_true rfl⟩ zw_78 dX2_init_8 (zj_len (n := 1) hk rfl) (zj_app rfl) ?_
  refine z_putFa 0 tyX2 (zj_get 0 hk rfl) rfl inX2 tyX2_ok nmX2 (by decide) zw_74 rfl rfl rfl rfl (by decide +kernel) (Nat.le_of_ble_eq_true rfl) dX2_init_10 ?_
  refine z_eqh (h2 := pre ++ ([.inr (2, [.ref (k + 1)]), .inl (0, 320, .inl (fun _ => 0))] : zH)) (zj_set 0 hk rfl) ?_
  exact z_vret rfl dX2_init_13 ho9.symm (zo_h hh9 rfl) (by decide) (by first | decide | omega)

set_option maxHeartbeats 4000000 in
set_option maxRecDepth 100000 in
theorem i_lots {G : zT} (hG : zAl G = true) {pre : zH} {k : Nat} (hk : pre.length = k) (hl : k + 12 < 999) : zRun G mX5_init 9 84 [.ref k] (pre ++ ([.inr (5, [.int (nI 0), .null, .null, .null, .null, .null])] : zH)) (.inr none) (pre ++ ([.inr (5, [.int (nI 0), .ref (k + 1), .ref (k + 3), .ref (k + 5), .ref (k + 7), .ref (k + 9)]), .inr (6, [.ref (k + 2)]), .inl (0, 16, .inl (fun _ => 0)), .inr (6, [.ref (k + 4)]), .inl (0, 16, .inl (fun _ => 0)), .inr (6, [.ref (k + 6)]), .inl (0, 16, .inl (fun _ => 0)), .inr (6, [.ref (k + 8)]), .inl (0, 16, .inl (fun _ => 0)), .inl (2, 16, .inr (.inr (.inl (fun _ => 0))))] : zH)) := by
  refine zRun_of (by decide +kernel) rfl rfl (Nat.le_of_ble_eq_true rfl) ?_
  suffices hs : ∀ (o9 : zO) (h9 : zH), (Sum.inr none : zO) = o9 → (pre ++ ([.inr (5, [.int (nI 0), .ref (k + 1), .ref (k + 3), .ref (k + 5), .ref (k + 7), .ref (k + 9)]), .inr (6, [.ref (k + 2)]), .inl (0, 16, .inl (fun _ => 0)), .inr (6, [.ref (k + 4)]), .inl (0, 16, .inl (fun _ => 0)), .inr (6, [.ref (k + 6)]), .inl (0, 16, .inl (fun _ => 0)), .inr (6, [.ref (k + 8)]), .inl (0, 16, .inl (fun _ => 0)), .inl (2, 16, .inr (.inr (.inl (fun _ => 0))))] : zH)) = h9 → zPW G mX5_init 9 84 o9 h9 0 0 0 [(0, .ref k)] [] (pre ++ ([.inr (5, [.int (nI 0), .null, .null, .null, .null, .null])] : zH)) from hs _ _ rfl rfl
  intro o9 h9 ho9 hh9
  refine z_aload_n 0 dX5_init_0 rfl rfl ?_
  refine z_objInit zw_97 (by decide) (Nat.le_of_ble_eq_true rfl) dX5_init_1 ?_
  refine z_aload_n 0 dX5_init_4 rfl rfl ?_
  refine z_new (ci := 6) (Cn := RX6) (T := TX6) (fs := [.null]) tyX6 hG (zj_lt (n := 1) hk rfl (by omega)) (Or.inl (zj_pos (n := 0) rfl)) rfl inX6 tyX6_ok zw_98 zw_80 zw_38 df_X6 (fun _ => rfl) ⟨Nat.le_of_ble_eq_true rfl, Nat.le_of_ble_eq_true rfl⟩ dX5_init_5 (zj_len (n := 1) hk rfl) rfl ?_
  refine z_dup dX5_init_8 rfl ?_
  refine z_bipush (v := nI 16) dX5_init_9 (by decide) ?_
  refine z_callI (N := mX6_init) (mc1 := 1) (ms1 := 16) (h1 := (pre ++ ([.inr (5, [.int (nI 0), .null, .null, .null, .null, .null])] : zH)) ++ ([.inr (6, [.ref (k + 2)]), .inl (0, 16, .inl (fun _ => 0))] : zH)) 1 [.int (nI 16)] [.ref (k + 1), .ref k] hG lX6_init ⟨zw_99, zw_82⟩ rfl rfl rfl rfl (Nat.le_of_ble_eq_true rfl) (by decide) ⟨zj_lt (n := 1) (zj_len (n := 1) hk rfl) rfl (by omega), zj_lt (n := 2) (zj_len (n := 1) hk rfl) rfl (by omega)⟩ (zj_pos (n := 0) rfl) ⟨Nat.le_of_ble_eq_true rfl, Nat.le_of_ble_eq_true rfl⟩ (zj_hal rfl) (i_num hG (zj_len (n := 1) hk rfl) (by omega) (by decide)) dX5_init_11 ?_
  refine z_eqh (h2 := pre ++ ([.inr (5, [.int (nI 0), .null, .null, .null, .null, .null]), .inr (6, [.ref (k + 2)]), .inl (0, 16, .inl (fun _ => 0))] : zH)) (zj_app rfl) ?_
  refine z_putFr (X := "MirrorLoom$Numbers") 1 tyX5 (zj_get 0 hk rfl) rfl inX5 tyX5_ok nmX5 (by decide) zw_103 rfl rfl rfl rfl (by decide +kernel) (Nat.le_of_ble_eq_true rfl) dX5_init_14 ?_
  refine z_eqh (h2 := pre ++ ([.inr (5, [.int (nI 0), .ref (k + 1), .null, .null, .null, .null]), .inr (6, [.ref (k + 2)]), .inl (0, 16, .inl (fun _ => 0))] : zH)) (zj_set 0 hk rfl) ?_
  refine z_aload_n 0 dX5_init_17 rfl rfl ?_
  refine z_new (ci := 6) (Cn := RX6) (T := TX6) (fs := [.null]) tyX6 hG (zj_lt (n := 3) hk rfl (by omega)) (Or.inl (zj_pos (n := 2) rfl)) rfl inX6 tyX6_ok zw_98 zw_80 zw_38 df_X6 (fun _ => rfl) ⟨Nat.le_of_ble_eq_true rfl, Nat.le_of_ble_eq_true rfl⟩ dX5_init_18 (zj_len (n := 3) hk rfl) rfl ?_
  refine z_dup dX5_init_21 rfl ?_
  refine z_bipush (v := nI 16) dX5_init_22 (by decide) ?_
  refine z_callI (N := mX6_init) (mc1 := 1) (ms1 := 16) (h1 := (pre ++ ([.inr (5, [.int (nI 0), .ref (k + 1), .null, .null, .null, .null]), .inr (6, [.ref (k + 2)]), .inl (0, 16, .inl (fun _ => 0))] : zH)) ++ ([.inr (6, [.ref (k + 4)]), .inl (0, 16, .inl (fun _ => 0))] : zH)) 1 [.int (nI 16)] [.ref (k + 3), .ref k] hG lX6_init ⟨zw_99, zw_82⟩ rfl rfl rfl rfl (Nat.le_of_ble_eq_true rfl) (by decide) ⟨zj_lt (n := 1) (zj_len (n := 3) hk rfl) rfl (by omega), zj_lt (n := 2) (zj_len (n := 3) hk rfl) rfl (by omega)⟩ (zj_pos (n := 0) rfl) ⟨Nat.le_of_ble_eq_true rfl, Nat.le_of_ble_eq_true rfl⟩ (zj_hal rfl) (i_num hG (zj_len (n := 3) hk rfl) (by omega) (by decide)) dX5_init_24 ?_
  refine z_eqh (h2 := pre ++ ([.inr (5, [.int (nI 0), .ref (k + 1), .null, .null, .null, .null]), .inr (6, [.ref (k + 2)]), .inl (0, 16, .inl (fun _ => 0)), .inr (6, [.ref (k + 4)]), .inl (0, 16, .inl (fun _ => 0))] : zH)) (zj_app rfl) ?_
  refine z_putFr (X := "MirrorLoom$Numbers") 2 tyX5 (zj_get 0 hk rfl) rfl inX5 tyX5_ok nmX5 (by decide) zw_105 rfl rfl rfl rfl (by decide +kernel) (Nat.le_of_ble_eq_true rfl) dX5_init_27 ?_
  refine z_eqh (h2 := pre ++ ([.inr (5, [.int (nI 0), .ref (k + 1), .ref (k + 3), .null, .null, .null]), .inr (6, [.ref (k + 2)]), .inl (0, 16, .inl (fun _ => 0)), .inr (6, [.ref (k + 4)]), .inl (0, 16, .inl (fun _ => 0))] : zH)) (zj_set 0 hk rfl) ?_
  refine z_aload_n 0 dX5_init_30 rfl rfl ?_
  refine z_new (ci := 6) (Cn := RX6) (T := TX6) (fs := [.null]) tyX6 hG (zj_lt (n := 5) hk rfl (by omega)) (Or.inl (zj_pos (n := 4) rfl)) rfl inX6 tyX6_ok zw_98 zw_80 zw_38 df_X6 (fun _ => rfl) ⟨Nat.le_of_ble_eq_true rfl, Nat.le_of_ble_eq_true rfl⟩ dX5_init_31 (zj_len (n := 5) hk rfl) rfl ?_
  refine z_dup dX5_init_34 rfl ?_
  refine z_bipush (v := nI 16) dX5_init_35 (by decide) ?_
  refine z_callI (N := mX6_init) (mc1 := 1) (ms1 := 16) (h1 := (pre ++ ([.inr (5, [.int (nI 0), .ref (k + 1), .ref (k + 3), .null, .null, .null]), .inr (6, [.ref (k + 2)]), .inl (0, 16, .inl (fun _ => 0)), .inr (6, [.ref (k + 4)]), .inl (0, 16, .inl (fun _ => 0))] : zH)) ++ ([.inr (6, [.ref (k + 6)]), .inl (0, 16, .inl (fun _ => 0))] : zH)) 1 [.int (nI 16)] [.ref (k + 5), .ref k] hG lX6_init ⟨zw_99, zw_82⟩ rfl rfl rfl rfl (Nat.le_of_ble_eq_true rfl) (by decide) ⟨zj_lt (n := 1) (zj_len (n := 5) hk rfl) rfl (by omega), zj_lt (n := 2) (zj_len (n := 5) hk rfl) rfl (by omega)⟩ (zj_pos (n := 0) rfl) ⟨Nat.le_of_ble_eq_true rfl, Nat.le_of_ble_eq_true rfl⟩ (zj_hal rfl) (i_num hG (zj_len (n := 5) hk rfl) (by omega) (by decide)) dX5_init_37 ?_
  refine z_eqh (h2 := pre ++ ([.inr (5, [.int (nI 0), .ref (k + 1), .ref (k + 3), .null, .null, .null]), .inr (6, [.ref (k + 2)]), .inl (0, 16, .inl (fun _ => 0)), .inr (6, [.ref (k + 4)]), .inl (0, 16, .inl (fun _ => 0)), .inr (6, [.ref (k + 6)]), .inl (0, 16, .inl (fun _ => 0))] : zH)) (zj_app rfl) ?_
  refine z_putFr (X := "MirrorLoom$Numbers") 3 tyX5 (zj_get 0 hk rfl) rfl inX5 tyX5_ok nmX5 (by decide) zw_107 rfl rfl rfl rfl (by decide +kernel) (Nat.le_of_ble_eq_true rfl) dX5_init_40 ?_
  refine z_eqh (h2 := pre ++ ([.inr (5, [.int (nI 0), .ref (k + 1), .ref (k + 3), .ref (k + 5), .null, .null]), .inr (6, [.ref (k + 2)]), .inl (0, 16, .inl (fun _ => 0)), .inr (6, [.ref (k + 4)]), .inl (0, 16, .inl (fun _ => 0)), .inr (6, [.ref (k + 6)]), .inl (0, 16, .inl (fun _ => 0))] : zH)) (zj_set 0 hk rfl) ?_
  refine z_aload_n 0 dX5_init_43 rfl rfl ?_
  refine z_new (ci := 6) (Cn := RX6) (T := TX6) (fs := [.null]) tyX6 hG (zj_lt (n := 7) hk rfl (by omega)) (Or.inl (zj_pos (n := 6) rfl)) rfl inX6 tyX6_ok zw_98 zw_80 zw_38 df_X6 (fun _ => rfl) ⟨Nat.le_of_ble_eq_true rfl, Nat.le_of_ble_eq_true rfl⟩ dX5_init_44 (zj_len (n := 7) hk rfl) rfl ?_
  refine z_dup dX5_init_47 rfl ?_
  refine z_bipush (v := nI 16) dX5_init_48 (by decide) ?_
  refine z_callI (N := mX6_init) (mc1 := 1) (ms1 := 16) (h1 := (pre ++ ([.inr (5, [.int (nI 0), .ref (k + 1), .ref (k + 3), .ref (k + 5), .null, .null]), .inr (6, [.ref (k + 2)]), .inl (0, 16, .inl (fun _ => 0)), .inr (6, [.ref (k + 4)]), .inl (0, 16, .inl (fun _ => 0)), .inr (6, [.ref (k + 6)]), .inl (0, 16, .inl (fun _ => 0))] : zH)) ++ ([.inr (6, [.ref (k + 8)]), .inl (0, 16, .inl (fun _ => 0))] : zH)) 1 [.int (nI 16)] [.ref (k + 7), .ref k] hG lX6_init ⟨zw_99, zw_82⟩ rfl rfl rfl rfl (Nat.le_of_ble_eq_true rfl) (by decide) ⟨zj_lt (n := 1) (zj_len (n := 7) hk rfl) rfl (by omega), zj_lt (n := 2) (zj_len (n := 7) hk rfl) rfl (by omega)⟩ (zj_pos (n := 0) rfl) ⟨Nat.le_of_ble_eq_true rfl, Nat.le_of_ble_eq_true rfl⟩ (zj_hal rfl) (i_num hG (zj_len (n := 7) hk rfl) (by omega) (by decide)) dX5_init_50 ?_
  refine z_eqh (h2 := pre ++ ([.inr (5, [.int (nI 0), .ref (k + 1), .ref (k + 3), .ref (k + 5), .null, .null]), .inr (6, [.ref (k + 2)]), .inl (0, 16, .inl (fun _ => 0)), .inr (6, [.ref (k + 4)]), .inl (0, 16, .inl (fun _ => 0)), .inr (6, [.ref (k + 6)]), .inl (0, 16, .inl (fun _ => 0)), .inr (6, [.ref (k + 8)]), .inl (0, 16, .inl (fun _ => 0))] : zH)) (zj_app rfl) ?_
  refine z_putFr (X := "MirrorLoom$Numbers") 4 tyX5 (zj_get 0 hk rfl) rfl inX5 tyX5_ok nmX5 (by decide) zw_109 rfl rfl rfl rfl (by decide +kernel) (Nat.le_of_ble_eq_true rfl) dX5_init_53 ?_
  refine z_eqh (h2 := pre ++ ([.inr (5, [.int (nI 0), .ref (k + 1), .ref (k + 3), .ref (k + 5), .ref (k + 7), .null]), .inr (6, [.ref (k + 2)]), .inl (0, 16, .inl (fun _ => 0)), .inr (6, [.ref (k + 4)]), .inl (0, 16, .inl (fun _ => 0)), .inr (6, [.ref (k + 6)]), .inl (0, 16, .inl (fun _ => 0)), .inr (6, [.ref (k + 8)]), .inl (0, 16, .inl (fun _ => 0))] : zH)) (zj_set 0 hk rfl) ?_
  refine z_aload_n 0 dX5_init_56 rfl rfl ?_
  refine z_bipush (v := nI 16) dX5_init_57 (by decide) ?_
  refine z_newaF (N := 16) (h2 := pre ++ ([.inr (5, [.int (nI 0), .ref (k + 1), .ref (k + 3), .ref (k + 5), .ref (k + 7), .null]), .inr (6, [.ref (k + 2)]), .inl (0, 16, .inl (fun _ => 0)), .inr (6, [.ref (k + 4)]), .inl (0, 16, .inl (fun _ => 0)), .inr (6, [.ref (k + 6)]), .inl (0, 16, .inl (fun _ => 0)), .inr (6, [.ref (k + 8)]), .inl (0, 16, .inl (fun _ => 0)), .inl (2, 16, .inr (.inr (.inl (fun _ => 0))))] : zH)) hG (zj_lt (n := 9) hk rfl (by omega)) (zj_pos (n := 8) rfl) (nI_pos (by omega)) (nI_clamp (by omega)) (by omega) ⟨Nat.le_of_ble_eq_true rfl, Nat.le_of_ble_eq_true rfl⟩ zw_125 dX5_init_59 (zj_len (n := 9) hk rfl) (zj_app rfl) ?_
  refine z_putFaf 5 tyX5 (zj_get 0 hk rfl) rfl inX5 tyX5_ok nmX5 (by decide) zw_111 rfl rfl rfl rfl (by decide +kernel) (Nat.le_of_ble_eq_true rfl) dX5_init_61 ?_
  refine z_eqh (h2 := pre ++ ([.inr (5, [.int (nI 0), .ref (k + 1), .ref (k + 3), .ref (k + 5), .ref (k + 7), .ref (k + 9)]), .inr (6, [.ref (k + 2)]), .inl (0, 16, .inl (fun _ => 0)), .inr (6, [.ref (k + 4)]), .inl (0, 16, .inl (fun _ => 0)), .inr (6, [.ref (k + 6)]), .inl (0, 16, .inl (fun _ => 0)), .inr (6, [.ref (k + 8)]), .inl (0, 16, .inl (fun _ => 0)), .inl (2, 16, .inr (.inr (.inl (fun _ => 0))))] : zH)) (zj_set 0 hk rfl) ?_
  exact z_vret rfl dX5_init_64 ho9.symm (zo_h hh9 rfl) (by decide) (by first | decide | omega)

set_option maxHeartbeats 4000000 in
set_option maxRecDepth 100000 in
theorem i_loom {G : zT} (hG : zAl G = true) {pre : zH} {k : Nat} (hk : pre.length = k) (hl : k + 24 < 999) : zRun G mX4_init 20 1395 [.ref k] (pre ++ ([.inr (4, [.int (nI 0), .int (nI 0), .int (nI 0), .int (nI 0), .int (nI 0), .null, .null, .null, .null, .null, .null])] : zH)) (.inr none) (pre ++ ([.inr (4, [.int (nI 8), .int (nI 6), .int (nI 0), .int (nI 3), .int 1073741824, .ref (k + 1), .ref (k + 3), .ref (k + 5), .ref (k + 7), .ref (k + 9), .ref (k + 11)]), .inr (2, [.ref (k + 2)]), .inl (0, 320, .inl (fun _ => 0)), .inr (2, [.ref (k + 4)]), .inl (0, 320, .inl (fun _ => 0)), .inr (2, [.ref (k + 6)]), .inl (0, 320, .inl (fun _ => 0)), .inr (2, [.ref (k + 8)]), .inl (0, 320, .inl (fun _ => 0)), .inr (6, [.ref (k + 10)]), .inl (0, 20, .inl (zFl (fun _ => -1) (fun _ => 0) 20)), .inr (5, [.int (nI 0), .ref (k + 12), .ref (k + 14), .ref (k + 16), .ref (k + 18), .ref (k + 20)]), .inr (6, [.ref (k + 13)]), .inl (0, 16, .inl (fun _ => 0)), .inr (6, [.ref (k + 15)]), .inl (0, 16, .inl (fun _ => 0)), .inr (6, [.ref (k + 17)]), .inl (0, 16, .inl (fun _ => 0)), .inr (6, [.ref (k + 19)]), .inl (0, 16, .inl (fun _ => 0)), .inl (2, 16, .inr (.inr (.inl (fun _ => 0))))] : zH)) := by
  refine zRun_of (by decide +kernel) rfl rfl (Nat.le_of_ble_eq_true rfl) ?_
  suffices hs : ∀ (o9 : zO) (h9 : zH), (Sum.inr none : zO) = o9 → (pre ++ ([.inr (4, [.int (nI 8), .int (nI 6), .int (nI 0), .int (nI 3), .int 1073741824, .ref (k + 1), .ref (k + 3), .ref (k + 5), .ref (k + 7), .ref (k + 9), .ref (k + 11)]), .inr (2, [.ref (k + 2)]), .inl (0, 320, .inl (fun _ => 0)), .inr (2, [.ref (k + 4)]), .inl (0, 320, .inl (fun _ => 0)), .inr (2, [.ref (k + 6)]), .inl (0, 320, .inl (fun _ => 0)), .inr (2, [.ref (k + 8)]), .inl (0, 320, .inl (fun _ => 0)), .inr (6, [.ref (k + 10)]), .inl (0, 20, .inl (zFl (fun _ => -1) (fun _ => 0) 20)), .inr (5, [.int (nI 0), .ref (k + 12), .ref (k + 14), .ref (k + 16), .ref (k + 18), .ref (k + 20)]), .inr (6, [.ref (k + 13)]), .inl (0, 16, .inl (fun _ => 0)), .inr (6, [.ref (k + 15)]), .inl (0, 16, .inl (fun _ => 0)), .inr (6, [.ref (k + 17)]), .inl (0, 16, .inl (fun _ => 0)), .inr (6, [.ref (k + 19)]), .inl (0, 16, .inl (fun _ => 0)), .inl (2, 16, .inr (.inr (.inl (fun _ => 0))))] : zH)) = h9 → zPW G mX4_init 20 1395 o9 h9 0 0 0 [(0, .ref k)] [] (pre ++ ([.inr (4, [.int (nI 0), .int (nI 0), .int (nI 0), .int (nI 0), .int (nI 0), .null, .null, .null, .null, .null, .null])] : zH)) from hs _ _ rfl rfl
  intro o9 h9 ho9 hh9
  refine z_aload_n 0 dX4_init_0 rfl rfl ?_
  refine z_objInit zw_66 (by decide) (Nat.le_of_ble_eq_true rfl) dX4_init_1 ?_
  refine z_aload_n 0 dX4_init_4 rfl rfl ?_
  refine z_bipush (v := nI 8) dX4_init_5 (by decide) ?_
  refine z_puti 0 tyX4 (zj_get 0 hk rfl) rfl inX4 tyX4_ok nmX4 (by decide) zw_130 rfl rfl (by decide +kernel) (Nat.le_of_ble_eq_true rfl) dX4_init_7 ?_
  refine z_eqh (h2 := pre ++ ([.inr (4, [.int (nI 8), .int (nI 0), .int (nI 0), .int (nI 0), .int (nI 0), .null, .null, .null, .null, .null, .null])] : zH)) (zj_set 0 hk rfl) ?_
  refine z_aload_n 0 dX4_init_10 rfl rfl ?_
  refine z_bipush (v := nI 6) dX4_init_11 (by decide) ?_
  refine z_puti 1 tyX4 (zj_get 0 hk rfl) rfl inX4 tyX4_ok nmX4 (by decide) zw_132 rfl rfl (by decide +kernel) (Nat.le_of_ble_eq_true rfl) dX4_init_13 ?_
  refine z_eqh (h2 := pre ++ ([.inr (4, [.int (nI 8), .int (nI 6), .int (nI 0), .int (nI 0), .int (nI 0), .null, .null, .null, .null, .null, .null])] : zH)) (zj_set 0 hk rfl) ?_
  refine z_aload_n 0 dX4_init_16 rfl rfl ?_
  refine z_iconst (v := nI 3) dX4_init_17 (by decide) ?_
  refine z_puti 3 tyX4 (zj_get 0 hk rfl) rfl inX4 tyX4_ok nmX4 (by decide) zw_136 rfl rfl (by decide +kernel) (Nat.le_of_ble_eq_true rfl) dX4_init_18 ?_
  refine z_eqh (h2 := pre ++ ([.inr (4, [.int (nI 8), .int (nI 6), .int (nI 0), .int (nI 3), .int (nI 0), .null, .null, .null, .null, .null, .null])] : zH)) (zj_set 0 hk rfl) ?_
  refine z_aload_n 0 dX4_init_21 rfl rfl ?_
  refine z_ldc (v := 1073741824) zw_67 dX4_init_22 ?_
  refine z_puti 4 tyX4 (zj_get 0 hk rfl) rfl inX4 tyX4_ok nmX4 (by decide) zw_138 rfl rfl (by decide +kernel) (Nat.le_of_ble_eq_true rfl) dX4_init_24 ?_
  refine z_eqh (h2 := pre ++ ([.inr (4, [.int (nI 8), .int (nI 6), .int (nI 0), .int (nI 3), .int 1073741824, .null, .null, .null, .null, .null, .null])] : zH)) (zj_set 0 hk rfl) ?_
  refine z_aload_n 0 dX4_init_27 rfl rfl ?_
  refine z_new (ci := 2) (Cn := RX2) (T := TX2) (fs := [.null]) tyX2 hG (zj_lt (n := 1) hk rfl (by omega)) (Or.inl (zj_pos (n := 0) rfl)) rfl inX2 tyX2_ok zw_68 zw_69 zw_37 df_X2 (fun _ => rfl) ⟨Nat.le_of_ble_eq_true rfl, Nat.le_of_ble_eq_true rfl⟩ dX4_init_28 (zj_len (n := 1) hk rfl) rfl ?_
  refine z_dup dX4_init_31 rfl ?_
  refine z_callIN (N := mX2_init) (mc1 := 1) (ms1 := 320) (h1 := (pre ++ ([.inr (4, [.int (nI 8), .int (nI 6), .int (nI 0), .int (nI 3), .int 1073741824, .null, .null, .null, .null, .null, .null])] : zH)) ++ ([.inr (2, [.ref (k + 2)]), .inl (0, 320, .inl (fun _ => 0))] : zH)) 0 [] [.ref (k + 1), .ref k] hG lX2_init ⟨(by decide), zw_71⟩ rfl rfl rfl rfl (Nat.le_of_ble_eq_true rfl) (by decide) ⟨zj_lt (n := 1) (zj_len (n := 1) hk rfl) rfl (by omega), zj_lt (n := 2) (zj_len (n := 1) hk rfl) rfl (by omega)⟩ (zj_pos (n := 0) rfl) ⟨Nat.le_of_ble_eq_true rfl, Nat.le_of_ble_eq_true rfl⟩ (zj_hal rfl) (i_grid hG (zj_len (n := 1) hk rfl) (by omega)) dX4_init_32 ?_
  refine z_eqh (h2 := pre ++ ([.inr (4, [.int (nI 8), .int (nI 6), .int (nI 0), .int (nI 3), .int 1073741824, .null, .null, .null, .null, .null, .null]), .inr (2, [.ref (k + 2)]), .inl (0, 320, .inl (fun _ => 0))] : zH)) (zj_app rfl) ?_
  refine z_putFr (X := "MirrorLoom$Grid") 5 tyX4 (zj_get 0 hk rfl) rfl inX4 tyX4_ok nmX4 (by decide) zw_139 rfl rfl rfl rfl (by decide +kernel) (Nat.le_of_ble_eq_true rfl) dX4_init_35 ?_
  refine z_eqh (h2 := pre ++ ([.inr (4, [.int (nI 8), .int (nI 6), .int (nI 0), .int (nI 3), .int 1073741824, .ref (k + 1), .null, .null, .null, .null, .null]), .inr (2, [.ref (k + 2)]), .inl (0, 320, .inl (fun _ => 0))] : zH)) (zj_set 0 hk rfl) ?_
  refine z_aload_n 0 dX4_init_38 rfl rfl ?_
  refine z_new (ci := 2) (Cn := RX2) (T := TX2) (fs := [.null]) tyX2 hG (zj_lt (n := 3) hk rfl (by omega)) (Or.inl (zj_pos (n := 2) rfl)) rfl inX2 tyX2_ok zw_68 zw_69 zw_37 df_X2 (fun _ => rfl) ⟨Nat.le_of_ble_eq_true rfl, Nat.le_of_ble_eq_true rfl⟩ dX4_init_39 (zj_len (n := 3) hk rfl) rfl ?_
  refine z_dup dX4_init_42 rfl ?_
  refine z_callIN (N := mX2_init) (mc1 := 1) (ms1 := 320) (h1 := (pre ++ ([.inr (4, [.int (nI 8), .int (nI 6), .int (nI 0), .int (nI 3), .int 1073741824, .ref (k + 1), .null, .null, .null, .null, .null]), .inr (2, [.ref (k + 2)]), .inl (0, 320, .inl (fun _ => 0))] : zH)) ++ ([.inr (2, [.ref (k + 4)]), .inl (0, 320, .inl (fun _ => 0))] : zH)) 0 [] [.ref (k + 3), .ref k] hG lX2_init ⟨(by decide), zw_71⟩ rfl rfl rfl rfl (Nat.le_of_ble_eq_true rfl) (by decide) ⟨zj_lt (n := 1) (zj_len (n := 3) hk rfl) rfl (by omega), zj_lt (n := 2) (zj_len (n := 3) hk rfl) rfl (by omega)⟩ (zj_pos (n := 0) rfl) ⟨Nat.le_of_ble_eq_true rfl, Nat.le_of_ble_eq_true rfl⟩ (zj_hal rfl) (i_grid hG (zj_len (n := 3) hk rfl) (by omega)) dX4_init_43 ?_
  refine z_eqh (h2 := pre ++ ([.inr (4, [.int (nI 8), .int (nI 6), .int (nI 0), .int (nI 3), .int 1073741824, .ref (k + 1), .null, .null, .null, .null, .null]), .inr (2, [.ref (k + 2)]), .inl (0, 320, .inl (fun _ => 0)), .inr (2, [.ref (k + 4)]), .inl (0, 320, .inl (fun _ => 0))] : zH)) (zj_app rfl) ?_
  refine z_putFr (X := "MirrorLoom$Grid") 6 tyX4 (zj_get 0 hk rfl) rfl inX4 tyX4_ok nmX4 (by decide) zw_141 rfl rfl rfl rfl (by decide +kernel) (Nat.le_of_ble_eq_true rfl) dX4_init_46 ?_
  refine z_eqh (h2 := pre ++ ([.inr (4, [.int (nI 8), .int (nI 6), .int (nI 0), .int (nI 3), .int 1073741824, .ref (k + 1), .ref (k + 3), .null, .null, .null, .null]), .inr (2, [.ref (k + 2)]), .inl (0, 320, .inl (fun _ => 0)), .inr (2, [.ref (k + 4)]), .inl (0, 320, .inl (fun _ => 0))] : zH)) (zj_set 0 hk rfl) ?_
  refine z_aload_n 0 dX4_init_49 rfl rfl ?_
  refine z_new (ci := 2) (Cn := RX2) (T := TX2) (fs := [.null]) tyX2 hG (zj_lt (n := 5) hk rfl (by omega)) (Or.inl (zj_pos (n := 4) rfl)) rfl inX2 tyX2_ok zw_68 zw_69 zw_37 df_X2 (fun _ => rfl) ⟨Nat.le_of_ble_eq_true rfl, Nat.le_of_ble_eq_true rfl⟩ dX4_init_50 (zj_len (n := 5) hk rfl) rfl ?_
  refine z_dup dX4_init_53 rfl ?_
  refine z_callIN (N := mX2_init) (mc1 := 1) (ms1 := 320) (h1 := (pre ++ ([.inr (4, [.int (nI 8), .int (nI 6), .int (nI 0), .int (nI 3), .int 1073741824, .ref (k + 1), .ref (k + 3), .null, .null, .null, .null]), .inr (2, [.ref (k + 2)]), .inl (0, 320, .inl (fun _ => 0)), .inr (2, [.ref (k + 4)]), .inl (0, 320, .inl (fun _ => 0))] : zH)) ++ ([.inr (2, [.ref (k + 6)]), .inl (0, 320, .inl (fun _ => 0))] : zH)) 0 [] [.ref (k + 5), .ref k] hG lX2_init ⟨(by decide), zw_71⟩ rfl rfl rfl rfl (Nat.le_of_ble_eq_true rfl) (by decide) ⟨zj_lt (n := 1) (zj_len (n := 5) hk rfl) rfl (by omega), zj_lt (n := 2) (zj_len (n := 5) hk rfl) rfl (by omega)⟩ (zj_pos (n := 0) rfl) ⟨Nat.le_of_ble_eq_true rfl, Nat.le_of_ble_eq_true rfl⟩ (zj_hal rfl) (i_grid hG (zj_len (n := 5) hk rfl) (by omega)) dX4_init_54 ?_
  refine z_eqh (h2 := pre ++ ([.inr (4, [.int (nI 8), .int (nI 6), .int (nI 0), .int (nI 3), .int 1073741824, .ref (k + 1), .ref (k + 3), .null, .null, .null, .null]), .inr (2, [.ref (k + 2)]), .inl (0, 320, .inl (fun _ => 0)), .inr (2, [.ref (k + 4)]), .inl (0, 320, .inl (fun _ => 0)), .inr (2, [.ref (k + 6)]), .inl (0, 320, .inl (fun _ => 0))] : zH)) (zj_app rfl) ?_
  refine z_putFr (X := "MirrorLoom$Grid") 7 tyX4 (zj_get 0 hk rfl) rfl inX4 tyX4_ok nmX4 (by decide) zw_142 rfl rfl rfl rfl (by decide +kernel) (Nat.le_of_ble_eq_true rfl) dX4_init_57 ?_
  refine z_eqh (h2 := pre ++ ([.inr (4, [.int (nI 8), .int (nI 6), .int (nI 0), .int (nI 3), .int 1073741824, .ref (k + 1), .ref (k + 3), .ref (k + 5), .null, .null, .null]), .inr (2, [.ref (k + 2)]), .inl (0, 320, .inl (fun _ => 0)), .inr (2, [.ref (k + 4)]), .inl (0, 320, .inl (fun _ => 0)), .inr (2, [.ref (k + 6)]), .inl (0, 320, .inl (fun _ => 0))] : zH)) (zj_set 0 hk rfl) ?_
  refine z_aload_n 0 dX4_init_60 rfl rfl ?_
  refine z_new (ci := 2) (Cn := RX2) (T := TX2) (fs := [.null]) tyX2 hG (zj_lt (n := 7) hk rfl (by omega)) (Or.inl (zj_pos (n := 6) rfl)) rfl inX2 tyX2_ok zw_68 zw_69 zw_37 df_X2 (fun _ => rfl) ⟨Nat.le_of_ble_eq_true rfl, Nat.le_of_ble_eq_true rfl⟩ dX4_init_61 (zj_len (n := 7) hk rfl) rfl ?_
  refine z_dup dX4_init_64 rfl ?_
  refine z_callIN (N := mX2_init) (mc1 := 1) (ms1 := 320) (h1 := (pre ++ ([.inr (4, [.int (nI 8), .int (nI 6), .int (nI 0), .int (nI 3), .int 1073741824, .ref (k + 1), .ref (k + 3), .ref (k + 5), .null, .null, .null]), .inr (2, [.ref (k + 2)]), .inl (0, 320, .inl (fun _ => 0)), .inr (2, [.ref (k + 4)]), .inl (0, 320, .inl (fun _ => 0)), .inr (2, [.ref (k + 6)]), .inl (0, 320, .inl (fun _ => 0))] : zH)) ++ ([.inr (2, [.ref (k + 8)]), .inl (0, 320, .inl (fun _ => 0))] : zH)) 0 [] [.ref (k + 7), .ref k] hG lX2_init ⟨(by decide), zw_71⟩ rfl rfl rfl rfl (Nat.le_of_ble_eq_true rfl) (by decide) ⟨zj_lt (n := 1) (zj_len (n := 7) hk rfl) rfl (by omega), zj_lt (n := 2) (zj_len (n := 7) hk rfl) rfl (by omega)⟩ (zj_pos (n := 0) rfl) ⟨Nat.le_of_ble_eq_true rfl, Nat.le_of_ble_eq_true rfl⟩ (zj_hal rfl) (i_grid hG (zj_len (n := 7) hk rfl) (by omega)) dX4_init_65 ?_
  refine z_eqh (h2 := pre ++ ([.inr (4, [.int (nI 8), .int (nI 6), .int (nI 0), .int (nI 3), .int 1073741824, .ref (k + 1), .ref (k + 3), .ref (k + 5), .null, .null, .null]), .inr (2, [.ref (k + 2)]), .inl (0, 320, .inl (fun _ => 0)), .inr (2, [.ref (k + 4)]), .inl (0, 320, .inl (fun _ => 0)), .inr (2, [.ref (k + 6)]), .inl (0, 320, .inl (fun _ => 0)), .inr (2, [.ref (k + 8)]), .inl (0, 320, .inl (fun _ => 0))] : zH)) (zj_app rfl) ?_
  refine z_putFr (X := "MirrorLoom$Grid") 8 tyX4 (zj_get 0 hk rfl) rfl inX4 tyX4_ok nmX4 (by decide) zw_143 rfl rfl rfl rfl (by decide +kernel) (Nat.le_of_ble_eq_true rfl) dX4_init_68 ?_
  refine z_eqh (h2 := pre ++ ([.inr (4, [.int (nI 8), .int (nI 6), .int (nI 0), .int (nI 3), .int 1073741824, .ref (k + 1), .ref (k + 3), .ref (k + 5), .ref (k + 7), .null, .null]), .inr (2, [.ref (k + 2)]), .inl (0, 320, .inl (fun _ => 0)), .inr (2, [.ref (k + 4)]), .inl (0, 320, .inl (fun _ => 0)), .inr (2, [.ref (k + 6)]), .inl (0, 320, .inl (fun _ => 0)), .inr (2, [.ref (k + 8)]), .inl (0, 320, .inl (fun _ => 0))] : zH)) (zj_set 0 hk rfl) ?_
  refine z_aload_n 0 dX4_init_71 rfl rfl ?_
  refine z_new (ci := 6) (Cn := RX6) (T := TX6) (fs := [.null]) tyX6 hG (zj_lt (n := 9) hk rfl (by omega)) (Or.inl (zj_pos (n := 8) rfl)) rfl inX6 tyX6_ok zw_79 zw_80 zw_38 df_X6 (fun _ => rfl) ⟨Nat.le_of_ble_eq_true rfl, Nat.le_of_ble_eq_true rfl⟩ dX4_init_72 (zj_len (n := 9) hk rfl) rfl ?_
  refine z_dup dX4_init_75 rfl ?_
  refine z_bipush (v := nI 20) dX4_init_76 (by decide) ?_
  refine z_callI (N := mX6_init) (mc1 := 1) (ms1 := 20) (h1 := (pre ++ ([.inr (4, [.int (nI 8), .int (nI 6), .int (nI 0), .int (nI 3), .int 1073741824, .ref (k + 1), .ref (k + 3), .ref (k + 5), .ref (k + 7), .null, .null]), .inr (2, [.ref (k + 2)]), .inl (0, 320, .inl (fun _ => 0)), .inr (2, [.ref (k + 4)]), .inl (0, 320, .inl (fun _ => 0)), .inr (2, [.ref (k + 6)]), .inl (0, 320, .inl (fun _ => 0)), .inr (2, [.ref (k + 8)]), .inl (0, 320, .inl (fun _ => 0))] : zH)) ++ ([.inr (6, [.ref (k + 10)]), .inl (0, 20, .inl (fun _ => 0))] : zH)) 1 [.int (nI 20)] [.ref (k + 9), .ref k] hG lX6_init ⟨zw_81, zw_82⟩ rfl rfl rfl rfl (Nat.le_of_ble_eq_true rfl) (by decide) ⟨zj_lt (n := 1) (zj_len (n := 9) hk rfl) rfl (by omega), zj_lt (n := 2) (zj_len (n := 9) hk rfl) rfl (by omega)⟩ (zj_pos (n := 0) rfl) ⟨Nat.le_of_ble_eq_true rfl, Nat.le_of_ble_eq_true rfl⟩ (zj_hal rfl) (i_num hG (zj_len (n := 9) hk rfl) (by omega) (by decide)) dX4_init_78 ?_
  refine z_eqh (h2 := pre ++ ([.inr (4, [.int (nI 8), .int (nI 6), .int (nI 0), .int (nI 3), .int 1073741824, .ref (k + 1), .ref (k + 3), .ref (k + 5), .ref (k + 7), .null, .null]), .inr (2, [.ref (k + 2)]), .inl (0, 320, .inl (fun _ => 0)), .inr (2, [.ref (k + 4)]), .inl (0, 320, .inl (fun _ => 0)), .inr (2, [.ref (k + 6)]), .inl (0, 320, .inl (fun _ => 0)), .inr (2, [.ref (k + 8)]), .inl (0, 320, .inl (fun _ => 0)), .inr (6, [.ref (k + 10)]), .inl (0, 20, .inl (fun _ => 0))] : zH)) (zj_app rfl) ?_
  refine z_putFr (X := "MirrorLoom$Numbers") 9 tyX4 (zj_get 0 hk rfl) rfl inX4 tyX4_ok nmX4 (by decide) zw_144 rfl rfl rfl rfl (by decide +kernel) (Nat.le_of_ble_eq_true rfl) dX4_init_81 ?_
  refine z_eqh (h2 := pre ++ ([.inr (4, [.int (nI 8), .int (nI 6), .int (nI 0), .int (nI 3), .int 1073741824, .ref (k + 1), .ref (k + 3), .ref (k + 5), .ref (k + 7), .ref (k + 9), .null]), .inr (2, [.ref (k + 2)]), .inl (0, 320, .inl (fun _ => 0)), .inr (2, [.ref (k + 4)]), .inl (0, 320, .inl (fun _ => 0)), .inr (2, [.ref (k + 6)]), .inl (0, 320, .inl (fun _ => 0)), .inr (2, [.ref (k + 8)]), .inl (0, 320, .inl (fun _ => 0)), .inr (6, [.ref (k + 10)]), .inl (0, 20, .inl (fun _ => 0))] : zH)) (zj_set 0 hk rfl) ?_
  refine z_aload_n 0 dX4_init_84 rfl rfl ?_
  refine z_new (ci := 5) (Cn := RX5) (T := TX5) (fs := [.int (nI 0), .null, .null, .null, .null, .null]) tyX5 hG (zj_lt (n := 11) hk rfl (by omega)) (Or.inl (zj_pos (n := 10) rfl)) rfl inX5 tyX5_ok zw_92 zw_93 zw_40 df_X5 (fun _ => rfl) ⟨Nat.le_of_ble_eq_true rfl, Nat.le_of_ble_eq_true rfl⟩ dX4_init_85 (zj_len (n := 11) hk rfl) rfl ?_
  refine z_dup dX4_init_88 rfl ?_
  refine z_callIN (N := mX5_init) (mc1 := 9) (ms1 := 84) (h1 := (pre ++ ([.inr (4, [.int (nI 8), .int (nI 6), .int (nI 0), .int (nI 3), .int 1073741824, .ref (k + 1), .ref (k + 3), .ref (k + 5), .ref (k + 7), .ref (k + 9), .null]), .inr (2, [.ref (k + 2)]), .inl (0, 320, .inl (fun _ => 0)), .inr (2, [.ref (k + 4)]), .inl (0, 320, .inl (fun _ => 0)), .inr (2, [.ref (k + 6)]), .inl (0, 320, .inl (fun _ => 0)), .inr (2, [.ref (k + 8)]), .inl (0, 320, .inl (fun _ => 0)), .inr (6, [.ref (k + 10)]), .inl (0, 20, .inl (fun _ => 0))] : zH)) ++ ([.inr (5, [.int (nI 0), .ref (k + 12), .ref (k + 14), .ref (k + 16), .ref (k + 18), .ref (k + 20)]), .inr (6, [.ref (k + 13)]), .inl (0, 16, .inl (fun _ => 0)), .inr (6, [.ref (k + 15)]), .inl (0, 16, .inl (fun _ => 0)), .inr (6, [.ref (k + 17)]), .inl (0, 16, .inl (fun _ => 0)), .inr (6, [.ref (k + 19)]), .inl (0, 16, .inl (fun _ => 0)), .inl (2, 16, .inr (.inr (.inl (fun _ => 0))))] : zH)) 0 [] [.ref (k + 11), .ref k] hG lX5_init ⟨(by decide), zw_95⟩ rfl rfl rfl rfl (Nat.le_of_ble_eq_true rfl) (by decide) ⟨zj_lt (n := 1) (zj_len (n := 11) hk rfl) rfl (by omega), zj_lt (n := 10) (zj_len (n := 11) hk rfl) rfl (by omega)⟩ (zj_pos (n := 0) rfl) ⟨Nat.le_of_ble_eq_true rfl, Nat.le_of_ble_eq_true rfl⟩ (zj_hal rfl) (i_lots hG (zj_len (n := 11) hk rfl) (by omega)) dX4_init_89 ?_
  refine z_eqh (h2 := pre ++ ([.inr (4, [.int (nI 8), .int (nI 6), .int (nI 0), .int (nI 3), .int 1073741824, .ref (k + 1), .ref (k + 3), .ref (k + 5), .ref (k + 7), .ref (k + 9), .null]), .inr (2, [.ref (k + 2)]), .inl (0, 320, .inl (fun _ => 0)), .inr (2, [.ref (k + 4)]), .inl (0, 320, .inl (fun _ => 0)), .inr (2, [.ref (k + 6)]), .inl (0, 320, .inl (fun _ => 0)), .inr (2, [.ref (k + 8)]), .inl (0, 320, .inl (fun _ => 0)), .inr (6, [.ref (k + 10)]), .inl (0, 20, .inl (fun _ => 0)), .inr (5, [.int (nI 0), .ref (k + 12), .ref (k + 14), .ref (k + 16), .ref (k + 18), .ref (k + 20)]), .inr (6, [.ref (k + 13)]), .inl (0, 16, .inl (fun _ => 0)), .inr (6, [.ref (k + 15)]), .inl (0, 16, .inl (fun _ => 0)), .inr (6, [.ref (k + 17)]), .inl (0, 16, .inl (fun _ => 0)), .inr (6, [.ref (k + 19)]), .inl (0, 16, .inl (fun _ => 0)), .inl (2, 16, .inr (.inr (.inl (fun _ => 0))))] : zH)) (zj_app rfl) ?_
  refine z_putFr (X := "MirrorLoom$Lots") 10 tyX4 (zj_get 0 hk rfl) rfl inX4 tyX4_ok nmX4 (by decide) zw_145 rfl rfl rfl rfl (by decide +kernel) (Nat.le_of_ble_eq_true rfl) dX4_init_92 ?_
  refine z_eqh (h2 := pre ++ ([.inr (4, [.int (nI 8), .int (nI 6), .int (nI 0), .int (nI 3), .int 1073741824, .ref (k + 1), .ref (k + 3), .ref (k + 5), .ref (k + 7), .ref (k + 9), .ref (k + 11)]), .inr (2, [.ref (k + 2)]), .inl (0, 320, .inl (fun _ => 0)), .inr (2, [.ref (k + 4)]), .inl (0, 320, .inl (fun _ => 0)), .inr (2, [.ref (k + 6)]), .inl (0, 320, .inl (fun _ => 0)), .inr (2, [.ref (k + 8)]), .inl (0, 320, .inl (fun _ => 0)), .inr (6, [.ref (k + 10)]), .inl (0, 20, .inl (fun _ => 0)), .inr (5, [.int (nI 0), .ref (k + 12), .ref (k + 14), .ref (k + 16), .ref (k + 18), .ref (k + 20)]), .inr (6, [.ref (k + 13)]), .inl (0, 16, .inl (fun _ => 0)), .inr (6, [.ref (k + 15)]), .inl (0, 16, .inl (fun _ => 0)), .inr (6, [.ref (k + 17)]), .inl (0, 16, .inl (fun _ => 0)), .inr (6, [.ref (k + 19)]), .inl (0, 16, .inl (fun _ => 0)), .inl (2, 16, .inr (.inr (.inl (fun _ => 0))))] : zH)) (zj_set 0 hk rfl) ?_
  refine z_aload_n 0 dX4_init_95 rfl rfl ?_
  refine z_get (v := .ref (k + 9)) 9 (zj_get 0 hk rfl) rfl inX4 (by decide) zw_144 rfl rfl dX4_init_96 ?_
  refine z_iconst (v := -1) dX4_init_99 (by decide) ?_
  refine z_off ?_
  refine z_callV (N := mX6_putAll) (h1 := pre ++ ([.inr (4, [.int (nI 8), .int (nI 6), .int (nI 0), .int (nI 3), .int 1073741824, .ref (k + 1), .ref (k + 3), .ref (k + 5), .ref (k + 7), .ref (k + 9), .ref (k + 11)]), .inr (2, [.ref (k + 2)]), .inl (0, 320, .inl (fun _ => 0)), .inr (2, [.ref (k + 4)]), .inl (0, 320, .inl (fun _ => 0)), .inr (2, [.ref (k + 6)]), .inl (0, 320, .inl (fun _ => 0)), .inr (2, [.ref (k + 8)]), .inl (0, 320, .inl (fun _ => 0)), .inr (6, [.ref (k + 10)]), .inl (0, 20, .inl (zFl (fun _ => -1) (fun _ => 0) 20)), .inr (5, [.int (nI 0), .ref (k + 12), .ref (k + 14), .ref (k + 16), .ref (k + 18), .ref (k + 20)]), .inr (6, [.ref (k + 13)]), .inl (0, 16, .inl (fun _ => 0)), .inr (6, [.ref (k + 15)]), .inl (0, 16, .inl (fun _ => 0)), .inr (6, [.ref (k + 17)]), .inl (0, 16, .inl (fun _ => 0)), .inr (6, [.ref (k + 19)]), .inl (0, 16, .inl (fun _ => 0)), .inl (2, 16, .inr (.inr (.inl (fun _ => 0))))] : zH)) 1 [.int (-1)] [] lX6_putAll ⟨zw_126, zw_127, zw_128⟩ rfl (zj_get 9 hk rfl) rfl rfl (by decide) (by decide) ⟨zj_lt (n := 21) hk rfl (by omega), zj_lt (n := 21) hk rfl (by omega)⟩ ⟨Nat.le_of_ble_eq_true rfl, Nat.le_of_ble_eq_true rfl⟩ (fun z => by cases z) (c_nPutAll (n := 20) (by decide) (zj_lt (n := 21) hk rfl (by omega)) (zj_get 9 hk rfl) (zj_get 10 hk rfl) (-1) (zj_set 10 hk rfl)) dX4_init_100 ?_
  exact z_vret rfl dX4_init_103 ho9.symm (zo_h hh9 rfl) (by decide) (by first | decide | omega)

/-- a fresh loom from k on -/
def zLm (k : Nat) : zH := [.inr (4, [.int (nI 8), .int (nI 6), .int (nI 0), .int (nI 3), .int 1073741824, .ref (k + 1), .ref (k + 3), .ref (k + 5), .ref (k + 7), .ref (k + 9), .ref (k + 11)]), .inr (2, [.ref (k + 2)]), .inl (0, 320, .inl (fun _ => 0)), .inr (2, [.ref (k + 4)]), .inl (0, 320, .inl (fun _ => 0)), .inr (2, [.ref (k + 6)]), .inl (0, 320, .inl (fun _ => 0)), .inr (2, [.ref (k + 8)]), .inl (0, 320, .inl (fun _ => 0)), .inr (6, [.ref (k + 10)]), .inl (0, 20, .inl (zFl (fun _ => -1) (fun _ => 0) 20)), .inr (5, [.int (nI 0), .ref (k + 12), .ref (k + 14), .ref (k + 16), .ref (k + 18), .ref (k + 20)]), .inr (6, [.ref (k + 13)]), .inl (0, 16, .inl (fun _ => 0)), .inr (6, [.ref (k + 15)]), .inl (0, 16, .inl (fun _ => 0)), .inr (6, [.ref (k + 17)]), .inl (0, 16, .inl (fun _ => 0)), .inr (6, [.ref (k + 19)]), .inl (0, 16, .inl (fun _ => 0)), .inl (2, 16, .inr (.inr (.inl (fun _ => 0))))]

theorem zLm_len (k : Nat) : (zLm k).length = 21 := rfl

theorem i_loomZ {G : zT} (hG : zAl G = true) {pre : zH} {k : Nat} (hk : pre.length = k) (hl : k + 24 < 999) : zRun G mX4_init 20 1395 [.ref k] (pre ++ ([.inr (4, [.int (nI 0), .int (nI 0), .int (nI 0), .int (nI 0), .int (nI 0), .null, .null, .null, .null, .null, .null])] : zH)) (.inr none) (pre ++ zLm k) := i_loom hG hk hl

set_option maxHeartbeats 4000000 in
set_option maxRecDepth 100000 in
theorem i_text {G : zT} (hG : zAl G = true) {pre : zH} {k : Nat} (hk : pre.length = k) (hl : k + 6 < 999) : zRun G mX1_init 2 151 [.ref k] (pre ++ ([.inr (1, [.null, .int (nI 0)])] : zH)) (.inr none) (pre ++ ([.inr (1, [.ref (k + 1), .int (nI 0)]), .inr (6, [.ref (k + 2)]), .inl (0, 150, .inl (fun _ => 0))] : zH)) := by
  refine zRun_of (by decide +kernel) rfl rfl (Nat.le_of_ble_eq_true rfl) ?_
  suffices hs : ∀ (o9 : zO) (h9 : zH), (Sum.inr none : zO) = o9 → (pre ++ ([.inr (1, [.ref (k + 1), .int (nI 0)]), .inr (6, [.ref (k + 2)]), .inl (0, 150, .inl (fun _ => 0))] : zH)) = h9 → zPW G mX1_init 2 151 o9 h9 0 0 0 [(0, .ref k)] [] (pre ++ ([.inr (1, [.null, .int (nI 0)])] : zH)) from hs _ _ rfl rfl
  intro o9 h9 ho9 hh9
  refine z_aload_n 0 dX1_init_0 rfl rfl ?_
  refine z_objInit zw_195 (by decide) (Nat.le_of_ble_eq_true rfl) dX1_init_1 ?_
  refine z_aload_n 0 dX1_init_4 rfl rfl ?_
  refine z_new (ci := 6) (Cn := RX6) (T := TX6) (fs := [.null]) tyX6 hG (zj_lt (n := 1) hk rfl (by omega)) (Or.inl (zj_pos (n := 0) rfl)) rfl inX6 tyX6_ok zw_196 zw_80 zw_38 df_X6 (fun _ => rfl) ⟨Nat.le_of_ble_eq_true rfl, Nat.le_of_ble_eq_true rfl⟩ dX1_init_5 (zj_len (n := 1) hk rfl) rfl ?_
  refine z_dup dX1_init_8 rfl ?_
  refine z_sipush (v := nI 150) dX1_init_9 (by decide) ?_
  refine z_callI (N := mX6_init) (mc1 := 1) (ms1 := 150) (h1 := (pre ++ ([.inr (1, [.null, .int (nI 0)])] : zH)) ++ ([.inr (6, [.ref (k + 2)]), .inl (0, 150, .inl (fun _ => 0))] : zH)) 1 [.int (nI 150)] [.ref (k + 1), .ref k] hG lX6_init ⟨zw_197, zw_82⟩ rfl rfl rfl rfl (Nat.le_of_ble_eq_true rfl) (by decide) ⟨zj_lt (n := 1) (zj_len (n := 1) hk rfl) rfl (by omega), zj_lt (n := 2) (zj_len (n := 1) hk rfl) rfl (by omega)⟩ (zj_pos (n := 0) rfl) ⟨Nat.le_of_ble_eq_true rfl, Nat.le_of_ble_eq_true rfl⟩ (zj_hal rfl) (i_num hG (zj_len (n := 1) hk rfl) (by omega) (by decide)) dX1_init_12 ?_
  refine z_eqh (h2 := pre ++ ([.inr (1, [.null, .int (nI 0)]), .inr (6, [.ref (k + 2)]), .inl (0, 150, .inl (fun _ => 0))] : zH)) (zj_app rfl) ?_
  refine z_putFr (X := "MirrorLoom$Numbers") 0 tyX1 (zj_get 0 hk rfl) rfl inX1 tyX1_ok nmX1 (by decide) zw_198 rfl rfl rfl rfl (by decide +kernel) (Nat.le_of_ble_eq_true rfl) dX1_init_15 ?_
  refine z_eqh (h2 := pre ++ ([.inr (1, [.ref (k + 1), .int (nI 0)]), .inr (6, [.ref (k + 2)]), .inl (0, 150, .inl (fun _ => 0))] : zH)) (zj_set 0 hk rfl) ?_
  exact z_vret rfl dX1_init_18 ho9.symm (zo_h hh9 rfl) (by decide) (by first | decide | omega)

set_option maxHeartbeats 4000000 in
set_option maxRecDepth 100000 in
theorem i_rdr {G : zT} (hG : zAl G = true) {pre : zH} {k : Nat} (hk : pre.length = k) (hl : k + 6 < 999) {t : Nat} : zRun G mX0_init 2 6 [.ref k, .ref t] (pre ++ ([.inr (0, [.null, .null, .null, .int (nI 0), .int (nI 0)])] : zH)) (.inr none) (pre ++ ([.inr (0, [.ref t, .ref (k + 1), .ref 1000, .int (nI 0), .int (-1)]), .inr (6, [.ref (k + 2)]), .inl (0, 5, .inl (fun _ => 0))] : zH)) := by
  refine zRun_of (by decide +kernel) rfl rfl (Nat.le_of_ble_eq_true rfl) ?_
  suffices hs : ∀ (o9 : zO) (h9 : zH), (Sum.inr none : zO) = o9 → (pre ++ ([.inr (0, [.ref t, .ref (k + 1), .ref 1000, .int (nI 0), .int (-1)]), .inr (6, [.ref (k + 2)]), .inl (0, 5, .inl (fun _ => 0))] : zH)) = h9 → zPW G mX0_init 2 6 o9 h9 0 0 0 [(0, .ref k), (1, .ref t)] [] (pre ++ ([.inr (0, [.null, .null, .null, .int (nI 0), .int (nI 0)])] : zH)) from hs _ _ rfl rfl
  intro o9 h9 ho9 hh9
  refine z_aload_n 0 dX0_init_0 rfl rfl ?_
  refine z_objInit zw_210 (by decide) (Nat.le_of_ble_eq_true rfl) dX0_init_1 ?_
  refine z_aload_n 0 dX0_init_4 rfl rfl ?_
  refine z_new (ci := 6) (Cn := RX6) (T := TX6) (fs := [.null]) tyX6 hG (zj_lt (n := 1) hk rfl (by omega)) (Or.inl (zj_pos (n := 0) rfl)) rfl inX6 tyX6_ok zw_211 zw_80 zw_38 df_X6 (fun _ => rfl) ⟨Nat.le_of_ble_eq_true rfl, Nat.le_of_ble_eq_true rfl⟩ dX0_init_5 (zj_len (n := 1) hk rfl) rfl ?_
  refine z_dup dX0_init_8 rfl ?_
  refine z_iconst (v := nI 5) dX0_init_9 (by decide) ?_
  refine z_callI (N := mX6_init) (mc1 := 1) (ms1 := 5) (h1 := (pre ++ ([.inr (0, [.null, .null, .null, .int (nI 0), .int (nI 0)])] : zH)) ++ ([.inr (6, [.ref (k + 2)]), .inl (0, 5, .inl (fun _ => 0))] : zH)) 1 [.int (nI 5)] [.ref (k + 1), .ref k] hG lX6_init ⟨zw_212, zw_82⟩ rfl rfl rfl rfl (Nat.le_of_ble_eq_true rfl) (by decide) ⟨zj_lt (n := 1) (zj_len (n := 1) hk rfl) rfl (by omega), zj_lt (n := 2) (zj_len (n := 1) hk rfl) rfl (by omega)⟩ (zj_pos (n := 0) rfl) ⟨Nat.le_of_ble_eq_true rfl, Nat.le_of_ble_eq_true rfl⟩ (zj_hal rfl) (i_num hG (zj_len (n := 1) hk rfl) (by omega) (by decide)) dX0_init_10 ?_
  refine z_eqh (h2 := pre ++ ([.inr (0, [.null, .null, .null, .int (nI 0), .int (nI 0)]), .inr (6, [.ref (k + 2)]), .inl (0, 5, .inl (fun _ => 0))] : zH)) (zj_app rfl) ?_
  refine z_putFr (X := "MirrorLoom$Numbers") 1 tyX0 (zj_get 0 hk rfl) rfl inX0 tyX0_ok nmX0 (by decide) zw_216 rfl rfl rfl rfl (by decide +kernel) (Nat.le_of_ble_eq_true rfl) dX0_init_13 ?_
  refine z_eqh (h2 := pre ++ ([.inr (0, [.null, .ref (k + 1), .null, .int (nI 0), .int (nI 0)]), .inr (6, [.ref (k + 2)]), .inl (0, 5, .inl (fun _ => 0))] : zH)) (zj_set 0 hk rfl) ?_
  refine z_aload_n 0 dX0_init_16 rfl rfl ?_
  refine z_getsW zw_213 dX0_init_17 ?_
  refine z_putr (X := "MirrorLoom$Word") 2 tyX0 (zj_get 0 hk rfl) rfl inX0 tyX0_ok nmX0 (by decide) zw_217 rfl rfl (by decide +kernel) (Nat.le_of_ble_eq_true rfl) dX0_init_20 ?_
  refine z_eqh (h2 := pre ++ ([.inr (0, [.null, .ref (k + 1), .ref 1000, .int (nI 0), .int (nI 0)]), .inr (6, [.ref (k + 2)]), .inl (0, 5, .inl (fun _ => 0))] : zH)) (zj_set 0 hk rfl) ?_
  refine z_aload_n 0 dX0_init_23 rfl rfl ?_
  refine z_iconst (v := -1) dX0_init_24 (by decide) ?_
  refine z_puti 4 tyX0 (zj_get 0 hk rfl) rfl inX0 tyX0_ok nmX0 (by decide) zw_218 rfl rfl (by decide +kernel) (Nat.le_of_ble_eq_true rfl) dX0_init_25 ?_
  refine z_eqh (h2 := pre ++ ([.inr (0, [.null, .ref (k + 1), .ref 1000, .int (nI 0), .int (-1)]), .inr (6, [.ref (k + 2)]), .inl (0, 5, .inl (fun _ => 0))] : zH)) (zj_set 0 hk rfl) ?_
  refine z_aload_n 0 dX0_init_28 rfl rfl ?_
  refine z_aload_n 1 dX0_init_29 rfl rfl ?_
  refine z_putFr (X := "MirrorLoom$CommandText") 0 tyX0 (zj_get 0 hk rfl) rfl inX0 tyX0_ok nmX0 (by decide) zw_215 rfl rfl rfl rfl (by decide +kernel) (Nat.le_of_ble_eq_true rfl) dX0_init_30 ?_
  refine z_eqh (h2 := pre ++ ([.inr (0, [.ref t, .ref (k + 1), .ref 1000, .int (nI 0), .int (-1)]), .inr (6, [.ref (k + 2)]), .inl (0, 5, .inl (fun _ => 0))] : zH)) (zj_set 0 hk rfl) ?_
  exact z_vret rfl dX0_init_33 ho9.symm (zo_h hh9 rfl) (by decide) (by first | decide | omega)

set_option maxHeartbeats 4000000 in
set_option maxRecDepth 100000 in
theorem i_hist {G : zT} (hG : zAl G = true) {pre : zH} {k : Nat} (hk : pre.length = k) (hl : k + 100 < 999) : zRun G mX3_init 85 5628 [.ref k] (pre ++ ([.inr (3, [.null, .int (nI 0), .int (nI 0)])] : zH)) (.inr none) (pre ++ (.inr (3, [.ref (k + 1), .int (nI 0), .int (nI 0)]) :: .inl (3, 4, .inr (.inr (.inr (.inr (va_up (va_up (va_up (va_up (fun _ => none) 0 (some (k + 2))) 1 (some (k + 23))) 2 (some (k + 44))) 3 (some (k + 65))))))) :: (zLm (k + 2) ++ zLm (k + 23) ++ zLm (k + 44) ++ zLm (k + 65)) : zH)) := by
  refine zRun_of (by decide +kernel) rfl rfl (Nat.le_of_ble_eq_true rfl) ?_
  suffices hs : ∀ (o9 : zO) (h9 : zH), (Sum.inr none : zO) = o9 → (pre ++ (.inr (3, [.ref (k + 1), .int (nI 0), .int (nI 0)]) :: .inl (3, 4, .inr (.inr (.inr (.inr (va_up (va_up (va_up (va_up (fun _ => none) 0 (some (k + 2))) 1 (some (k + 23))) 2 (some (k + 44))) 3 (some (k + 65))))))) :: (zLm (k + 2) ++ zLm (k + 23) ++ zLm (k + 44) ++ zLm (k + 65)) : zH)) = h9 → zPW G mX3_init 85 5628 o9 h9 0 0 0 [(0, .ref k)] [] (pre ++ ([.inr (3, [.null, .int (nI 0), .int (nI 0)])] : zH)) from hs _ _ rfl rfl
  intro o9 h9 ho9 hh9
  refine z_aload_n 0 dX3_init_0 rfl rfl ?_
  refine z_objInit zw_175 (by decide) (Nat.le_of_ble_eq_true rfl) dX3_init_1 ?_
  refine z_aload_n 0 dX3_init_4 rfl rfl ?_
  refine z_iconst (v := nI 4) dX3_init_5 (by decide) ?_
  refine z_newaQ (N := 4) (h2 := pre ++ ([.inr (3, [.null, .int (nI 0), .int (nI 0)]), .inl (3, 4, .inr (.inr (.inr (.inr (fun _ => none)))))] : zH)) hG (zj_lt (n := 1) hk rfl (by omega)) (zj_pos (n := 0) rfl) (by decide) (by decide) (by decide) ⟨Nat.le_of_ble_eq_true rfl, Nat.le_of_ble_eq_true rfl⟩ zw_176 dX3_init_6 (zj_len (n := 1) hk rfl) (zj_app rfl) ?_
  refine z_putFal (X := "MirrorLoom$Loom") 0 tyX3 (zj_get 0 hk rfl) rfl inX3 tyX3_ok nmX3 (by decide) zw_179 rfl rfl rfl rfl (by decide +kernel) (Nat.le_of_ble_eq_true rfl) dX3_init_9 ?_
  refine z_eqh (h2 := pre ++ (.inr (3, [.ref (k + 1), .int (nI 0), .int (nI 0)]) :: .inl (3, 4, .inr (.inr (.inr (.inr (fun _ => none))))) :: [] : zH)) (zj_set 0 hk rfl) ?_
  refine z_iconst (v := nI 0) dX3_init_12 (by decide) ?_
  refine z_istore_n (lv' := [(1, .int (nI 0)), (0, .ref k)]) dX3_init_13 rfl (by decide) rfl ?_
  refine z_iload_n 0 dX3_init_14 rfl rfl ?_
  refine z_aload_n 1 dX3_init_15 rfl rfl ?_
  refine z_get (v := .ref (k + 1)) 0 (zj_get 0 hk rfl) rfl inX3 (by decide) zw_179 rfl rfl dX3_init_16 ?_
  refine z_alen (v := nI 4) (zj_get 1 hk rfl) (by decide) rfl dX3_init_19 ?_
  refine z_icmp_ge (tgt := 42) dX3_init_20 (by decide) (fun c => absurd c (by decide)) (fun _ => ?_)
  refine z_aload_n 1 dX3_init_23 rfl rfl ?_
  refine z_get (v := .ref (k + 1)) 0 (zj_get 0 hk rfl) rfl inX3 (by decide) zw_179 rfl rfl dX3_init_24 ?_
  refine z_iload_n 0 dX3_init_27 rfl rfl ?_
  refine z_new (ci := 4) (Cn := RX4) (T := TX4) (fs := [.int (nI 0), .int (nI 0), .int (nI 0), .int (nI 0), .int (nI 0), .null, .null, .null, .null, .null, .null]) tyX4 hG (zj_lt (n := 2) hk rfl (by omega)) (Or.inl (zj_pos (n := 1) rfl)) rfl inX4 tyX4_ok zw_176 zw_62 zw_36 df_X4 (fun _ => rfl) ⟨Nat.le_of_ble_eq_true rfl, Nat.le_of_ble_eq_true rfl⟩ dX3_init_28 (zj_len (n := 2) hk rfl) rfl ?_
  refine z_dup dX3_init_31 rfl ?_
  refine z_callI (N := mX4_init) (mc1 := 20) (ms1 := 1395) (h1 := (pre ++ (.inr (3, [.ref (k + 1), .int (nI 0), .int (nI 0)]) :: .inl (3, 4, .inr (.inr (.inr (.inr (fun _ => none))))) :: [] : zH)) ++ zLm (k + 2)) 0 [] [.ref (k + 2), .int (nI 0), .ref (k + 1)] hG lX4_init ⟨zw_178, zw_64⟩ rfl rfl rfl rfl (Nat.le_of_ble_eq_true rfl) (by decide) ⟨zj_lt (n := 1) (zj_len (n := 2) hk rfl) rfl (by omega), zj_lt (n := 21) (zj_len (n := 2) hk rfl) rfl (by omega)⟩ (zj_pos (n := 0) rfl) ⟨Nat.le_of_ble_eq_true rfl, Nat.le_of_ble_eq_true rfl⟩ (zj_hal rfl) (i_loomZ hG (zj_len (n := 2) hk rfl) (by omega)) dX3_init_32 ?_
  refine z_eqh (h2 := pre ++ (.inr (3, [.ref (k + 1), .int (nI 0), .int (nI 0)]) :: .inl (3, 4, .inr (.inr (.inr (.inr (fun _ => none))))) :: (zLm (k + 2)) : zH)) (zj_app rfl) ?_
  refine z_aastq (j := 0) (n := 4) (h2 := pre ++ (.inr (3, [.ref (k + 1), .int (nI 0), .int (nI 0)]) :: .inl (3, 4, .inr (.inr (.inr (.inr (va_up (fun _ => none) 0 (some (k + 2))))))) :: (zLm (k + 2)) : zH)) (zj_get 1 hk rfl) (zj_get 2 hk rfl) (by decide) (by decide) dX3_init_35 (zj_set 1 hk rfl) ?_
  refine z_iinc (v := nI 1) (lv' := [(1, .int (nI 1)), (0, .ref k)]) 0 dX3_init_36 rfl (by decide) (by decide) rfl ?_
  refine z_goto (tgt := 14) dX3_init_39 (by decide) ?_
  refine z_iload_n 0 dX3_init_14 rfl rfl ?_
  refine z_aload_n 1 dX3_init_15 rfl rfl ?_
  refine z_get (v := .ref (k + 1)) 0 (zj_get 0 hk rfl) rfl inX3 (by decide) zw_179 rfl rfl dX3_init_16 ?_
  refine z_alen (v := nI 4) (zj_get 1 hk rfl) (by decide) rfl dX3_init_19 ?_
  refine z_icmp_ge (tgt := 42) dX3_init_20 (by decide) (fun c => absurd c (by decide)) (fun _ => ?_)
  refine z_aload_n 1 dX3_init_23 rfl rfl ?_
  refine z_get (v := .ref (k + 1)) 0 (zj_get 0 hk rfl) rfl inX3 (by decide) zw_179 rfl rfl dX3_init_24 ?_
  refine z_iload_n 0 dX3_init_27 rfl rfl ?_
  refine z_new (ci := 4) (Cn := RX4) (T := TX4) (fs := [.int (nI 0), .int (nI 0), .int (nI 0), .int (nI 0), .int (nI 0), .null, .null, .null, .null, .null, .null]) tyX4 hG (zj_lt (n := 23) hk rfl (by omega)) (Or.inl (zj_pos (n := 22) rfl)) rfl inX4 tyX4_ok zw_176 zw_62 zw_36 df_X4 (fun _ => rfl) ⟨Nat.le_of_ble_eq_true rfl, Nat.le_of_ble_eq_true rfl⟩ dX3_init_28 (zj_len (n := 23) hk rfl) rfl ?_
  refine z_dup dX3_init_31 rfl ?_
  refine z_callI (N := mX4_init) (mc1 := 20) (ms1 := 1395) (h1 := (pre ++ (.inr (3, [.ref (k + 1), .int (nI 0), .int (nI 0)]) :: .inl (3, 4, .inr (.inr (.inr (.inr (va_up (fun _ => none) 0 (some (k + 2))))))) :: (zLm (k + 2)) : zH)) ++ zLm (k + 23)) 0 [] [.ref (k + 23), .int (nI 1), .ref (k + 1)] hG lX4_init ⟨zw_178, zw_64⟩ rfl rfl rfl rfl (Nat.le_of_ble_eq_true rfl) (by decide) ⟨zj_lt (n := 1) (zj_len (n := 23) hk rfl) rfl (by omega), zj_lt (n := 21) (zj_len (n := 23) hk rfl) rfl (by omega)⟩ (zj_pos (n := 0) rfl) ⟨Nat.le_of_ble_eq_true rfl, Nat.le_of_ble_eq_true rfl⟩ (zj_hal rfl) (i_loomZ hG (zj_len (n := 23) hk rfl) (by omega)) dX3_init_32 ?_
  refine z_eqh (h2 := pre ++ (.inr (3, [.ref (k + 1), .int (nI 0), .int (nI 0)]) :: .inl (3, 4, .inr (.inr (.inr (.inr (va_up (fun _ => none) 0 (some (k + 2))))))) :: (zLm (k + 2) ++ zLm (k + 23)) : zH)) (zj_app rfl) ?_
  refine z_aastq (j := 1) (n := 4) (h2 := pre ++ (.inr (3, [.ref (k + 1), .int (nI 0), .int (nI 0)]) :: .inl (3, 4, .inr (.inr (.inr (.inr (va_up (va_up (fun _ => none) 0 (some (k + 2))) 1 (some (k + 23))))))) :: (zLm (k + 2) ++ zLm (k + 23)) : zH)) (zj_get 1 hk rfl) (zj_get 23 hk rfl) (by decide) (by decide) dX3_init_35 (zj_set 1 hk rfl) ?_
  refine z_iinc (v := nI 2) (lv' := [(1, .int (nI 2)), (0, .ref k)]) 0 dX3_init_36 rfl (by decide) (by decide) rfl ?_
  refine z_goto (tgt := 14) dX3_init_39 (by decide) ?_
  refine z_iload_n 0 dX3_init_14 rfl rfl ?_
  refine z_aload_n 1 dX3_init_15 rfl rfl ?_
  refine z_get (v := .ref (k + 1)) 0 (zj_get 0 hk rfl) rfl inX3 (by decide) zw_179 rfl rfl dX3_init_16 ?_
  refine z_alen (v := nI 4) (zj_get 1 hk rfl) (by decide) rfl dX3_init_19 ?_
  refine z_icmp_ge (tgt := 42) dX3_init_20 (by decide) (fun c => absurd c (by decide)) (fun _ => ?_)
  refine z_aload_n 1 dX3_init_23 rfl rfl ?_
  refine z_get (v := .ref (k + 1)) 0 (zj_get 0 hk rfl) rfl inX3 (by decide) zw_179 rfl rfl dX3_init_24 ?_
  refine z_iload_n 0 dX3_init_27 rfl rfl ?_
  refine z_new (ci := 4) (Cn := RX4) (T := TX4) (fs := [.int (nI 0), .int (nI 0), .int (nI 0), .int (nI 0), .int (nI 0), .null, .null, .null, .null, .null, .null]) tyX4 hG (zj_lt (n := 44) hk rfl (by omega)) (Or.inl (zj_pos (n := 43) rfl)) rfl inX4 tyX4_ok zw_176 zw_62 zw_36 df_X4 (fun _ => rfl) ⟨Nat.le_of_ble_eq_true rfl, Nat.le_of_ble_eq_true rfl⟩ dX3_init_28 (zj_len (n := 44) hk rfl) rfl ?_
  refine z_dup dX3_init_31 rfl ?_
  refine z_callI (N := mX4_init) (mc1 := 20) (ms1 := 1395) (h1 := (pre ++ (.inr (3, [.ref (k + 1), .int (nI 0), .int (nI 0)]) :: .inl (3, 4, .inr (.inr (.inr (.inr (va_up (va_up (fun _ => none) 0 (some (k + 2))) 1 (some (k + 23))))))) :: (zLm (k + 2) ++ zLm (k + 23)) : zH)) ++ zLm (k + 44)) 0 [] [.ref (k + 44), .int (nI 2), .ref (k + 1)] hG lX4_init ⟨zw_178, zw_64⟩ rfl rfl rfl rfl (Nat.le_of_ble_eq_true rfl) (by decide) ⟨zj_lt (n := 1) (zj_len (n := 44) hk rfl) rfl (by omega), zj_lt (n := 21) (zj_len (n := 44) hk rfl) rfl (by omega)⟩ (zj_pos (n := 0) rfl) ⟨Nat.le_of_ble_eq_true rfl, Nat.le_of_ble_eq_true rfl⟩ (zj_hal rfl) (i_loomZ hG (zj_len (n := 44) hk rfl) (by omega)) dX3_init_32 ?_
  refine z_eqh (h2 := pre ++ (.inr (3, [.ref (k + 1), .int (nI 0), .int (nI 0)]) :: .inl (3, 4, .inr (.inr (.inr (.inr (va_up (va_up (fun _ => none) 0 (some (k + 2))) 1 (some (k + 23))))))) :: (zLm (k + 2) ++ zLm (k + 23) ++ zLm (k + 44)) : zH)) (zj_app rfl) ?_
  refine z_aastq (j := 2) (n := 4) (h2 := pre ++ (.inr (3, [.ref (k + 1), .int (nI 0), .int (nI 0)]) :: .inl (3, 4, .inr (.inr (.inr (.inr (va_up (va_up (va_up (fun _ => none) 0 (some (k + 2))) 1 (some (k + 23))) 2 (some (k + 44))))))) :: (zLm (k + 2) ++ zLm (k + 23) ++ zLm (k + 44)) : zH)) (zj_get 1 hk rfl) (zj_get 44 hk rfl) (by decide) (by decide) dX3_init_35 (zj_set 1 hk rfl) ?_
  refine z_iinc (v := nI 3) (lv' := [(1, .int (nI 3)), (0, .ref k)]) 0 dX3_init_36 rfl (by decide) (by decide) rfl ?_
  refine z_goto (tgt := 14) dX3_init_39 (by decide) ?_
  refine z_iload_n 0 dX3_init_14 rfl rfl ?_
  refine z_aload_n 1 dX3_init_15 rfl rfl ?_
  refine z_get (v := .ref (k + 1)) 0 (zj_get 0 hk rfl) rfl inX3 (by decide) zw_179 rfl rfl dX3_init_16 ?_
  refine z_alen (v := nI 4) (zj_get 1 hk rfl) (by decide) rfl dX3_init_19 ?_
  refine z_icmp_ge (tgt := 42) dX3_init_20 (by decide) (fun c => absurd c (by decide)) (fun _ => ?_)
  refine z_aload_n 1 dX3_init_23 rfl rfl ?_
  refine z_get (v := .ref (k + 1)) 0 (zj_get 0 hk rfl) rfl inX3 (by decide) zw_179 rfl rfl dX3_init_24 ?_
  refine z_iload_n 0 dX3_init_27 rfl rfl ?_
  refine z_new (ci := 4) (Cn := RX4) (T := TX4) (fs := [.int (nI 0), .int (nI 0), .int (nI 0), .int (nI 0), .int (nI 0), .null, .null, .null, .null, .null, .null]) tyX4 hG (zj_lt (n := 65) hk rfl (by omega)) (Or.inl (zj_pos (n := 64) rfl)) rfl inX4 tyX4_ok zw_176 zw_62 zw_36 df_X4 (fun _ => rfl) ⟨Nat.le_of_ble_eq_true rfl, Nat.le_of_ble_eq_true rfl⟩ dX3_init_28 (zj_len (n := 65) hk rfl) rfl ?_
  refine z_dup dX3_init_31 rfl ?_
  refine z_callI (N := mX4_init) (mc1 := 20) (ms1 := 1395) (h1 := (pre ++ (.inr (3, [.ref (k + 1), .int (nI 0), .int (nI 0)]) :: .inl (3, 4, .inr (.inr (.inr (.inr (va_up (va_up (va_up (fun _ => none) 0 (some (k + 2))) 1 (some (k + 23))) 2 (some (k + 44))))))) :: (zLm (k + 2) ++ zLm (k + 23) ++ zLm (k + 44)) : zH)) ++ zLm (k + 65)) 0 [] [.ref (k + 65), .int (nI 3), .ref (k + 1)] hG lX4_init ⟨zw_178, zw_64⟩ rfl rfl rfl rfl (Nat.le_of_ble_eq_true rfl) (by decide) ⟨zj_lt (n := 1) (zj_len (n := 65) hk rfl) rfl (by omega), zj_lt (n := 21) (zj_len (n := 65) hk rfl) rfl (by omega)⟩ (zj_pos (n := 0) rfl) ⟨Nat.le_of_ble_eq_true rfl, Nat.le_of_ble_eq_true rfl⟩ (zj_hal rfl) (i_loomZ hG (zj_len (n := 65) hk rfl) (by omega)) dX3_init_32 ?_
  refine z_eqh (h2 := pre ++ (.inr (3, [.ref (k + 1), .int (nI 0), .int (nI 0)]) :: .inl (3, 4, .inr (.inr (.inr (.inr (va_up (va_up (va_up (fun _ => none) 0 (some (k + 2))) 1 (some (k + 23))) 2 (some (k + 44))))))) :: (zLm (k + 2) ++ zLm (k + 23) ++ zLm (k + 44) ++ zLm (k + 65)) : zH)) (zj_app rfl) ?_
  refine z_aastq (j := 3) (n := 4) (h2 := pre ++ (.inr (3, [.ref (k + 1), .int (nI 0), .int (nI 0)]) :: .inl (3, 4, .inr (.inr (.inr (.inr (va_up (va_up (va_up (va_up (fun _ => none) 0 (some (k + 2))) 1 (some (k + 23))) 2 (some (k + 44))) 3 (some (k + 65))))))) :: (zLm (k + 2) ++ zLm (k + 23) ++ zLm (k + 44) ++ zLm (k + 65)) : zH)) (zj_get 1 hk rfl) (zj_get 65 hk rfl) (by decide) (by decide) dX3_init_35 (zj_set 1 hk rfl) ?_
  refine z_iinc (v := nI 4) (lv' := [(1, .int (nI 4)), (0, .ref k)]) 0 dX3_init_36 rfl (by decide) (by decide) rfl ?_
  refine z_goto (tgt := 14) dX3_init_39 (by decide) ?_
  refine z_iload_n 0 dX3_init_14 rfl rfl ?_
  refine z_aload_n 1 dX3_init_15 rfl rfl ?_
  refine z_get (v := .ref (k + 1)) 0 (zj_get 0 hk rfl) rfl inX3 (by decide) zw_179 rfl rfl dX3_init_16 ?_
  refine z_alen (v := nI 4) (zj_get 1 hk rfl) (by decide) rfl dX3_init_19 ?_
  refine z_icmp_ge (tgt := 42) dX3_init_20 (by decide) (fun _ => ?_) (fun c => absurd (by decide) c)
  exact z_vret rfl dX3_init_42 ho9.symm (zo_h hh9 rfl) (by decide) (by decide)

/-- a fresh MirrorLoom -/
def zM0 : zH := ([.inr (7, [.ref 1, .ref 22, .ref 108, .ref 111])] : zH) ++ ((zLm 1 : zH) ++ ((.inr (3, [.ref 23, .int (nI 0), .int (nI 0)]) :: .inl (3, 4, .inr (.inr (.inr (.inr (va_up (va_up (va_up (va_up (fun _ => none) 0 (some 24)) 1 (some 45)) 2 (some 66)) 3 (some 87)))))) :: (zLm 24 ++ zLm 45 ++ zLm 66 ++ zLm 87) : zH) ++ (([.inr (1, [.ref 109, .int (nI 0)]), .inr (6, [.ref 110]), .inl (0, 150, .inl (fun _ => 0))] : zH) ++ ([.inr (0, [.ref 108, .ref 112, .ref 1000, .int (nI 0), .int (-1)]), .inr (6, [.ref 113]), .inl (0, 5, .inl (fun _ => 0))] : zH))))

theorem zM0_len : zM0.length = 114 := rfl

set_option maxHeartbeats 4000000 in
set_option maxRecDepth 100000 in
theorem i_main {G : zT} (hG : zAl G = true) : zRun G mX9_init 113 7201 [.ref 0] [.inr (7, [.null, .null, .null, .null])] (.inr none) zM0 := by
  refine zRun_of (by decide +kernel) rfl rfl (Nat.le_of_ble_eq_true rfl) ?_
  suffices hs : ∀ (o9 : zO) (h9 : zH), (Sum.inr none : zO) = o9 → zM0 = h9 → zPW G mX9_init 113 7201 o9 h9 0 0 0 [(0, .ref 0)] [] [.inr (7, [.null, .null, .null, .null])] from hs _ _ rfl rfl
  intro o9 h9 ho9 hh9
  refine z_aload_n 0 dX9_init_0 rfl rfl ?_
  refine z_objInit zw_58 (by decide) (Nat.le_of_ble_eq_true rfl) dX9_init_1 ?_
  refine z_aload_n 0 dX9_init_4 rfl rfl ?_
  refine z_new (ci := 4) (Cn := RX4) (T := TX4) (fs := [.int (nI 0), .int (nI 0), .int (nI 0), .int (nI 0), .int (nI 0), .null, .null, .null, .null, .null, .null]) (q9 := 1) (h2 := (([.inr (7, [.null, .null, .null, .null])] : zH)) ++ ([.inr (4, [.int (nI 0), .int (nI 0), .int (nI 0), .int (nI 0), .int (nI 0), .null, .null, .null, .null, .null, .null])] : zH)) tyX4 hG (Nat.le_of_ble_eq_true rfl) (Or.inl (Nat.le_of_ble_eq_true rfl)) rfl inX4 tyX4_ok zw_61 zw_62 zw_36 df_X4 (fun _ => rfl) ⟨Nat.le_of_ble_eq_true rfl, Nat.le_of_ble_eq_true rfl⟩ dX9_init_5 rfl rfl ?_
  refine z_dup dX9_init_8 rfl ?_
  refine z_callI (N := mX4_init) (mc1 := 20) (ms1 := 1395) (h1 := (([.inr (7, [.null, .null, .null, .null])] : zH)) ++ (zLm 1 : zH)) 0 [] [.ref 1, .ref 0] hG lX4_init ⟨zw_63, zw_64⟩ rfl rfl rfl rfl (Nat.le_of_ble_eq_true rfl) (by decide) ⟨Nat.le_of_ble_eq_true rfl, Nat.le_of_ble_eq_true rfl⟩ (Nat.le_of_ble_eq_true rfl) ⟨Nat.le_of_ble_eq_true rfl, Nat.le_of_ble_eq_true rfl⟩ rfl (i_loomZ hG (pre := ([.inr (7, [.null, .null, .null, .null])] : zH)) (k := 1) rfl (by decide)) dX9_init_9 ?_
  refine z_eqh (h2 := ([.inr (7, [.null, .null, .null, .null])] : zH) ++ (zLm 1 : zH)) (by simp only [List.append_assoc, List.cons_append, List.nil_append]) ?_
  refine z_putFr (X := "MirrorLoom$Loom") 0 tyX9 (h := ([.inr (7, [.null, .null, .null, .null])] : zH) ++ (zLm 1 : zH)) (i := 0) rfl rfl inX9 tyX9_ok nmX9 (by decide) zw_230 rfl rfl rfl rfl (by decide +kernel) (Nat.le_of_ble_eq_true rfl) dX9_init_12 ?_
  refine z_eqh (h2 := ([.inr (7, [.ref 1, .null, .null, .null])] : zH) ++ (zLm 1 : zH)) rfl ?_
  refine z_aload_n 0 dX9_init_15 rfl rfl ?_
  refine z_new (ci := 3) (Cn := RX3) (T := TX3) (fs := [.null, .int (nI 0), .int (nI 0)]) (q9 := 22) (h2 := (([.inr (7, [.ref 1, .null, .null, .null])] : zH) ++ (zLm 1 : zH)) ++ ([.inr (3, [.null, .int (nI 0), .int (nI 0)])] : zH)) tyX3 hG (Nat.le_of_ble_eq_true rfl) (Or.inl (Nat.le_of_ble_eq_true rfl)) rfl inX3 tyX3_ok zw_170 zw_171 zw_41 df_X3 (fun _ => rfl) ⟨Nat.le_of_ble_eq_true rfl, Nat.le_of_ble_eq_true rfl⟩ dX9_init_16 rfl rfl ?_
  refine z_dup dX9_init_19 rfl ?_
  refine z_callI (N := mX3_init) (mc1 := 85) (ms1 := 5628) (h1 := (([.inr (7, [.ref 1, .null, .null, .null])] : zH) ++ (zLm 1 : zH)) ++ (.inr (3, [.ref 23, .int (nI 0), .int (nI 0)]) :: .inl (3, 4, .inr (.inr (.inr (.inr (va_up (va_up (va_up (va_up (fun _ => none) 0 (some 24)) 1 (some 45)) 2 (some 66)) 3 (some 87)))))) :: (zLm 24 ++ zLm 45 ++ zLm 66 ++ zLm 87) : zH)) 0 [] [.ref 22, .ref 0] hG lX3_init ⟨zw_172, zw_173⟩ rfl rfl rfl rfl (Nat.le_of_ble_eq_true rfl) (by decide) ⟨Nat.le_of_ble_eq_true rfl, Nat.le_of_ble_eq_true rfl⟩ (Nat.le_of_ble_eq_true rfl) ⟨Nat.le_of_ble_eq_true rfl, Nat.le_of_ble_eq_true rfl⟩ rfl (i_hist hG (pre := ([.inr (7, [.ref 1, .null, .null, .null])] : zH) ++ (zLm 1 : zH)) (k := 22) rfl (by decide)) dX9_init_20 ?_
  refine z_eqh (h2 := ([.inr (7, [.ref 1, .null, .null, .null])] : zH) ++ ((zLm 1 : zH) ++ (.inr (3, [.ref 23, .int (nI 0), .int (nI 0)]) :: .inl (3, 4, .inr (.inr (.inr (.inr (va_up (va_up (va_up (va_up (fun _ => none) 0 (some 24)) 1 (some 45)) 2 (some 66)) 3 (some 87)))))) :: (zLm 24 ++ zLm 45 ++ zLm 66 ++ zLm 87) : zH))) (by simp only [List.append_assoc, List.cons_append, List.nil_append]) ?_
  refine z_putFr (X := "MirrorLoom$History") 1 tyX9 (h := ([.inr (7, [.ref 1, .null, .null, .null])] : zH) ++ ((zLm 1 : zH) ++ (.inr (3, [.ref 23, .int (nI 0), .int (nI 0)]) :: .inl (3, 4, .inr (.inr (.inr (.inr (va_up (va_up (va_up (va_up (fun _ => none) 0 (some 24)) 1 (some 45)) 2 (some 66)) 3 (some 87)))))) :: (zLm 24 ++ zLm 45 ++ zLm 66 ++ zLm 87) : zH))) (i := 0) rfl rfl inX9 tyX9_ok nmX9 (by decide) zw_231 rfl rfl rfl rfl (by decide +kernel) (Nat.le_of_ble_eq_true rfl) dX9_init_23 ?_
  refine z_eqh (h2 := ([.inr (7, [.ref 1, .ref 22, .null, .null])] : zH) ++ ((zLm 1 : zH) ++ (.inr (3, [.ref 23, .int (nI 0), .int (nI 0)]) :: .inl (3, 4, .inr (.inr (.inr (.inr (va_up (va_up (va_up (va_up (fun _ => none) 0 (some 24)) 1 (some 45)) 2 (some 66)) 3 (some 87)))))) :: (zLm 24 ++ zLm 45 ++ zLm 66 ++ zLm 87) : zH))) rfl ?_
  refine z_aload_n 0 dX9_init_26 rfl rfl ?_
  refine z_new (ci := 1) (Cn := RX1) (T := TX1) (fs := [.null, .int (nI 0)]) (q9 := 108) (h2 := (([.inr (7, [.ref 1, .ref 22, .null, .null])] : zH) ++ ((zLm 1 : zH) ++ (.inr (3, [.ref 23, .int (nI 0), .int (nI 0)]) :: .inl (3, 4, .inr (.inr (.inr (.inr (va_up (va_up (va_up (va_up (fun _ => none) 0 (some 24)) 1 (some 45)) 2 (some 66)) 3 (some 87)))))) :: (zLm 24 ++ zLm 45 ++ zLm 66 ++ zLm 87) : zH))) ++ ([.inr (1, [.null, .int (nI 0)])] : zH)) tyX1 hG (Nat.le_of_ble_eq_true rfl) (Or.inl (Nat.le_of_ble_eq_true rfl)) rfl inX1 tyX1_ok zw_190 zw_191 zw_42 df_X1 (fun _ => rfl) ⟨Nat.le_of_ble_eq_true rfl, Nat.le_of_ble_eq_true rfl⟩ dX9_init_27 rfl rfl ?_
  refine z_dup dX9_init_30 rfl ?_
  refine z_callIN (N := mX1_init) (mc1 := 2) (ms1 := 151) (h1 := (([.inr (7, [.ref 1, .ref 22, .null, .null])] : zH) ++ ((zLm 1 : zH) ++ (.inr (3, [.ref 23, .int (nI 0), .int (nI 0)]) :: .inl (3, 4, .inr (.inr (.inr (.inr (va_up (va_up (va_up (va_up (fun _ => none) 0 (some 24)) 1 (some 45)) 2 (some 66)) 3 (some 87)))))) :: (zLm 24 ++ zLm 45 ++ zLm 66 ++ zLm 87) : zH))) ++ ([.inr (1, [.ref 109, .int (nI 0)]), .inr (6, [.ref 110]), .inl (0, 150, .inl (fun _ => 0))] : zH)) 0 [] [.ref 108, .ref 0] hG lX1_init ⟨(by decide), zw_193⟩ rfl rfl rfl rfl (Nat.le_of_ble_eq_true rfl) (by decide) ⟨Nat.le_of_ble_eq_true rfl, Nat.le_of_ble_eq_true rfl⟩ (Nat.le_of_ble_eq_true rfl) ⟨Nat.le_of_ble_eq_true rfl, Nat.le_of_ble_eq_true rfl⟩ rfl (i_text hG (pre := ([.inr (7, [.ref 1, .ref 22, .null, .null])] : zH) ++ ((zLm 1 : zH) ++ (.inr (3, [.ref 23, .int (nI 0), .int (nI 0)]) :: .inl (3, 4, .inr (.inr (.inr (.inr (va_up (va_up (va_up (va_up (fun _ => none) 0 (some 24)) 1 (some 45)) 2 (some 66)) 3 (some 87)))))) :: (zLm 24 ++ zLm 45 ++ zLm 66 ++ zLm 87) : zH))) (k := 108) rfl (by decide)) dX9_init_31 ?_
  refine z_eqh (h2 := ([.inr (7, [.ref 1, .ref 22, .null, .null])] : zH) ++ ((zLm 1 : zH) ++ ((.inr (3, [.ref 23, .int (nI 0), .int (nI 0)]) :: .inl (3, 4, .inr (.inr (.inr (.inr (va_up (va_up (va_up (va_up (fun _ => none) 0 (some 24)) 1 (some 45)) 2 (some 66)) 3 (some 87)))))) :: (zLm 24 ++ zLm 45 ++ zLm 66 ++ zLm 87) : zH) ++ ([.inr (1, [.ref 109, .int (nI 0)]), .inr (6, [.ref 110]), .inl (0, 150, .inl (fun _ => 0))] : zH)))) (by simp only [List.append_assoc, List.cons_append, List.nil_append]) ?_
  refine z_putFr (X := "MirrorLoom$CommandText") 2 tyX9 (h := ([.inr (7, [.ref 1, .ref 22, .null, .null])] : zH) ++ ((zLm 1 : zH) ++ ((.inr (3, [.ref 23, .int (nI 0), .int (nI 0)]) :: .inl (3, 4, .inr (.inr (.inr (.inr (va_up (va_up (va_up (va_up (fun _ => none) 0 (some 24)) 1 (some 45)) 2 (some 66)) 3 (some 87)))))) :: (zLm 24 ++ zLm 45 ++ zLm 66 ++ zLm 87) : zH) ++ ([.inr (1, [.ref 109, .int (nI 0)]), .inr (6, [.ref 110]), .inl (0, 150, .inl (fun _ => 0))] : zH)))) (i := 0) rfl rfl inX9 tyX9_ok nmX9 (by decide) zw_232 rfl rfl rfl rfl (by decide +kernel) (Nat.le_of_ble_eq_true rfl) dX9_init_34 ?_
  refine z_eqh (h2 := ([.inr (7, [.ref 1, .ref 22, .ref 108, .null])] : zH) ++ ((zLm 1 : zH) ++ ((.inr (3, [.ref 23, .int (nI 0), .int (nI 0)]) :: .inl (3, 4, .inr (.inr (.inr (.inr (va_up (va_up (va_up (va_up (fun _ => none) 0 (some 24)) 1 (some 45)) 2 (some 66)) 3 (some 87)))))) :: (zLm 24 ++ zLm 45 ++ zLm 66 ++ zLm 87) : zH) ++ ([.inr (1, [.ref 109, .int (nI 0)]), .inr (6, [.ref 110]), .inl (0, 150, .inl (fun _ => 0))] : zH)))) rfl ?_
  refine z_aload_n 0 dX9_init_37 rfl rfl ?_
  refine z_new (ci := 0) (Cn := RX0) (T := TX0) (fs := [.null, .null, .null, .int (nI 0), .int (nI 0)]) (q9 := 111) (h2 := (([.inr (7, [.ref 1, .ref 22, .ref 108, .null])] : zH) ++ ((zLm 1 : zH) ++ ((.inr (3, [.ref 23, .int (nI 0), .int (nI 0)]) :: .inl (3, 4, .inr (.inr (.inr (.inr (va_up (va_up (va_up (va_up (fun _ => none) 0 (some 24)) 1 (some 45)) 2 (some 66)) 3 (some 87)))))) :: (zLm 24 ++ zLm 45 ++ zLm 66 ++ zLm 87) : zH) ++ ([.inr (1, [.ref 109, .int (nI 0)]), .inr (6, [.ref 110]), .inl (0, 150, .inl (fun _ => 0))] : zH)))) ++ ([.inr (0, [.null, .null, .null, .int (nI 0), .int (nI 0)])] : zH)) tyX0 hG (Nat.le_of_ble_eq_true rfl) (Or.inl (Nat.le_of_ble_eq_true rfl)) rfl inX0 tyX0_ok zw_205 zw_206 zw_43 df_X0 (fun _ => rfl) ⟨Nat.le_of_ble_eq_true rfl, Nat.le_of_ble_eq_true rfl⟩ dX9_init_38 rfl rfl ?_
  refine z_dup dX9_init_41 rfl ?_
  refine z_aload_n 0 dX9_init_42 rfl rfl ?_
  refine z_get (v := .ref 108) 2 (h := (([.inr (7, [.ref 1, .ref 22, .ref 108, .null])] : zH) ++ ((zLm 1 : zH) ++ ((.inr (3, [.ref 23, .int (nI 0), .int (nI 0)]) :: .inl (3, 4, .inr (.inr (.inr (.inr (va_up (va_up (va_up (va_up (fun _ => none) 0 (some 24)) 1 (some 45)) 2 (some 66)) 3 (some 87)))))) :: (zLm 24 ++ zLm 45 ++ zLm 66 ++ zLm 87) : zH) ++ ([.inr (1, [.ref 109, .int (nI 0)]), .inr (6, [.ref 110]), .inl (0, 150, .inl (fun _ => 0))] : zH)))) ++ ([.inr (0, [.null, .null, .null, .int (nI 0), .int (nI 0)])] : zH)) (i := 0) rfl rfl inX9 (by decide) zw_232 rfl rfl dX9_init_43 ?_
  refine z_callI (N := mX0_init) (mc1 := 2) (ms1 := 6) (h1 := (([.inr (7, [.ref 1, .ref 22, .ref 108, .null])] : zH) ++ ((zLm 1 : zH) ++ ((.inr (3, [.ref 23, .int (nI 0), .int (nI 0)]) :: .inl (3, 4, .inr (.inr (.inr (.inr (va_up (va_up (va_up (va_up (fun _ => none) 0 (some 24)) 1 (some 45)) 2 (some 66)) 3 (some 87)))))) :: (zLm 24 ++ zLm 45 ++ zLm 66 ++ zLm 87) : zH) ++ ([.inr (1, [.ref 109, .int (nI 0)]), .inr (6, [.ref 110]), .inl (0, 150, .inl (fun _ => 0))] : zH)))) ++ ([.inr (0, [.ref 108, .ref 112, .ref 1000, .int (nI 0), .int (-1)]), .inr (6, [.ref 113]), .inl (0, 5, .inl (fun _ => 0))] : zH)) 1 [.ref 108] [.ref 111, .ref 0] hG lX0_init ⟨zw_207, zw_208⟩ rfl rfl rfl rfl (Nat.le_of_ble_eq_true rfl) (by decide) ⟨Nat.le_of_ble_eq_true rfl, Nat.le_of_ble_eq_true rfl⟩ (Nat.le_of_ble_eq_true rfl) ⟨Nat.le_of_ble_eq_true rfl, Nat.le_of_ble_eq_true rfl⟩ rfl (i_rdr (t := 108) hG (pre := ([.inr (7, [.ref 1, .ref 22, .ref 108, .null])] : zH) ++ ((zLm 1 : zH) ++ ((.inr (3, [.ref 23, .int (nI 0), .int (nI 0)]) :: .inl (3, 4, .inr (.inr (.inr (.inr (va_up (va_up (va_up (va_up (fun _ => none) 0 (some 24)) 1 (some 45)) 2 (some 66)) 3 (some 87)))))) :: (zLm 24 ++ zLm 45 ++ zLm 66 ++ zLm 87) : zH) ++ ([.inr (1, [.ref 109, .int (nI 0)]), .inr (6, [.ref 110]), .inl (0, 150, .inl (fun _ => 0))] : zH)))) (k := 111) rfl (by decide)) dX9_init_46 ?_
  refine z_eqh (h2 := ([.inr (7, [.ref 1, .ref 22, .ref 108, .null])] : zH) ++ ((zLm 1 : zH) ++ ((.inr (3, [.ref 23, .int (nI 0), .int (nI 0)]) :: .inl (3, 4, .inr (.inr (.inr (.inr (va_up (va_up (va_up (va_up (fun _ => none) 0 (some 24)) 1 (some 45)) 2 (some 66)) 3 (some 87)))))) :: (zLm 24 ++ zLm 45 ++ zLm 66 ++ zLm 87) : zH) ++ (([.inr (1, [.ref 109, .int (nI 0)]), .inr (6, [.ref 110]), .inl (0, 150, .inl (fun _ => 0))] : zH) ++ ([.inr (0, [.ref 108, .ref 112, .ref 1000, .int (nI 0), .int (-1)]), .inr (6, [.ref 113]), .inl (0, 5, .inl (fun _ => 0))] : zH))))) (by simp only [List.append_assoc, List.cons_append, List.nil_append]) ?_
  refine z_putFr (X := "MirrorLoom$CommandReader") 3 tyX9 (h := ([.inr (7, [.ref 1, .ref 22, .ref 108, .null])] : zH) ++ ((zLm 1 : zH) ++ ((.inr (3, [.ref 23, .int (nI 0), .int (nI 0)]) :: .inl (3, 4, .inr (.inr (.inr (.inr (va_up (va_up (va_up (va_up (fun _ => none) 0 (some 24)) 1 (some 45)) 2 (some 66)) 3 (some 87)))))) :: (zLm 24 ++ zLm 45 ++ zLm 66 ++ zLm 87) : zH) ++ (([.inr (1, [.ref 109, .int (nI 0)]), .inr (6, [.ref 110]), .inl (0, 150, .inl (fun _ => 0))] : zH) ++ ([.inr (0, [.ref 108, .ref 112, .ref 1000, .int (nI 0), .int (-1)]), .inr (6, [.ref 113]), .inl (0, 5, .inl (fun _ => 0))] : zH))))) (i := 0) rfl rfl inX9 tyX9_ok nmX9 (by decide) zw_233 rfl rfl rfl rfl (by decide +kernel) (Nat.le_of_ble_eq_true rfl) dX9_init_49 ?_
  refine z_eqh (h2 := ([.inr (7, [.ref 1, .ref 22, .ref 108, .ref 111])] : zH) ++ ((zLm 1 : zH) ++ ((.inr (3, [.ref 23, .int (nI 0), .int (nI 0)]) :: .inl (3, 4, .inr (.inr (.inr (.inr (va_up (va_up (va_up (va_up (fun _ => none) 0 (some 24)) 1 (some 45)) 2 (some 66)) 3 (some 87)))))) :: (zLm 24 ++ zLm 45 ++ zLm 66 ++ zLm 87) : zH) ++ (([.inr (1, [.ref 109, .int (nI 0)]), .inr (6, [.ref 110]), .inl (0, 150, .inl (fun _ => 0))] : zH) ++ ([.inr (0, [.ref 108, .ref 112, .ref 1000, .int (nI 0), .int (-1)]), .inr (6, [.ref 113]), .inl (0, 5, .inl (fun _ => 0))] : zH))))) rfl ?_
  exact z_vret rfl dX9_init_52 ho9.symm (zo_h hh9 rfl) (by decide) (by decide)
