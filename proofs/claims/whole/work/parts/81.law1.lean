theorem zgl_126 {S : zS} {X : zXr} {Y : zYr} {o : Nat → Int64} : (zHp S X Y o)[126]? = some (.inl (1, 1, .inr (.inl o))) := rfl
/-- what isn't caught by a handler ahead -/
def zNcs (G : zT) : Prop := ∀ q ∈ zNp, ∀ U, zKs G U → va_Nc q.1 q.2 U
theorem zNcs_ok (G : zT) : zNcs G := fun q hq _ hU => hU.2.2.2.2.2.2.2.1.2.2.2.1 q hq

set_option maxHeartbeats 4000000 in
set_option maxRecDepth 100000 in
theorem c_l_begin {G : zT} {S S2 : zS} {X X2 : zXr} {Y : zYr} {out : Nat → Int64} {a0 a1 : Int32} {v : Int32} (hG : zAl G = false) (hR : zRun G mX9_begin 0 0 [.ref 0, .int a0, .int a1] (zHp S X Y out) (.inr (some (.int v))) (zHp S2 X2 Y out)) : zRun G mL_begin 0 0 [.ref 0, .int a0, .int a1, .ref 126] (zHp S X Y out) (.inr (some (.int 0))) (zHp S2 X2 Y (vp_updL out 0 v.toInt64)) := by
  refine zRun_ofH (by decide +kernel) rfl (by decide) (Nat.le_of_ble_eq_true rfl) ?_
  suffices hs : ∀ (o9 : zO) (h9 : zH), (Sum.inr (some (.int 0)) : zO) = o9 → (zHp S2 X2 Y (vp_updL out 0 v.toInt64)) = h9 → zPW G mL_begin 0 0 o9 h9 0 0 0 [(0, .ref 0), (1, .int a0), (2, .int a1), (3, .ref 126)] [] (zHp S X Y out) from hs _ _ rfl rfl
  intro o9 h9 ho9 hh9
  refine z_aload_n 3 dL_begin_0 rfl rfl ?_
  refine z_iconst (v := 0) dL_begin_1 (by decide) ?_
  refine z_aload_n 0 dL_begin_2 rfl rfl ?_
  refine z_iload_n 1 dL_begin_3 rfl rfl ?_
  refine z_iload_n 2 dL_begin_4 rfl rfl ?_
  refine z_callV (N := mX9_begin) 2 [.int a0, .int a1] [.int 0, .ref 126] lX9_begin ⟨zw_879, zw_880, zw_881⟩ rfl zgo_0 rfl rfl (Nat.le_of_ble_eq_true rfl) (by decide) ⟨zlt, zlt⟩ ⟨Nat.zero_le _, Nat.zero_le _⟩ zal hR dL_begin_5 ?_
  refine z_i2l dL_begin_8 ?_
  refine z_last (i := 126) (n := 1) (f := out) zgl_126 (by unfold vp_in; decide) dL_begin_9 ?_
  refine z_eqh (h2 := (zHp S2 X2 Y (vp_updL out 0 v.toInt64))) rfl ?_
  refine z_goto (tgt := 17) dL_begin_10 (by decide) ?_
  refine z_iconst (v := 0) dL_begin_17 (by decide) ?_
  exact z_iret rfl dL_begin_18 (zo_i ho9 (by rfl)) (zo_h hh9 (by rfl)) (Nat.zero_le _) (Nat.zero_le _)

set_option maxHeartbeats 4000000 in
set_option maxRecDepth 100000 in
theorem c_l_begin_1 {G : zT} {S S2 : zS} {X X2 : zXr} {Y : zYr} {out : Nat → Int64} {a0 a1 : Int32} (hG : zAl G = false) (hNc : zNcs G) (hR : zRun G mX9_begin 1 6 [.ref 0, .int a0, .int a1] (zHp S X Y out) (.inl "java/lang/IllegalArgumentException") (zHp S2 X2 Y out)) : zRun G mL_begin 1 6 [.ref 0, .int a0, .int a1, .ref 126] (zHp S X Y out) (.inr (some (.int 1))) (zHp S2 X2 Y out) := by
  refine zRun_ofH (by decide +kernel) rfl (by decide) (Nat.le_of_ble_eq_true rfl) ?_
  suffices hs : ∀ (o9 : zO) (h9 : zH), (Sum.inr (some (.int 1)) : zO) = o9 → (zHp S2 X2 Y out) = h9 → zPW G mL_begin 1 6 o9 h9 0 0 0 [(0, .ref 0), (1, .int a0), (2, .int a1), (3, .ref 126)] [] (zHp S X Y out) from hs _ _ rfl rfl
  intro o9 h9 ho9 hh9
  refine z_aload_n 3 dL_begin_0 rfl rfl ?_
  refine z_iconst (v := 0) dL_begin_1 (by decide) ?_
  refine z_aload_n 0 dL_begin_2 rfl rfl ?_
  refine z_iload_n 1 dL_begin_3 rfl rfl ?_
  refine z_iload_n 2 dL_begin_4 rfl rfl ?_
  refine z_callVC (N := mX9_begin) (i9 := 4) (L9 := 2) (lv' := [(0, .ref 0), (1, .int a0), (2, .int a1), (3, .ref 126)]) [] [] 2 [.int a0, .int a1] [.int 0, .ref 126] lX9_begin ⟨zw_879, zw_880, zw_881⟩ rfl zgo_0 rfl rfl (Nat.le_of_ble_eq_true rfl) (by decide) hG ⟨by decide, by decide⟩ hR dL_begin_5 rfl (by decide) (by decide) zw_878 (by decide) (fun z hz => nomatch hz) (Or.inl ⟨dL_begin_13, rfl⟩) (by decide) rfl ?_
  refine z_iconst (v := 1) dL_begin_15 (by decide) ?_
  exact z_iret rfl dL_begin_16 (zo_i ho9 (by rfl)) (zo_h hh9 (by rfl)) (by decide) (by decide)

set_option maxHeartbeats 4000000 in
set_option maxRecDepth 100000 in
theorem c_l_fill {G : zT} {S S2 : zS} {X X2 : zXr} {Y : zYr} {out : Nat → Int64} {a0 a1 a2 a3 a4 : Int32} {v : Int32} (hG : zAl G = false) (hR : zRun G mX9_fill 0 0 [.ref 0, .int a0, .int a1, .int a2, .int a3, .int a4] (zHp S X Y out) (.inr (some (.int v))) (zHp S2 X2 Y out)) : zRun G mL_fill 0 0 [.ref 0, .int a0, .int a1, .int a2, .int a3, .int a4, .ref 126] (zHp S X Y out) (.inr (some (.int 0))) (zHp S2 X2 Y (vp_updL out 0 v.toInt64)) := by
  refine zRun_ofH (by decide +kernel) rfl (by decide) (Nat.le_of_ble_eq_true rfl) ?_
  suffices hs : ∀ (o9 : zO) (h9 : zH), (Sum.inr (some (.int 0)) : zO) = o9 → (zHp S2 X2 Y (vp_updL out 0 v.toInt64)) = h9 → zPW G mL_fill 0 0 o9 h9 0 0 0 [(0, .ref 0), (1, .int a0), (2, .int a1), (3, .int a2), (4, .int a3), (5, .int a4), (6, .ref 126)] [] (zHp S X Y out) from hs _ _ rfl rfl
  intro o9 h9 ho9 hh9
  refine z_aload 6 dL_fill_0 rfl ?_
  refine z_iconst (v := 0) dL_fill_2 (by decide) ?_
  refine z_aload_n 0 dL_fill_3 rfl rfl ?_
  refine z_iload_n 1 dL_fill_4 rfl rfl ?_
  refine z_iload_n 2 dL_fill_5 rfl rfl ?_
  refine z_iload_n 3 dL_fill_6 rfl rfl ?_
  refine z_iload 4 dL_fill_7 rfl ?_
  refine z_iload 5 dL_fill_9 rfl ?_
  refine z_callV (N := mX9_fill) 5 [.int a0, .int a1, .int a2, .int a3, .int a4] [.int 0, .ref 126] lX9_fill ⟨zw_990, zw_991, zw_992⟩ rfl zgo_0 rfl rfl (Nat.le_of_ble_eq_true rfl) (by decide) ⟨zlt, zlt⟩ ⟨Nat.zero_le _, Nat.zero_le _⟩ zal hR dL_fill_11 ?_
  refine z_i2l dL_fill_14 ?_
  refine z_last (i := 126) (n := 1) (f := out) zgl_126 (by unfold vp_in; decide) dL_fill_15 ?_
  refine z_eqh (h2 := (zHp S2 X2 Y (vp_updL out 0 v.toInt64))) rfl ?_
  refine z_goto (tgt := 27) dL_fill_16 (by decide) ?_
  refine z_iconst (v := 0) dL_fill_27 (by decide) ?_
  exact z_iret rfl dL_fill_28 (zo_i ho9 (by rfl)) (zo_h hh9 (by rfl)) (Nat.zero_le _) (Nat.zero_le _)

set_option maxHeartbeats 4000000 in
set_option maxRecDepth 100000 in
theorem c_l_fill_1 {G : zT} {S S2 : zS} {X X2 : zXr} {Y : zYr} {out : Nat → Int64} {a0 a1 a2 a3 a4 : Int32} (hG : zAl G = false) (hNc : zNcs G) (hR : zRun G mX9_fill 1 6 [.ref 0, .int a0, .int a1, .int a2, .int a3, .int a4] (zHp S X Y out) (.inl "java/lang/IndexOutOfBoundsException") (zHp S2 X2 Y out)) : zRun G mL_fill 1 6 [.ref 0, .int a0, .int a1, .int a2, .int a3, .int a4, .ref 126] (zHp S X Y out) (.inr (some (.int 1))) (zHp S2 X2 Y out) := by
  refine zRun_ofH (by decide +kernel) rfl (by decide) (Nat.le_of_ble_eq_true rfl) ?_
  suffices hs : ∀ (o9 : zO) (h9 : zH), (Sum.inr (some (.int 1)) : zO) = o9 → (zHp S2 X2 Y out) = h9 → zPW G mL_fill 1 6 o9 h9 0 0 0 [(0, .ref 0), (1, .int a0), (2, .int a1), (3, .int a2), (4, .int a3), (5, .int a4), (6, .ref 126)] [] (zHp S X Y out) from hs _ _ rfl rfl
  intro o9 h9 ho9 hh9
  refine z_aload 6 dL_fill_0 rfl ?_
  refine z_iconst (v := 0) dL_fill_2 (by decide) ?_
  refine z_aload_n 0 dL_fill_3 rfl rfl ?_
  refine z_iload_n 1 dL_fill_4 rfl rfl ?_
  refine z_iload_n 2 dL_fill_5 rfl rfl ?_
  refine z_iload_n 3 dL_fill_6 rfl rfl ?_
  refine z_iload 4 dL_fill_7 rfl ?_
  refine z_iload 5 dL_fill_9 rfl ?_
  refine z_callVC (N := mX9_fill) (i9 := 7) (L9 := 2) (lv' := [(0, .ref 0), (1, .int a0), (2, .int a1), (3, .int a2), (4, .int a3), (5, .int a4), (6, .ref 126)]) [] [(0, 16, 23, 13)] 5 [.int a0, .int a1, .int a2, .int a3, .int a4] [.int 0, .ref 126] lX9_fill ⟨zw_990, zw_991, zw_992⟩ rfl zgo_0 rfl rfl (Nat.le_of_ble_eq_true rfl) (by decide) hG ⟨by decide, by decide⟩ hR dL_fill_11 rfl (by decide) (by decide) zw_989 (by decide) (fun z hz => nomatch hz) (Or.inl ⟨dL_fill_19, rfl⟩) (by decide) rfl ?_
  refine z_iconst (v := 1) dL_fill_21 (by decide) ?_
  exact z_iret rfl dL_fill_22 (zo_i ho9 (by rfl)) (zo_h hh9 (by rfl)) (by decide) (by decide)

set_option maxHeartbeats 4000000 in
set_option maxRecDepth 100000 in
theorem c_l_fill_2 {G : zT} {S S2 : zS} {X X2 : zXr} {Y : zYr} {out : Nat → Int64} {a0 a1 a2 a3 a4 : Int32} (hG : zAl G = false) (hNc : zNcs G) (hR : zRun G mX9_fill 1 6 [.ref 0, .int a0, .int a1, .int a2, .int a3, .int a4] (zHp S X Y out) (.inl "java/lang/IllegalArgumentException") (zHp S2 X2 Y out)) : zRun G mL_fill 1 6 [.ref 0, .int a0, .int a1, .int a2, .int a3, .int a4, .ref 126] (zHp S X Y out) (.inr (some (.int 2))) (zHp S2 X2 Y out) := by
  refine zRun_ofH (by decide +kernel) rfl (by decide) (Nat.le_of_ble_eq_true rfl) ?_
  suffices hs : ∀ (o9 : zO) (h9 : zH), (Sum.inr (some (.int 2)) : zO) = o9 → (zHp S2 X2 Y out) = h9 → zPW G mL_fill 1 6 o9 h9 0 0 0 [(0, .ref 0), (1, .int a0), (2, .int a1), (3, .int a2), (4, .int a3), (5, .int a4), (6, .ref 126)] [] (zHp S X Y out) from hs _ _ rfl rfl
  intro o9 h9 ho9 hh9
  refine z_aload 6 dL_fill_0 rfl ?_
  refine z_iconst (v := 0) dL_fill_2 (by decide) ?_
  refine z_aload_n 0 dL_fill_3 rfl rfl ?_
  refine z_iload_n 1 dL_fill_4 rfl rfl ?_
  refine z_iload_n 2 dL_fill_5 rfl rfl ?_
  refine z_iload_n 3 dL_fill_6 rfl rfl ?_
  refine z_iload 4 dL_fill_7 rfl ?_
  refine z_iload 5 dL_fill_9 rfl ?_
  refine z_callVC (N := mX9_fill) (i9 := 7) (L9 := 2) (lv' := [(0, .ref 0), (1, .int a0), (2, .int a1), (3, .int a2), (4, .int a3), (5, .int a4), (6, .ref 126)]) [(0, 16, 19, 19)] [] 5 [.int a0, .int a1, .int a2, .int a3, .int a4] [.int 0, .ref 126] lX9_fill ⟨zw_990, zw_991, zw_992⟩ rfl zgo_0 rfl rfl (Nat.le_of_ble_eq_true rfl) (by decide) hG ⟨by decide, by decide⟩ hR dL_fill_11 rfl (by decide) (by decide) zw_878 (by decide) (fun z hz => by rw [List.mem_singleton] at hz; subst hz; exact ⟨by decide, _, zw_989, hNc ("java/lang/IllegalArgumentException", "java/lang/IndexOutOfBoundsException") (by decide)⟩) (Or.inl ⟨dL_fill_23, rfl⟩) (by decide) rfl ?_
  refine z_iconst (v := 2) dL_fill_25 (by decide) ?_
  exact z_iret rfl dL_fill_26 (zo_i ho9 (by rfl)) (zo_h hh9 (by rfl)) (by decide) (by decide)

set_option maxHeartbeats 4000000 in
set_option maxRecDepth 100000 in
theorem c_l_addLot {G : zT} {S S2 : zS} {X X2 : zXr} {Y : zYr} {out : Nat → Int64} {a0 a1 a2 : Int32} {v : Int32} (hG : zAl G = false) (hR : zRun G mX9_addLot 0 0 [.ref 0, .int a0, .int a1, .int a2] (zHp S X Y out) (.inr (some (.int v))) (zHp S2 X2 Y out)) : zRun G mL_addLot 0 0 [.ref 0, .int a0, .int a1, .int a2, .ref 126] (zHp S X Y out) (.inr (some (.int 0))) (zHp S2 X2 Y (vp_updL out 0 v.toInt64)) := by
  refine zRun_ofH (by decide +kernel) rfl (by decide) (Nat.le_of_ble_eq_true rfl) ?_
  suffices hs : ∀ (o9 : zO) (h9 : zH), (Sum.inr (some (.int 0)) : zO) = o9 → (zHp S2 X2 Y (vp_updL out 0 v.toInt64)) = h9 → zPW G mL_addLot 0 0 o9 h9 0 0 0 [(0, .ref 0), (1, .int a0), (2, .int a1), (3, .int a2), (4, .ref 126)] [] (zHp S X Y out) from hs _ _ rfl rfl
  intro o9 h9 ho9 hh9
  refine z_aload 4 dL_addLot_0 rfl ?_
  refine z_iconst (v := 0) dL_addLot_2 (by decide) ?_
  refine z_aload_n 0 dL_addLot_3 rfl rfl ?_
  refine z_iload_n 1 dL_addLot_4 rfl rfl ?_
  refine z_iload_n 2 dL_addLot_5 rfl rfl ?_
  refine z_iload_n 3 dL_addLot_6 rfl rfl ?_
  refine z_callV (N := mX9_addLot) 3 [.int a0, .int a1, .int a2] [.int 0, .ref 126] lX9_addLot ⟨zw_998, zw_999, zw_1000⟩ rfl zgo_0 rfl rfl (Nat.le_of_ble_eq_true rfl) (by decide) ⟨zlt, zlt⟩ ⟨Nat.zero_le _, Nat.zero_le _⟩ zal hR dL_addLot_7 ?_
  refine z_i2l dL_addLot_10 ?_
  refine z_last (i := 126) (n := 1) (f := out) zgl_126 (by unfold vp_in; decide) dL_addLot_11 ?_
  refine z_eqh (h2 := (zHp S2 X2 Y (vp_updL out 0 v.toInt64))) rfl ?_
  refine z_goto (tgt := 23) dL_addLot_12 (by decide) ?_
  refine z_iconst (v := 0) dL_addLot_23 (by decide) ?_
  exact z_iret rfl dL_addLot_24 (zo_i ho9 (by rfl)) (zo_h hh9 (by rfl)) (Nat.zero_le _) (Nat.zero_le _)

set_option maxHeartbeats 4000000 in
set_option maxRecDepth 100000 in
theorem c_l_addLot_1 {G : zT} {S S2 : zS} {X X2 : zXr} {Y : zYr} {out : Nat → Int64} {a0 a1 a2 : Int32} (hG : zAl G = false) (hNc : zNcs G) (hR : zRun G mX9_addLot 1 6 [.ref 0, .int a0, .int a1, .int a2] (zHp S X Y out) (.inl "java/lang/IllegalArgumentException") (zHp S2 X2 Y out)) : zRun G mL_addLot 1 6 [.ref 0, .int a0, .int a1, .int a2, .ref 126] (zHp S X Y out) (.inr (some (.int 1))) (zHp S2 X2 Y out) := by
  refine zRun_ofH (by decide +kernel) rfl (by decide) (Nat.le_of_ble_eq_true rfl) ?_
  suffices hs : ∀ (o9 : zO) (h9 : zH), (Sum.inr (some (.int 1)) : zO) = o9 → (zHp S2 X2 Y out) = h9 → zPW G mL_addLot 1 6 o9 h9 0 0 0 [(0, .ref 0), (1, .int a0), (2, .int a1), (3, .int a2), (4, .ref 126)] [] (zHp S X Y out) from hs _ _ rfl rfl
  intro o9 h9 ho9 hh9
  refine z_aload 4 dL_addLot_0 rfl ?_
  refine z_iconst (v := 0) dL_addLot_2 (by decide) ?_
  refine z_aload_n 0 dL_addLot_3 rfl rfl ?_
  refine z_iload_n 1 dL_addLot_4 rfl rfl ?_
  refine z_iload_n 2 dL_addLot_5 rfl rfl ?_
  refine z_iload_n 3 dL_addLot_6 rfl rfl ?_
  refine z_callVC (N := mX9_addLot) (i9 := 5) (L9 := 2) (lv' := [(0, .ref 0), (1, .int a0), (2, .int a1), (3, .int a2), (4, .ref 126)]) [] [(0, 12, 19, 25)] 3 [.int a0, .int a1, .int a2] [.int 0, .ref 126] lX9_addLot ⟨zw_998, zw_999, zw_1000⟩ rfl zgo_0 rfl rfl (Nat.le_of_ble_eq_true rfl) (by decide) hG ⟨by decide, by decide⟩ hR dL_addLot_7 rfl (by decide) (by decide) zw_878 (by decide) (fun z hz => nomatch hz) (Or.inl ⟨dL_addLot_15, rfl⟩) (by decide) rfl ?_
  refine z_iconst (v := 1) dL_addLot_17 (by decide) ?_
  exact z_iret rfl dL_addLot_18 (zo_i ho9 (by rfl)) (zo_h hh9 (by rfl)) (by decide) (by decide)

set_option maxHeartbeats 4000000 in
set_option maxRecDepth 100000 in
theorem c_l_addLot_2 {G : zT} {S S2 : zS} {X X2 : zXr} {Y : zYr} {out : Nat → Int64} {a0 a1 a2 : Int32} (hG : zAl G = false) (hNc : zNcs G) (hR : zRun G mX9_addLot 1 6 [.ref 0, .int a0, .int a1, .int a2] (zHp S X Y out) (.inl "java/lang/IllegalStateException") (zHp S2 X2 Y out)) : zRun G mL_addLot 1 6 [.ref 0, .int a0, .int a1, .int a2, .ref 126] (zHp S X Y out) (.inr (some (.int 2))) (zHp S2 X2 Y out) := by
  refine zRun_ofH (by decide +kernel) rfl (by decide) (Nat.le_of_ble_eq_true rfl) ?_
  suffices hs : ∀ (o9 : zO) (h9 : zH), (Sum.inr (some (.int 2)) : zO) = o9 → (zHp S2 X2 Y out) = h9 → zPW G mL_addLot 1 6 o9 h9 0 0 0 [(0, .ref 0), (1, .int a0), (2, .int a1), (3, .int a2), (4, .ref 126)] [] (zHp S X Y out) from hs _ _ rfl rfl
  intro o9 h9 ho9 hh9
  refine z_aload 4 dL_addLot_0 rfl ?_
  refine z_iconst (v := 0) dL_addLot_2 (by decide) ?_
  refine z_aload_n 0 dL_addLot_3 rfl rfl ?_
  refine z_iload_n 1 dL_addLot_4 rfl rfl ?_
  refine z_iload_n 2 dL_addLot_5 rfl rfl ?_
  refine z_iload_n 3 dL_addLot_6 rfl rfl ?_
  refine z_callVC (N := mX9_addLot) (i9 := 5) (L9 := 2) (lv' := [(0, .ref 0), (1, .int a0), (2, .int a1), (3, .int a2), (4, .ref 126)]) [(0, 12, 15, 13)] [] 3 [.int a0, .int a1, .int a2] [.int 0, .ref 126] lX9_addLot ⟨zw_998, zw_999, zw_1000⟩ rfl zgo_0 rfl rfl (Nat.le_of_ble_eq_true rfl) (by decide) hG ⟨by decide, by decide⟩ hR dL_addLot_7 rfl (by decide) (by decide) zw_997 (by decide) (fun z hz => by rw [List.mem_singleton] at hz; subst hz; exact ⟨by decide, _, zw_878, hNc ("java/lang/IllegalStateException", "java/lang/IllegalArgumentException") (by decide)⟩) (Or.inl ⟨dL_addLot_19, rfl⟩) (by decide) rfl ?_
  refine z_iconst (v := 2) dL_addLot_21 (by decide) ?_
  exact z_iret rfl dL_addLot_22 (zo_i ho9 (by rfl)) (zo_h hh9 (by rfl)) (by decide) (by decide)

set_option maxHeartbeats 4000000 in
set_option maxRecDepth 100000 in
theorem c_l_setTolerance {G : zT} {S S2 : zS} {X X2 : zXr} {Y : zYr} {out : Nat → Int64} {a0 : Int32} {v : Int32} (hG : zAl G = false) (hR : zRun G mX9_setTolerance 0 0 [.ref 0, .int a0] (zHp S X Y out) (.inr (some (.int v))) (zHp S2 X2 Y out)) : zRun G mL_setTolerance 0 0 [.ref 0, .int a0, .ref 126] (zHp S X Y out) (.inr (some (.int 0))) (zHp S2 X2 Y (vp_updL out 0 v.toInt64)) := by
  refine zRun_ofH (by decide +kernel) rfl (by decide) (Nat.le_of_ble_eq_true rfl) ?_
  suffices hs : ∀ (o9 : zO) (h9 : zH), (Sum.inr (some (.int 0)) : zO) = o9 → (zHp S2 X2 Y (vp_updL out 0 v.toInt64)) = h9 → zPW G mL_setTolerance 0 0 o9 h9 0 0 0 [(0, .ref 0), (1, .int a0), (2, .ref 126)] [] (zHp S X Y out) from hs _ _ rfl rfl
  intro o9 h9 ho9 hh9
  refine z_aload_n 2 dL_setTolerance_0 rfl rfl ?_
  refine z_iconst (v := 0) dL_setTolerance_1 (by decide) ?_
  refine z_aload_n 0 dL_setTolerance_2 rfl rfl ?_
  refine z_iload_n 1 dL_setTolerance_3 rfl rfl ?_
  refine z_callV (N := mX9_setTolerance) 1 [.int a0] [.int 0, .ref 126] lX9_setTolerance ⟨zw_1005, zw_1006, zw_1007⟩ rfl zgo_0 rfl rfl (Nat.le_of_ble_eq_true rfl) (by decide) ⟨zlt, zlt⟩ ⟨Nat.zero_le _, Nat.zero_le _⟩ zal hR dL_setTolerance_4 ?_
  refine z_i2l dL_setTolerance_7 ?_
  refine z_last (i := 126) (n := 1) (f := out) zgl_126 (by unfold vp_in; decide) dL_setTolerance_8 ?_
  refine z_eqh (h2 := (zHp S2 X2 Y (vp_updL out 0 v.toInt64))) rfl ?_
  refine z_goto (tgt := 15) dL_setTolerance_9 (by decide) ?_
  refine z_iconst (v := 0) dL_setTolerance_15 (by decide) ?_
  exact z_iret rfl dL_setTolerance_16 (zo_i ho9 (by rfl)) (zo_h hh9 (by rfl)) (Nat.zero_le _) (Nat.zero_le _)

set_option maxHeartbeats 4000000 in
set_option maxRecDepth 100000 in
theorem c_l_setTolerance_1 {G : zT} {S S2 : zS} {X X2 : zXr} {Y : zYr} {out : Nat → Int64} {a0 : Int32} (hG : zAl G = false) (hNc : zNcs G) (hR : zRun G mX9_setTolerance 1 6 [.ref 0, .int a0] (zHp S X Y out) (.inl "java/lang/IllegalArgumentException") (zHp S2 X2 Y out)) : zRun G mL_setTolerance 1 6 [.ref 0, .int a0, .ref 126] (zHp S X Y out) (.inr (some (.int 1))) (zHp S2 X2 Y out) := by
  refine zRun_ofH (by decide +kernel) rfl (by decide) (Nat.le_of_ble_eq_true rfl) ?_
  suffices hs : ∀ (o9 : zO) (h9 : zH), (Sum.inr (some (.int 1)) : zO) = o9 → (zHp S2 X2 Y out) = h9 → zPW G mL_setTolerance 1 6 o9 h9 0 0 0 [(0, .ref 0), (1, .int a0), (2, .ref 126)] [] (zHp S X Y out) from hs _ _ rfl rfl
  intro o9 h9 ho9 hh9
  refine z_aload_n 2 dL_setTolerance_0 rfl rfl ?_
  refine z_iconst (v := 0) dL_setTolerance_1 (by decide) ?_
  refine z_aload_n 0 dL_setTolerance_2 rfl rfl ?_
  refine z_iload_n 1 dL_setTolerance_3 rfl rfl ?_
  refine z_callVC (N := mX9_setTolerance) (i9 := 3) (L9 := 1) (lv' := [(0, .ref 0), (1, .int a0), (2, .ref 126)]) [] [] 1 [.int a0] [.int 0, .ref 126] lX9_setTolerance ⟨zw_1005, zw_1006, zw_1007⟩ rfl zgo_0 rfl rfl (Nat.le_of_ble_eq_true rfl) (by decide) hG ⟨by decide, by decide⟩ hR dL_setTolerance_4 rfl (by decide) (by decide) zw_878 (by decide) (fun z hz => nomatch hz) (Or.inr ⟨3, dL_setTolerance_12, rfl, rfl⟩) (by decide) rfl ?_
  refine z_iconst (v := 1) dL_setTolerance_13 (by decide) ?_
  exact z_iret rfl dL_setTolerance_14 (zo_i ho9 (by rfl)) (zo_h hh9 (by rfl)) (by decide) (by decide)

set_option maxHeartbeats 4000000 in
set_option maxRecDepth 100000 in
theorem c_l_setLimit {G : zT} {S S2 : zS} {X X2 : zXr} {Y : zYr} {out : Nat → Int64} {a0 : Int32} {v : Int32} (hG : zAl G = false) (hR : zRun G mX9_setLimit 0 0 [.ref 0, .int a0] (zHp S X Y out) (.inr (some (.int v))) (zHp S2 X2 Y out)) : zRun G mL_setLimit 0 0 [.ref 0, .int a0, .ref 126] (zHp S X Y out) (.inr (some (.int 0))) (zHp S2 X2 Y (vp_updL out 0 v.toInt64)) := by
  refine zRun_ofH (by decide +kernel) rfl (by decide) (Nat.le_of_ble_eq_true rfl) ?_
  suffices hs : ∀ (o9 : zO) (h9 : zH), (Sum.inr (some (.int 0)) : zO) = o9 → (zHp S2 X2 Y (vp_updL out 0 v.toInt64)) = h9 → zPW G mL_setLimit 0 0 o9 h9 0 0 0 [(0, .ref 0), (1, .int a0), (2, .ref 126)] [] (zHp S X Y out) from hs _ _ rfl rfl
  intro o9 h9 ho9 hh9
  refine z_aload_n 2 dL_setLimit_0 rfl rfl ?_
  refine z_iconst (v := 0) dL_setLimit_1 (by decide) ?_
  refine z_aload_n 0 dL_setLimit_2 rfl rfl ?_
  refine z_iload_n 1 dL_setLimit_3 rfl rfl ?_
  refine z_callV (N := mX9_setLimit) 1 [.int a0] [.int 0, .ref 126] lX9_setLimit ⟨zw_1017, zw_1018, zw_1019⟩ rfl zgo_0 rfl rfl (Nat.le_of_ble_eq_true rfl) (by decide) ⟨zlt, zlt⟩ ⟨Nat.zero_le _, Nat.zero_le _⟩ zal hR dL_setLimit_4 ?_
  refine z_i2l dL_setLimit_7 ?_
  refine z_last (i := 126) (n := 1) (f := out) zgl_126 (by unfold vp_in; decide) dL_setLimit_8 ?_
  refine z_eqh (h2 := (zHp S2 X2 Y (vp_updL out 0 v.toInt64))) rfl ?_
  refine z_goto (tgt := 15) dL_setLimit_9 (by decide) ?_
  refine z_iconst (v := 0) dL_setLimit_15 (by decide) ?_
  exact z_iret rfl dL_setLimit_16 (zo_i ho9 (by rfl)) (zo_h hh9 (by rfl)) (Nat.zero_le _) (Nat.zero_le _)

set_option maxHeartbeats 4000000 in
set_option maxRecDepth 100000 in
theorem c_l_setLimit_1 {G : zT} {S S2 : zS} {X X2 : zXr} {Y : zYr} {out : Nat → Int64} {a0 : Int32} (hG : zAl G = false) (hNc : zNcs G) (hR : zRun G mX9_setLimit 1 6 [.ref 0, .int a0] (zHp S X Y out) (.inl "java/lang/IllegalArgumentException") (zHp S2 X2 Y out)) : zRun G mL_setLimit 1 6 [.ref 0, .int a0, .ref 126] (zHp S X Y out) (.inr (some (.int 1))) (zHp S2 X2 Y out) := by
  refine zRun_ofH (by decide +kernel) rfl (by decide) (Nat.le_of_ble_eq_true rfl) ?_
  suffices hs : ∀ (o9 : zO) (h9 : zH), (Sum.inr (some (.int 1)) : zO) = o9 → (zHp S2 X2 Y out) = h9 → zPW G mL_setLimit 1 6 o9 h9 0 0 0 [(0, .ref 0), (1, .int a0), (2, .ref 126)] [] (zHp S X Y out) from hs _ _ rfl rfl
  intro o9 h9 ho9 hh9
  refine z_aload_n 2 dL_setLimit_0 rfl rfl ?_
  refine z_iconst (v := 0) dL_setLimit_1 (by decide) ?_
  refine z_aload_n 0 dL_setLimit_2 rfl rfl ?_
  refine z_iload_n 1 dL_setLimit_3 rfl rfl ?_
  refine z_callVC (N := mX9_setLimit) (i9 := 3) (L9 := 1) (lv' := [(0, .ref 0), (1, .int a0), (2, .ref 126)]) [] [] 1 [.int a0] [.int 0, .ref 126] lX9_setLimit ⟨zw_1017, zw_1018, zw_1019⟩ rfl zgo_0 rfl rfl (Nat.le_of_ble_eq_true rfl) (by decide) hG ⟨by decide, by decide⟩ hR dL_setLimit_4 rfl (by decide) (by decide) zw_878 (by decide) (fun z hz => nomatch hz) (Or.inr ⟨3, dL_setLimit_12, rfl, rfl⟩) (by decide) rfl ?_
  refine z_iconst (v := 1) dL_setLimit_13 (by decide) ?_
  exact z_iret rfl dL_setLimit_14 (zo_i ho9 (by rfl)) (zo_h hh9 (by rfl)) (by decide) (by decide)

set_option maxHeartbeats 4000000 in
set_option maxRecDepth 100000 in
theorem c_l_plant {G : zT} {S S2 : zS} {X X2 : zXr} {Y : zYr} {out : Nat → Int64} {a0 a1 : Int32} {v : Int32} (hG : zAl G = false) (hR : zRun G mX9_plant 0 0 [.ref 0, .int a0, .int a1] (zHp S X Y out) (.inr (some (.int v))) (zHp S2 X2 Y out)) : zRun G mL_plant 0 0 [.ref 0, .int a0, .int a1, .ref 126] (zHp S X Y out) (.inr (some (.int 0))) (zHp S2 X2 Y (vp_updL out 0 v.toInt64)) := by
  refine zRun_ofH (by decide +kernel) rfl (by decide) (Nat.le_of_ble_eq_true rfl) ?_
  suffices hs : ∀ (o9 : zO) (h9 : zH), (Sum.inr (some (.int 0)) : zO) = o9 → (zHp S2 X2 Y (vp_updL out 0 v.toInt64)) = h9 → zPW G mL_plant 0 0 o9 h9 0 0 0 [(0, .ref 0), (1, .int a0), (2, .int a1), (3, .ref 126)] [] (zHp S X Y out) from hs _ _ rfl rfl
  intro o9 h9 ho9 hh9
  refine z_aload_n 3 dL_plant_0 rfl rfl ?_
  refine z_iconst (v := 0) dL_plant_1 (by decide) ?_
  refine z_aload_n 0 dL_plant_2 rfl rfl ?_
  refine z_iload_n 1 dL_plant_3 rfl rfl ?_
  refine z_iload_n 2 dL_plant_4 rfl rfl ?_
  refine z_callV (N := mX9_plant) 2 [.int a0, .int a1] [.int 0, .ref 126] lX9_plant ⟨zw_1024, zw_1025, zw_1026⟩ rfl zgo_0 rfl rfl (Nat.le_of_ble_eq_true rfl) (by decide) ⟨zlt, zlt⟩ ⟨Nat.zero_le _, Nat.zero_le _⟩ zal hR dL_plant_5 ?_
  refine z_i2l dL_plant_8 ?_
  refine z_last (i := 126) (n := 1) (f := out) zgl_126 (by unfold vp_in; decide) dL_plant_9 ?_
  refine z_eqh (h2 := (zHp S2 X2 Y (vp_updL out 0 v.toInt64))) rfl ?_
  refine z_goto (tgt := 21) dL_plant_10 (by decide) ?_
  refine z_iconst (v := 0) dL_plant_21 (by decide) ?_
  exact z_iret rfl dL_plant_22 (zo_i ho9 (by rfl)) (zo_h hh9 (by rfl)) (Nat.zero_le _) (Nat.zero_le _)

set_option maxHeartbeats 4000000 in
set_option maxRecDepth 100000 in
theorem c_l_plant_1 {G : zT} {S S2 : zS} {X X2 : zXr} {Y : zYr} {out : Nat → Int64} {a0 a1 : Int32} (hG : zAl G = false) (hNc : zNcs G) (hR : zRun G mX9_plant 1 6 [.ref 0, .int a0, .int a1] (zHp S X Y out) (.inl "java/lang/IndexOutOfBoundsException") (zHp S2 X2 Y out)) : zRun G mL_plant 1 6 [.ref 0, .int a0, .int a1, .ref 126] (zHp S X Y out) (.inr (some (.int 1))) (zHp S2 X2 Y out) := by
  refine zRun_ofH (by decide +kernel) rfl (by decide) (Nat.le_of_ble_eq_true rfl) ?_
  suffices hs : ∀ (o9 : zO) (h9 : zH), (Sum.inr (some (.int 1)) : zO) = o9 → (zHp S2 X2 Y out) = h9 → zPW G mL_plant 1 6 o9 h9 0 0 0 [(0, .ref 0), (1, .int a0), (2, .int a1), (3, .ref 126)] [] (zHp S X Y out) from hs _ _ rfl rfl
  intro o9 h9 ho9 hh9
  refine z_aload_n 3 dL_plant_0 rfl rfl ?_
  refine z_iconst (v := 0) dL_plant_1 (by decide) ?_
  refine z_aload_n 0 dL_plant_2 rfl rfl ?_
  refine z_iload_n 1 dL_plant_3 rfl rfl ?_
  refine z_iload_n 2 dL_plant_4 rfl rfl ?_
  refine z_callVC (N := mX9_plant) (i9 := 4) (L9 := 2) (lv' := [(0, .ref 0), (1, .int a0), (2, .int a1), (3, .ref 126)]) [] [(0, 10, 17, 13)] 2 [.int a0, .int a1] [.int 0, .ref 126] lX9_plant ⟨zw_1024, zw_1025, zw_1026⟩ rfl zgo_0 rfl rfl (Nat.le_of_ble_eq_true rfl) (by decide) hG ⟨by decide, by decide⟩ hR dL_plant_5 rfl (by decide) (by decide) zw_989 (by decide) (fun z hz => nomatch hz) (Or.inl ⟨dL_plant_13, rfl⟩) (by decide) rfl ?_
  refine z_iconst (v := 1) dL_plant_15 (by decide) ?_
  exact z_iret rfl dL_plant_16 (zo_i ho9 (by rfl)) (zo_h hh9 (by rfl)) (by decide) (by decide)

set_option maxHeartbeats 4000000 in
set_option maxRecDepth 100000 in
theorem c_l_plant_2 {G : zT} {S S2 : zS} {X X2 : zXr} {Y : zYr} {out : Nat → Int64} {a0 a1 : Int32} (hG : zAl G = false) (hNc : zNcs G) (hR : zRun G mX9_plant 1 6 [.ref 0, .int a0, .int a1] (zHp S X Y out) (.inl "java/lang/IllegalArgumentException") (zHp S2 X2 Y out)) : zRun G mL_plant 1 6 [.ref 0, .int a0, .int a1, .ref 126] (zHp S X Y out) (.inr (some (.int 2))) (zHp S2 X2 Y out) := by
  refine zRun_ofH (by decide +kernel) rfl (by decide) (Nat.le_of_ble_eq_true rfl) ?_
  suffices hs : ∀ (o9 : zO) (h9 : zH), (Sum.inr (some (.int 2)) : zO) = o9 → (zHp S2 X2 Y out) = h9 → zPW G mL_plant 1 6 o9 h9 0 0 0 [(0, .ref 0), (1, .int a0), (2, .int a1), (3, .ref 126)] [] (zHp S X Y out) from hs _ _ rfl rfl
  intro o9 h9 ho9 hh9
  refine z_aload_n 3 dL_plant_0 rfl rfl ?_
  refine z_iconst (v := 0) dL_plant_1 (by decide) ?_
  refine z_aload_n 0 dL_plant_2 rfl rfl ?_
  refine z_iload_n 1 dL_plant_3 rfl rfl ?_
  refine z_iload_n 2 dL_plant_4 rfl rfl ?_
  refine z_callVC (N := mX9_plant) (i9 := 4) (L9 := 2) (lv' := [(0, .ref 0), (1, .int a0), (2, .int a1), (3, .ref 126)]) [(0, 10, 13, 19)] [] 2 [.int a0, .int a1] [.int 0, .ref 126] lX9_plant ⟨zw_1024, zw_1025, zw_1026⟩ rfl zgo_0 rfl rfl (Nat.le_of_ble_eq_true rfl) (by decide) hG ⟨by decide, by decide⟩ hR dL_plant_5 rfl (by decide) (by decide) zw_878 (by decide) (fun z hz => by rw [List.mem_singleton] at hz; subst hz; exact ⟨by decide, _, zw_989, hNc ("java/lang/IllegalArgumentException", "java/lang/IndexOutOfBoundsException") (by decide)⟩) (Or.inl ⟨dL_plant_17, rfl⟩) (by decide) rfl ?_
  refine z_iconst (v := 2) dL_plant_19 (by decide) ?_
  exact z_iret rfl dL_plant_20 (zo_i ho9 (by rfl)) (zo_h hh9 (by rfl)) (by decide) (by decide)

set_option maxHeartbeats 4000000 in
set_option maxRecDepth 100000 in
theorem c_l_weave {G : zT} {S S2 : zS} {X X2 : zXr} {Y : zYr} {out : Nat → Int64} {a0 : Int32} {v : Int32} (hG : zAl G = false) (hR : zRun G mX9_weave 0 0 [.ref 0, .int a0] (zHp S X Y out) (.inr (some (.int v))) (zHp S2 X2 Y out)) : zRun G mL_weave 0 0 [.ref 0, .int a0, .ref 126] (zHp S X Y out) (.inr (some (.int 0))) (zHp S2 X2 Y (vp_updL out 0 v.toInt64)) := by
  refine zRun_ofH (by decide +kernel) rfl (by decide) (Nat.le_of_ble_eq_true rfl) ?_
  suffices hs : ∀ (o9 : zO) (h9 : zH), (Sum.inr (some (.int 0)) : zO) = o9 → (zHp S2 X2 Y (vp_updL out 0 v.toInt64)) = h9 → zPW G mL_weave 0 0 o9 h9 0 0 0 [(0, .ref 0), (1, .int a0), (2, .ref 126)] [] (zHp S X Y out) from hs _ _ rfl rfl
  intro o9 h9 ho9 hh9
  refine z_aload_n 2 dL_weave_0 rfl rfl ?_
  refine z_iconst (v := 0) dL_weave_1 (by decide) ?_
  refine z_aload_n 0 dL_weave_2 rfl rfl ?_
  refine z_iload_n 1 dL_weave_3 rfl rfl ?_
  refine z_callV (N := mX9_weave) 1 [.int a0] [.int 0, .ref 126] lX9_weave ⟨zw_1031, zw_1032, zw_1033⟩ rfl zgo_0 rfl rfl (Nat.le_of_ble_eq_true rfl) (by decide) ⟨zlt, zlt⟩ ⟨Nat.zero_le _, Nat.zero_le _⟩ zal hR dL_weave_4 ?_
  refine z_i2l dL_weave_7 ?_
  refine z_last (i := 126) (n := 1) (f := out) zgl_126 (by unfold vp_in; decide) dL_weave_8 ?_
  refine z_eqh (h2 := (zHp S2 X2 Y (vp_updL out 0 v.toInt64))) rfl ?_
  refine z_goto (tgt := 15) dL_weave_9 (by decide) ?_
  refine z_iconst (v := 0) dL_weave_15 (by decide) ?_
  exact z_iret rfl dL_weave_16 (zo_i ho9 (by rfl)) (zo_h hh9 (by rfl)) (Nat.zero_le _) (Nat.zero_le _)

set_option maxHeartbeats 4000000 in
set_option maxRecDepth 100000 in
theorem c_l_weave_1 {G : zT} {S S2 : zS} {X X2 : zXr} {Y : zYr} {out : Nat → Int64} {a0 : Int32} (hG : zAl G = false) (hNc : zNcs G) (hR : zRun G mX9_weave 1 6 [.ref 0, .int a0] (zHp S X Y out) (.inl "java/lang/IllegalArgumentException") (zHp S2 X2 Y out)) : zRun G mL_weave 1 6 [.ref 0, .int a0, .ref 126] (zHp S X Y out) (.inr (some (.int 1))) (zHp S2 X2 Y out) := by
  refine zRun_ofH (by decide +kernel) rfl (by decide) (Nat.le_of_ble_eq_true rfl) ?_
  suffices hs : ∀ (o9 : zO) (h9 : zH), (Sum.inr (some (.int 1)) : zO) = o9 → (zHp S2 X2 Y out) = h9 → zPW G mL_weave 1 6 o9 h9 0 0 0 [(0, .ref 0), (1, .int a0), (2, .ref 126)] [] (zHp S X Y out) from hs _ _ rfl rfl
  intro o9 h9 ho9 hh9
  refine z_aload_n 2 dL_weave_0 rfl rfl ?_
  refine z_iconst (v := 0) dL_weave_1 (by decide) ?_
  refine z_aload_n 0 dL_weave_2 rfl rfl ?_
  refine z_iload_n 1 dL_weave_3 rfl rfl ?_
  refine z_callVC (N := mX9_weave) (i9 := 3) (L9 := 1) (lv' := [(0, .ref 0), (1, .int a0), (2, .ref 126)]) [] [] 1 [.int a0] [.int 0, .ref 126] lX9_weave ⟨zw_1031, zw_1032, zw_1033⟩ rfl zgo_0 rfl rfl (Nat.le_of_ble_eq_true rfl) (by decide) hG ⟨by decide, by decide⟩ hR dL_weave_4 rfl (by decide) (by decide) zw_878 (by decide) (fun z hz => nomatch hz) (Or.inr ⟨3, dL_weave_12, rfl, rfl⟩) (by decide) rfl ?_
  refine z_iconst (v := 1) dL_weave_13 (by decide) ?_
  exact z_iret rfl dL_weave_14 (zo_i ho9 (by rfl)) (zo_h hh9 (by rfl)) (by decide) (by decide)

set_option maxHeartbeats 4000000 in
set_option maxRecDepth 100000 in
theorem c_l_unweave {G : zT} {S S2 : zS} {X X2 : zXr} {Y : zYr} {out : Nat → Int64} {a0 : Int32} {v : Int32} (hG : zAl G = false) (hR : zRun G mX9_unweave 0 0 [.ref 0, .int a0] (zHp S X Y out) (.inr (some (.int v))) (zHp S2 X2 Y out)) : zRun G mL_unweave 0 0 [.ref 0, .int a0, .ref 126] (zHp S X Y out) (.inr (some (.int 0))) (zHp S2 X2 Y (vp_updL out 0 v.toInt64)) := by
  refine zRun_ofH (by decide +kernel) rfl (by decide) (Nat.le_of_ble_eq_true rfl) ?_
  suffices hs : ∀ (o9 : zO) (h9 : zH), (Sum.inr (some (.int 0)) : zO) = o9 → (zHp S2 X2 Y (vp_updL out 0 v.toInt64)) = h9 → zPW G mL_unweave 0 0 o9 h9 0 0 0 [(0, .ref 0), (1, .int a0), (2, .ref 126)] [] (zHp S X Y out) from hs _ _ rfl rfl
  intro o9 h9 ho9 hh9
  refine z_aload_n 2 dL_unweave_0 rfl rfl ?_
  refine z_iconst (v := 0) dL_unweave_1 (by decide) ?_
  refine z_aload_n 0 dL_unweave_2 rfl rfl ?_
  refine z_iload_n 1 dL_unweave_3 rfl rfl ?_
  refine z_callV (N := mX9_unweave) 1 [.int a0] [.int 0, .ref 126] lX9_unweave ⟨zw_1038, zw_1039, zw_1040⟩ rfl zgo_0 rfl rfl (Nat.le_of_ble_eq_true rfl) (by decide) ⟨zlt, zlt⟩ ⟨Nat.zero_le _, Nat.zero_le _⟩ zal hR dL_unweave_4 ?_
  refine z_i2l dL_unweave_7 ?_
  refine z_last (i := 126) (n := 1) (f := out) zgl_126 (by unfold vp_in; decide) dL_unweave_8 ?_
  refine z_eqh (h2 := (zHp S2 X2 Y (vp_updL out 0 v.toInt64))) rfl ?_
  refine z_goto (tgt := 18) dL_unweave_9 (by decide) ?_
  refine z_iconst (v := 0) dL_unweave_18 (by decide) ?_
  exact z_iret rfl dL_unweave_19 (zo_i ho9 (by rfl)) (zo_h hh9 (by rfl)) (Nat.zero_le _) (Nat.zero_le _)

set_option maxHeartbeats 4000000 in
set_option maxRecDepth 100000 in
theorem c_l_unweave_1 {G : zT} {S S2 : zS} {X X2 : zXr} {Y : zYr} {out : Nat → Int64} {a0 : Int32} (hG : zAl G = false) (hNc : zNcs G) (hR : zRun G mX9_unweave 1 6 [.ref 0, .int a0] (zHp S X Y out) (.inl "java/lang/IllegalArgumentException") (zHp S2 X2 Y out)) : zRun G mL_unweave 1 6 [.ref 0, .int a0, .ref 126] (zHp S X Y out) (.inr (some (.int 1))) (zHp S2 X2 Y out) := by
  refine zRun_ofH (by decide +kernel) rfl (by decide) (Nat.le_of_ble_eq_true rfl) ?_
  suffices hs : ∀ (o9 : zO) (h9 : zH), (Sum.inr (some (.int 1)) : zO) = o9 → (zHp S2 X2 Y out) = h9 → zPW G mL_unweave 1 6 o9 h9 0 0 0 [(0, .ref 0), (1, .int a0), (2, .ref 126)] [] (zHp S X Y out) from hs _ _ rfl rfl
  intro o9 h9 ho9 hh9
  refine z_aload_n 2 dL_unweave_0 rfl rfl ?_
  refine z_iconst (v := 0) dL_unweave_1 (by decide) ?_
  refine z_aload_n 0 dL_unweave_2 rfl rfl ?_
  refine z_iload_n 1 dL_unweave_3 rfl rfl ?_
  refine z_callVC (N := mX9_unweave) (i9 := 3) (L9 := 1) (lv' := [(0, .ref 0), (1, .int a0), (2, .ref 126)]) [] [(0, 9, 15, 25)] 1 [.int a0] [.int 0, .ref 126] lX9_unweave ⟨zw_1038, zw_1039, zw_1040⟩ rfl zgo_0 rfl rfl (Nat.le_of_ble_eq_true rfl) (by decide) hG ⟨by decide, by decide⟩ hR dL_unweave_4 rfl (by decide) (by decide) zw_878 (by decide) (fun z hz => nomatch hz) (Or.inr ⟨3, dL_unweave_12, rfl, rfl⟩) (by decide) rfl ?_
  refine z_iconst (v := 1) dL_unweave_13 (by decide) ?_
  exact z_iret rfl dL_unweave_14 (zo_i ho9 (by rfl)) (zo_h hh9 (by rfl)) (by decide) (by decide)

set_option maxHeartbeats 4000000 in
set_option maxRecDepth 100000 in
theorem c_l_unweave_2 {G : zT} {S S2 : zS} {X X2 : zXr} {Y : zYr} {out : Nat → Int64} {a0 : Int32} (hG : zAl G = false) (hNc : zNcs G) (hR : zRun G mX9_unweave 1 6 [.ref 0, .int a0] (zHp S X Y out) (.inl "java/lang/IllegalStateException") (zHp S2 X2 Y out)) : zRun G mL_unweave 1 6 [.ref 0, .int a0, .ref 126] (zHp S X Y out) (.inr (some (.int 2))) (zHp S2 X2 Y out) := by
  refine zRun_ofH (by decide +kernel) rfl (by decide) (Nat.le_of_ble_eq_true rfl) ?_
  suffices hs : ∀ (o9 : zO) (h9 : zH), (Sum.inr (some (.int 2)) : zO) = o9 → (zHp S2 X2 Y out) = h9 → zPW G mL_unweave 1 6 o9 h9 0 0 0 [(0, .ref 0), (1, .int a0), (2, .ref 126)] [] (zHp S X Y out) from hs _ _ rfl rfl
  intro o9 h9 ho9 hh9
  refine z_aload_n 2 dL_unweave_0 rfl rfl ?_
  refine z_iconst (v := 0) dL_unweave_1 (by decide) ?_
  refine z_aload_n 0 dL_unweave_2 rfl rfl ?_
  refine z_iload_n 1 dL_unweave_3 rfl rfl ?_
  refine z_callVC (N := mX9_unweave) (i9 := 3) (L9 := 1) (lv' := [(0, .ref 0), (1, .int a0), (2, .ref 126)]) [(0, 9, 12, 13)] [] 1 [.int a0] [.int 0, .ref 126] lX9_unweave ⟨zw_1038, zw_1039, zw_1040⟩ rfl zgo_0 rfl rfl (Nat.le_of_ble_eq_true rfl) (by decide) hG ⟨by decide, by decide⟩ hR dL_unweave_4 rfl (by decide) (by decide) zw_997 (by decide) (fun z hz => by rw [List.mem_singleton] at hz; subst hz; exact ⟨by decide, _, zw_878, hNc ("java/lang/IllegalStateException", "java/lang/IllegalArgumentException") (by decide)⟩) (Or.inr ⟨3, dL_unweave_15, rfl, rfl⟩) (by decide) rfl ?_
  refine z_iconst (v := 2) dL_unweave_16 (by decide) ?_
  exact z_iret rfl dL_unweave_17 (zo_i ho9 (by rfl)) (zo_h hh9 (by rfl)) (by decide) (by decide)

set_option maxHeartbeats 4000000 in
set_option maxRecDepth 100000 in
theorem c_l_sew {G : zT} {S S2 : zS} {X X2 : zXr} {Y : zYr} {out : Nat → Int64} {a0 : Int32} {v : Int32} (hG : zAl G = false) (hR : zRun G mX9_sew 0 0 [.ref 0, .int a0] (zHp S X Y out) (.inr (some (.int v))) (zHp S2 X2 Y out)) : zRun G mL_sew 0 0 [.ref 0, .int a0, .ref 126] (zHp S X Y out) (.inr (some (.int 0))) (zHp S2 X2 Y (vp_updL out 0 v.toInt64)) := by
  refine zRun_ofH (by decide +kernel) rfl (by decide) (Nat.le_of_ble_eq_true rfl) ?_
  suffices hs : ∀ (o9 : zO) (h9 : zH), (Sum.inr (some (.int 0)) : zO) = o9 → (zHp S2 X2 Y (vp_updL out 0 v.toInt64)) = h9 → zPW G mL_sew 0 0 o9 h9 0 0 0 [(0, .ref 0), (1, .int a0), (2, .ref 126)] [] (zHp S X Y out) from hs _ _ rfl rfl
  intro o9 h9 ho9 hh9
  refine z_aload_n 2 dL_sew_0 rfl rfl ?_
  refine z_iconst (v := 0) dL_sew_1 (by decide) ?_
  refine z_aload_n 0 dL_sew_2 rfl rfl ?_
  refine z_iload_n 1 dL_sew_3 rfl rfl ?_
  refine z_callV (N := mX9_sew) 1 [.int a0] [.int 0, .ref 126] lX9_sew ⟨zw_1045, zw_1046, zw_1047⟩ rfl zgo_0 rfl rfl (Nat.le_of_ble_eq_true rfl) (by decide) ⟨zlt, zlt⟩ ⟨Nat.zero_le _, Nat.zero_le _⟩ zal hR dL_sew_4 ?_
  refine z_i2l dL_sew_7 ?_
  refine z_last (i := 126) (n := 1) (f := out) zgl_126 (by unfold vp_in; decide) dL_sew_8 ?_
  refine z_eqh (h2 := (zHp S2 X2 Y (vp_updL out 0 v.toInt64))) rfl ?_
  refine z_goto (tgt := 18) dL_sew_9 (by decide) ?_
  refine z_iconst (v := 0) dL_sew_18 (by decide) ?_
  exact z_iret rfl dL_sew_19 (zo_i ho9 (by rfl)) (zo_h hh9 (by rfl)) (Nat.zero_le _) (Nat.zero_le _)

set_option maxHeartbeats 4000000 in
set_option maxRecDepth 100000 in
theorem c_l_sew_1 {G : zT} {S S2 : zS} {X X2 : zXr} {Y : zYr} {out : Nat → Int64} {a0 : Int32} (hG : zAl G = false) (hNc : zNcs G) (hR : zRun G mX9_sew 1 6 [.ref 0, .int a0] (zHp S X Y out) (.inl "java/lang/IndexOutOfBoundsException") (zHp S2 X2 Y out)) : zRun G mL_sew 1 6 [.ref 0, .int a0, .ref 126] (zHp S X Y out) (.inr (some (.int 1))) (zHp S2 X2 Y out) := by
  refine zRun_ofH (by decide +kernel) rfl (by decide) (Nat.le_of_ble_eq_true rfl) ?_
  suffices hs : ∀ (o9 : zO) (h9 : zH), (Sum.inr (some (.int 1)) : zO) = o9 → (zHp S2 X2 Y out) = h9 → zPW G mL_sew 1 6 o9 h9 0 0 0 [(0, .ref 0), (1, .int a0), (2, .ref 126)] [] (zHp S X Y out) from hs _ _ rfl rfl
  intro o9 h9 ho9 hh9
  refine z_aload_n 2 dL_sew_0 rfl rfl ?_
  refine z_iconst (v := 0) dL_sew_1 (by decide) ?_
  refine z_aload_n 0 dL_sew_2 rfl rfl ?_
  refine z_iload_n 1 dL_sew_3 rfl rfl ?_
  refine z_callVC (N := mX9_sew) (i9 := 3) (L9 := 1) (lv' := [(0, .ref 0), (1, .int a0), (2, .ref 126)]) [] [(0, 9, 15, 25)] 1 [.int a0] [.int 0, .ref 126] lX9_sew ⟨zw_1045, zw_1046, zw_1047⟩ rfl zgo_0 rfl rfl (Nat.le_of_ble_eq_true rfl) (by decide) hG ⟨by decide, by decide⟩ hR dL_sew_4 rfl (by decide) (by decide) zw_989 (by decide) (fun z hz => nomatch hz) (Or.inr ⟨3, dL_sew_12, rfl, rfl⟩) (by decide) rfl ?_
  refine z_iconst (v := 1) dL_sew_13 (by decide) ?_
  exact z_iret rfl dL_sew_14 (zo_i ho9 (by rfl)) (zo_h hh9 (by rfl)) (by decide) (by decide)

set_option maxHeartbeats 4000000 in
set_option maxRecDepth 100000 in
theorem c_l_sew_2 {G : zT} {S S2 : zS} {X X2 : zXr} {Y : zYr} {out : Nat → Int64} {a0 : Int32} (hG : zAl G = false) (hNc : zNcs G) (hR : zRun G mX9_sew 1 6 [.ref 0, .int a0] (zHp S X Y out) (.inl "java/lang/IllegalStateException") (zHp S2 X2 Y out)) : zRun G mL_sew 1 6 [.ref 0, .int a0, .ref 126] (zHp S X Y out) (.inr (some (.int 2))) (zHp S2 X2 Y out) := by
  refine zRun_ofH (by decide +kernel) rfl (by decide) (Nat.le_of_ble_eq_true rfl) ?_
  suffices hs : ∀ (o9 : zO) (h9 : zH), (Sum.inr (some (.int 2)) : zO) = o9 → (zHp S2 X2 Y out) = h9 → zPW G mL_sew 1 6 o9 h9 0 0 0 [(0, .ref 0), (1, .int a0), (2, .ref 126)] [] (zHp S X Y out) from hs _ _ rfl rfl
  intro o9 h9 ho9 hh9
  refine z_aload_n 2 dL_sew_0 rfl rfl ?_
  refine z_iconst (v := 0) dL_sew_1 (by decide) ?_
  refine z_aload_n 0 dL_sew_2 rfl rfl ?_
  refine z_iload_n 1 dL_sew_3 rfl rfl ?_
  refine z_callVC (N := mX9_sew) (i9 := 3) (L9 := 1) (lv' := [(0, .ref 0), (1, .int a0), (2, .ref 126)]) [(0, 9, 12, 19)] [] 1 [.int a0] [.int 0, .ref 126] lX9_sew ⟨zw_1045, zw_1046, zw_1047⟩ rfl zgo_0 rfl rfl (Nat.le_of_ble_eq_true rfl) (by decide) hG ⟨by decide, by decide⟩ hR dL_sew_4 rfl (by decide) (by decide) zw_997 (by decide) (fun z hz => by rw [List.mem_singleton] at hz; subst hz; exact ⟨by decide, _, zw_989, hNc ("java/lang/IllegalStateException", "java/lang/IndexOutOfBoundsException") (by decide)⟩) (Or.inr ⟨3, dL_sew_15, rfl, rfl⟩) (by decide) rfl ?_
  refine z_iconst (v := 2) dL_sew_16 (by decide) ?_
  exact z_iret rfl dL_sew_17 (zo_i ho9 (by rfl)) (zo_h hh9 (by rfl)) (by decide) (by decide)

set_option maxHeartbeats 4000000 in
set_option maxRecDepth 100000 in
theorem c_l_cell {G : zT} {S S2 : zS} {X X2 : zXr} {Y : zYr} {out : Nat → Int64} {a0 a1 a2 : Int32} {v : Int32} (hG : zAl G = false) (hR : zRun G mX9_cell 0 0 [.ref 0, .int a0, .int a1, .int a2] (zHp S X Y out) (.inr (some (.int v))) (zHp S2 X2 Y out)) : zRun G mL_cell 0 0 [.ref 0, .int a0, .int a1, .int a2, .ref 126] (zHp S X Y out) (.inr (some (.int 0))) (zHp S2 X2 Y (vp_updL out 0 v.toInt64)) := by
  refine zRun_ofH (by decide +kernel) rfl (by decide) (Nat.le_of_ble_eq_true rfl) ?_
  suffices hs : ∀ (o9 : zO) (h9 : zH), (Sum.inr (some (.int 0)) : zO) = o9 → (zHp S2 X2 Y (vp_updL out 0 v.toInt64)) = h9 → zPW G mL_cell 0 0 o9 h9 0 0 0 [(0, .ref 0), (1, .int a0), (2, .int a1), (3, .int a2), (4, .ref 126)] [] (zHp S X Y out) from hs _ _ rfl rfl
  intro o9 h9 ho9 hh9
  refine z_aload 4 dL_cell_0 rfl ?_
  refine z_iconst (v := 0) dL_cell_2 (by decide) ?_
  refine z_aload_n 0 dL_cell_3 rfl rfl ?_
  refine z_iload_n 1 dL_cell_4 rfl rfl ?_
  refine z_iload_n 2 dL_cell_5 rfl rfl ?_
  refine z_iload_n 3 dL_cell_6 rfl rfl ?_
  refine z_callV (N := mX9_cell) 3 [.int a0, .int a1, .int a2] [.int 0, .ref 126] lX9_cell ⟨zw_1052, zw_1053, zw_1054⟩ rfl zgo_0 rfl rfl (Nat.le_of_ble_eq_true rfl) (by decide) ⟨zlt, zlt⟩ ⟨Nat.zero_le _, Nat.zero_le _⟩ zal hR dL_cell_7 ?_
  refine z_i2l dL_cell_10 ?_
  refine z_last (i := 126) (n := 1) (f := out) zgl_126 (by unfold vp_in; decide) dL_cell_11 ?_
  refine z_eqh (h2 := (zHp S2 X2 Y (vp_updL out 0 v.toInt64))) rfl ?_
  refine z_goto (tgt := 23) dL_cell_12 (by decide) ?_
  refine z_iconst (v := 0) dL_cell_23 (by decide) ?_
  exact z_iret rfl dL_cell_24 (zo_i ho9 (by rfl)) (zo_h hh9 (by rfl)) (Nat.zero_le _) (Nat.zero_le _)

set_option maxHeartbeats 4000000 in
set_option maxRecDepth 100000 in
theorem c_l_cell_1 {G : zT} {S S2 : zS} {X X2 : zXr} {Y : zYr} {out : Nat → Int64} {a0 a1 a2 : Int32} (hG : zAl G = false) (hNc : zNcs G) (hR : zRun G mX9_cell 1 6 [.ref 0, .int a0, .int a1, .int a2] (zHp S X Y out) (.inl "java/lang/IndexOutOfBoundsException") (zHp S2 X2 Y out)) : zRun G mL_cell 1 6 [.ref 0, .int a0, .int a1, .int a2, .ref 126] (zHp S X Y out) (.inr (some (.int 1))) (zHp S2 X2 Y out) := by
  refine zRun_ofH (by decide +kernel) rfl (by decide) (Nat.le_of_ble_eq_true rfl) ?_
  suffices hs : ∀ (o9 : zO) (h9 : zH), (Sum.inr (some (.int 1)) : zO) = o9 → (zHp S2 X2 Y out) = h9 → zPW G mL_cell 1 6 o9 h9 0 0 0 [(0, .ref 0), (1, .int a0), (2, .int a1), (3, .int a2), (4, .ref 126)] [] (zHp S X Y out) from hs _ _ rfl rfl
  intro o9 h9 ho9 hh9
  refine z_aload 4 dL_cell_0 rfl ?_
  refine z_iconst (v := 0) dL_cell_2 (by decide) ?_
  refine z_aload_n 0 dL_cell_3 rfl rfl ?_
  refine z_iload_n 1 dL_cell_4 rfl rfl ?_
  refine z_iload_n 2 dL_cell_5 rfl rfl ?_
  refine z_iload_n 3 dL_cell_6 rfl rfl ?_
  refine z_callVC (N := mX9_cell) (i9 := 5) (L9 := 2) (lv' := [(0, .ref 0), (1, .int a0), (2, .int a1), (3, .int a2), (4, .ref 126)]) [] [(0, 12, 19, 13)] 3 [.int a0, .int a1, .int a2] [.int 0, .ref 126] lX9_cell ⟨zw_1052, zw_1053, zw_1054⟩ rfl zgo_0 rfl rfl (Nat.le_of_ble_eq_true rfl) (by decide) hG ⟨by decide, by decide⟩ hR dL_cell_7 rfl (by decide) (by decide) zw_989 (by decide) (fun z hz => nomatch hz) (Or.inl ⟨dL_cell_15, rfl⟩) (by decide) rfl ?_
  refine z_iconst (v := 1) dL_cell_17 (by decide) ?_
  exact z_iret rfl dL_cell_18 (zo_i ho9 (by rfl)) (zo_h hh9 (by rfl)) (by decide) (by decide)

set_option maxHeartbeats 4000000 in
set_option maxRecDepth 100000 in
theorem c_l_cell_2 {G : zT} {S S2 : zS} {X X2 : zXr} {Y : zYr} {out : Nat → Int64} {a0 a1 a2 : Int32} (hG : zAl G = false) (hNc : zNcs G) (hR : zRun G mX9_cell 1 6 [.ref 0, .int a0, .int a1, .int a2] (zHp S X Y out) (.inl "java/lang/IllegalArgumentException") (zHp S2 X2 Y out)) : zRun G mL_cell 1 6 [.ref 0, .int a0, .int a1, .int a2, .ref 126] (zHp S X Y out) (.inr (some (.int 2))) (zHp S2 X2 Y out) := by
  refine zRun_ofH (by decide +kernel) rfl (by decide) (Nat.le_of_ble_eq_true rfl) ?_
  suffices hs : ∀ (o9 : zO) (h9 : zH), (Sum.inr (some (.int 2)) : zO) = o9 → (zHp S2 X2 Y out) = h9 → zPW G mL_cell 1 6 o9 h9 0 0 0 [(0, .ref 0), (1, .int a0), (2, .int a1), (3, .int a2), (4, .ref 126)] [] (zHp S X Y out) from hs _ _ rfl rfl
  intro o9 h9 ho9 hh9
  refine z_aload 4 dL_cell_0 rfl ?_
  refine z_iconst (v := 0) dL_cell_2 (by decide) ?_
  refine z_aload_n 0 dL_cell_3 rfl rfl ?_
  refine z_iload_n 1 dL_cell_4 rfl rfl ?_
  refine z_iload_n 2 dL_cell_5 rfl rfl ?_
  refine z_iload_n 3 dL_cell_6 rfl rfl ?_
  refine z_callVC (N := mX9_cell) (i9 := 5) (L9 := 2) (lv' := [(0, .ref 0), (1, .int a0), (2, .int a1), (3, .int a2), (4, .ref 126)]) [(0, 12, 15, 19)] [] 3 [.int a0, .int a1, .int a2] [.int 0, .ref 126] lX9_cell ⟨zw_1052, zw_1053, zw_1054⟩ rfl zgo_0 rfl rfl (Nat.le_of_ble_eq_true rfl) (by decide) hG ⟨by decide, by decide⟩ hR dL_cell_7 rfl (by decide) (by decide) zw_878 (by decide) (fun z hz => by rw [List.mem_singleton] at hz; subst hz; exact ⟨by decide, _, zw_989, hNc ("java/lang/IllegalArgumentException", "java/lang/IndexOutOfBoundsException") (by decide)⟩) (Or.inl ⟨dL_cell_19, rfl⟩) (by decide) rfl ?_
  refine z_iconst (v := 2) dL_cell_21 (by decide) ?_
  exact z_iret rfl dL_cell_22 (zo_i ho9 (by rfl)) (zo_h hh9 (by rfl)) (by decide) (by decide)

set_option maxHeartbeats 4000000 in
set_option maxRecDepth 100000 in
theorem c_l_row {G : zT} {S S2 : zS} {X X2 : zXr} {Y : zYr} {out : Nat → Int64} {a0 a1 : Int32} {v : Int32} (hG : zAl G = false) (hR : zRun G mX9_row 0 0 [.ref 0, .int a0, .int a1] (zHp S X Y out) (.inr (some (.int v))) (zHp S2 X2 Y out)) : zRun G mL_row 0 0 [.ref 0, .int a0, .int a1, .ref 126] (zHp S X Y out) (.inr (some (.int 0))) (zHp S2 X2 Y (vp_updL out 0 v.toInt64)) := by
  refine zRun_ofH (by decide +kernel) rfl (by decide) (Nat.le_of_ble_eq_true rfl) ?_
  suffices hs : ∀ (o9 : zO) (h9 : zH), (Sum.inr (some (.int 0)) : zO) = o9 → (zHp S2 X2 Y (vp_updL out 0 v.toInt64)) = h9 → zPW G mL_row 0 0 o9 h9 0 0 0 [(0, .ref 0), (1, .int a0), (2, .int a1), (3, .ref 126)] [] (zHp S X Y out) from hs _ _ rfl rfl
  intro o9 h9 ho9 hh9
  refine z_aload_n 3 dL_row_0 rfl rfl ?_
  refine z_iconst (v := 0) dL_row_1 (by decide) ?_
  refine z_aload_n 0 dL_row_2 rfl rfl ?_
  refine z_iload_n 1 dL_row_3 rfl rfl ?_
  refine z_iload_n 2 dL_row_4 rfl rfl ?_
  refine z_callV (N := mX9_row) 2 [.int a0, .int a1] [.int 0, .ref 126] lX9_row ⟨zw_1060, zw_1061, zw_1062⟩ rfl zgo_0 rfl rfl (Nat.le_of_ble_eq_true rfl) (by decide) ⟨zlt, zlt⟩ ⟨Nat.zero_le _, Nat.zero_le _⟩ zal hR dL_row_5 ?_
  refine z_i2l dL_row_8 ?_
  refine z_last (i := 126) (n := 1) (f := out) zgl_126 (by unfold vp_in; decide) dL_row_9 ?_
  refine z_eqh (h2 := (zHp S2 X2 Y (vp_updL out 0 v.toInt64))) rfl ?_
  refine z_goto (tgt := 21) dL_row_10 (by decide) ?_
  refine z_iconst (v := 0) dL_row_21 (by decide) ?_
  exact z_iret rfl dL_row_22 (zo_i ho9 (by rfl)) (zo_h hh9 (by rfl)) (Nat.zero_le _) (Nat.zero_le _)

set_option maxHeartbeats 4000000 in
set_option maxRecDepth 100000 in
theorem c_l_row_1 {G : zT} {S S2 : zS} {X X2 : zXr} {Y : zYr} {out : Nat → Int64} {a0 a1 : Int32} (hG : zAl G = false) (hNc : zNcs G) (hR : zRun G mX9_row 1 6 [.ref 0, .int a0, .int a1] (zHp S X Y out) (.inl "java/lang/IndexOutOfBoundsException") (zHp S2 X2 Y out)) : zRun G mL_row 1 6 [.ref 0, .int a0, .int a1, .ref 126] (zHp S X Y out) (.inr (some (.int 1))) (zHp S2 X2 Y out) := by
  refine zRun_ofH (by decide +kernel) rfl (by decide) (Nat.le_of_ble_eq_true rfl) ?_
  suffices hs : ∀ (o9 : zO) (h9 : zH), (Sum.inr (some (.int 1)) : zO) = o9 → (zHp S2 X2 Y out) = h9 → zPW G mL_row 1 6 o9 h9 0 0 0 [(0, .ref 0), (1, .int a0), (2, .int a1), (3, .ref 126)] [] (zHp S X Y out) from hs _ _ rfl rfl
  intro o9 h9 ho9 hh9
  refine z_aload_n 3 dL_row_0 rfl rfl ?_
  refine z_iconst (v := 0) dL_row_1 (by decide) ?_
  refine z_aload_n 0 dL_row_2 rfl rfl ?_
  refine z_iload_n 1 dL_row_3 rfl rfl ?_
  refine z_iload_n 2 dL_row_4 rfl rfl ?_
  refine z_callVC (N := mX9_row) (i9 := 4) (L9 := 2) (lv' := [(0, .ref 0), (1, .int a0), (2, .int a1), (3, .ref 126)]) [] [(0, 10, 17, 13)] 2 [.int a0, .int a1] [.int 0, .ref 126] lX9_row ⟨zw_1060, zw_1061, zw_1062⟩ rfl zgo_0 rfl rfl (Nat.le_of_ble_eq_true rfl) (by decide) hG ⟨by decide, by decide⟩ hR dL_row_5 rfl (by decide) (by decide) zw_989 (by decide) (fun z hz => nomatch hz) (Or.inl ⟨dL_row_13, rfl⟩) (by decide) rfl ?_
  refine z_iconst (v := 1) dL_row_15 (by decide) ?_
  exact z_iret rfl dL_row_16 (zo_i ho9 (by rfl)) (zo_h hh9 (by rfl)) (by decide) (by decide)

set_option maxHeartbeats 4000000 in
set_option maxRecDepth 100000 in
theorem c_l_row_2 {G : zT} {S S2 : zS} {X X2 : zXr} {Y : zYr} {out : Nat → Int64} {a0 a1 : Int32} (hG : zAl G = false) (hNc : zNcs G) (hR : zRun G mX9_row 1 6 [.ref 0, .int a0, .int a1] (zHp S X Y out) (.inl "java/lang/IllegalArgumentException") (zHp S2 X2 Y out)) : zRun G mL_row 1 6 [.ref 0, .int a0, .int a1, .ref 126] (zHp S X Y out) (.inr (some (.int 2))) (zHp S2 X2 Y out) := by
  refine zRun_ofH (by decide +kernel) rfl (by decide) (Nat.le_of_ble_eq_true rfl) ?_
  suffices hs : ∀ (o9 : zO) (h9 : zH), (Sum.inr (some (.int 2)) : zO) = o9 → (zHp S2 X2 Y out) = h9 → zPW G mL_row 1 6 o9 h9 0 0 0 [(0, .ref 0), (1, .int a0), (2, .int a1), (3, .ref 126)] [] (zHp S X Y out) from hs _ _ rfl rfl
  intro o9 h9 ho9 hh9
  refine z_aload_n 3 dL_row_0 rfl rfl ?_
  refine z_iconst (v := 0) dL_row_1 (by decide) ?_
  refine z_aload_n 0 dL_row_2 rfl rfl ?_
  refine z_iload_n 1 dL_row_3 rfl rfl ?_
  refine z_iload_n 2 dL_row_4 rfl rfl ?_
  refine z_callVC (N := mX9_row) (i9 := 4) (L9 := 2) (lv' := [(0, .ref 0), (1, .int a0), (2, .int a1), (3, .ref 126)]) [(0, 10, 13, 19)] [] 2 [.int a0, .int a1] [.int 0, .ref 126] lX9_row ⟨zw_1060, zw_1061, zw_1062⟩ rfl zgo_0 rfl rfl (Nat.le_of_ble_eq_true rfl) (by decide) hG ⟨by decide, by decide⟩ hR dL_row_5 rfl (by decide) (by decide) zw_878 (by decide) (fun z hz => by rw [List.mem_singleton] at hz; subst hz; exact ⟨by decide, _, zw_989, hNc ("java/lang/IllegalArgumentException", "java/lang/IndexOutOfBoundsException") (by decide)⟩) (Or.inl ⟨dL_row_17, rfl⟩) (by decide) rfl ?_
  refine z_iconst (v := 2) dL_row_19 (by decide) ?_
  exact z_iret rfl dL_row_20 (zo_i ho9 (by rfl)) (zo_h hh9 (by rfl)) (by decide) (by decide)

set_option maxHeartbeats 4000000 in
set_option maxRecDepth 100000 in
theorem c_l_lot {G : zT} {S S2 : zS} {X X2 : zXr} {Y : zYr} {out : Nat → Int64} {a0 a1 : Int32} {v : Int32} (hG : zAl G = false) (hR : zRun G mX9_lot 0 0 [.ref 0, .int a0, .int a1] (zHp S X Y out) (.inr (some (.int v))) (zHp S2 X2 Y out)) : zRun G mL_lot 0 0 [.ref 0, .int a0, .int a1, .ref 126] (zHp S X Y out) (.inr (some (.int 0))) (zHp S2 X2 Y (vp_updL out 0 v.toInt64)) := by
  refine zRun_ofH (by decide +kernel) rfl (by decide) (Nat.le_of_ble_eq_true rfl) ?_
  suffices hs : ∀ (o9 : zO) (h9 : zH), (Sum.inr (some (.int 0)) : zO) = o9 → (zHp S2 X2 Y (vp_updL out 0 v.toInt64)) = h9 → zPW G mL_lot 0 0 o9 h9 0 0 0 [(0, .ref 0), (1, .int a0), (2, .int a1), (3, .ref 126)] [] (zHp S X Y out) from hs _ _ rfl rfl
  intro o9 h9 ho9 hh9
  refine z_aload_n 3 dL_lot_0 rfl rfl ?_
  refine z_iconst (v := 0) dL_lot_1 (by decide) ?_
  refine z_aload_n 0 dL_lot_2 rfl rfl ?_
  refine z_iload_n 1 dL_lot_3 rfl rfl ?_
  refine z_iload_n 2 dL_lot_4 rfl rfl ?_
  refine z_callV (N := mX9_lot) 2 [.int a0, .int a1] [.int 0, .ref 126] lX9_lot ⟨zw_1068, zw_1069, zw_1070⟩ rfl zgo_0 rfl rfl (Nat.le_of_ble_eq_true rfl) (by decide) ⟨zlt, zlt⟩ ⟨Nat.zero_le _, Nat.zero_le _⟩ zal hR dL_lot_5 ?_
  refine z_i2l dL_lot_8 ?_
  refine z_last (i := 126) (n := 1) (f := out) zgl_126 (by unfold vp_in; decide) dL_lot_9 ?_
  refine z_eqh (h2 := (zHp S2 X2 Y (vp_updL out 0 v.toInt64))) rfl ?_
  refine z_goto (tgt := 21) dL_lot_10 (by decide) ?_
  refine z_iconst (v := 0) dL_lot_21 (by decide) ?_
  exact z_iret rfl dL_lot_22 (zo_i ho9 (by rfl)) (zo_h hh9 (by rfl)) (Nat.zero_le _) (Nat.zero_le _)

set_option maxHeartbeats 4000000 in
set_option maxRecDepth 100000 in
theorem c_l_lot_1 {G : zT} {S S2 : zS} {X X2 : zXr} {Y : zYr} {out : Nat → Int64} {a0 a1 : Int32} (hG : zAl G = false) (hNc : zNcs G) (hR : zRun G mX9_lot 1 6 [.ref 0, .int a0, .int a1] (zHp S X Y out) (.inl "java/lang/IndexOutOfBoundsException") (zHp S2 X2 Y out)) : zRun G mL_lot 1 6 [.ref 0, .int a0, .int a1, .ref 126] (zHp S X Y out) (.inr (some (.int 1))) (zHp S2 X2 Y out) := by
  refine zRun_ofH (by decide +kernel) rfl (by decide) (Nat.le_of_ble_eq_true rfl) ?_
  suffices hs : ∀ (o9 : zO) (h9 : zH), (Sum.inr (some (.int 1)) : zO) = o9 → (zHp S2 X2 Y out) = h9 → zPW G mL_lot 1 6 o9 h9 0 0 0 [(0, .ref 0), (1, .int a0), (2, .int a1), (3, .ref 126)] [] (zHp S X Y out) from hs _ _ rfl rfl
  intro o9 h9 ho9 hh9
  refine z_aload_n 3 dL_lot_0 rfl rfl ?_
  refine z_iconst (v := 0) dL_lot_1 (by decide) ?_
  refine z_aload_n 0 dL_lot_2 rfl rfl ?_
  refine z_iload_n 1 dL_lot_3 rfl rfl ?_
  refine z_iload_n 2 dL_lot_4 rfl rfl ?_
  refine z_callVC (N := mX9_lot) (i9 := 4) (L9 := 2) (lv' := [(0, .ref 0), (1, .int a0), (2, .int a1), (3, .ref 126)]) [] [(0, 10, 17, 13)] 2 [.int a0, .int a1] [.int 0, .ref 126] lX9_lot ⟨zw_1068, zw_1069, zw_1070⟩ rfl zgo_0 rfl rfl (Nat.le_of_ble_eq_true rfl) (by decide) hG ⟨by decide, by decide⟩ hR dL_lot_5 rfl (by decide) (by decide) zw_989 (by decide) (fun z hz => nomatch hz) (Or.inl ⟨dL_lot_13, rfl⟩) (by decide) rfl ?_
  refine z_iconst (v := 1) dL_lot_15 (by decide) ?_
  exact z_iret rfl dL_lot_16 (zo_i ho9 (by rfl)) (zo_h hh9 (by rfl)) (by decide) (by decide)

set_option maxHeartbeats 4000000 in
set_option maxRecDepth 100000 in
theorem c_l_lot_2 {G : zT} {S S2 : zS} {X X2 : zXr} {Y : zYr} {out : Nat → Int64} {a0 a1 : Int32} (hG : zAl G = false) (hNc : zNcs G) (hR : zRun G mX9_lot 1 6 [.ref 0, .int a0, .int a1] (zHp S X Y out) (.inl "java/lang/IllegalArgumentException") (zHp S2 X2 Y out)) : zRun G mL_lot 1 6 [.ref 0, .int a0, .int a1, .ref 126] (zHp S X Y out) (.inr (some (.int 2))) (zHp S2 X2 Y out) := by
  refine zRun_ofH (by decide +kernel) rfl (by decide) (Nat.le_of_ble_eq_true rfl) ?_
  suffices hs : ∀ (o9 : zO) (h9 : zH), (Sum.inr (some (.int 2)) : zO) = o9 → (zHp S2 X2 Y out) = h9 → zPW G mL_lot 1 6 o9 h9 0 0 0 [(0, .ref 0), (1, .int a0), (2, .int a1), (3, .ref 126)] [] (zHp S X Y out) from hs _ _ rfl rfl
  intro o9 h9 ho9 hh9
  refine z_aload_n 3 dL_lot_0 rfl rfl ?_
  refine z_iconst (v := 0) dL_lot_1 (by decide) ?_
  refine z_aload_n 0 dL_lot_2 rfl rfl ?_
  refine z_iload_n 1 dL_lot_3 rfl rfl ?_
  refine z_iload_n 2 dL_lot_4 rfl rfl ?_
  refine z_callVC (N := mX9_lot) (i9 := 4) (L9 := 2) (lv' := [(0, .ref 0), (1, .int a0), (2, .int a1), (3, .ref 126)]) [(0, 10, 13, 19)] [] 2 [.int a0, .int a1] [.int 0, .ref 126] lX9_lot ⟨zw_1068, zw_1069, zw_1070⟩ rfl zgo_0 rfl rfl (Nat.le_of_ble_eq_true rfl) (by decide) hG ⟨by decide, by decide⟩ hR dL_lot_5 rfl (by decide) (by decide) zw_878 (by decide) (fun z hz => by rw [List.mem_singleton] at hz; subst hz; exact ⟨by decide, _, zw_989, hNc ("java/lang/IllegalArgumentException", "java/lang/IndexOutOfBoundsException") (by decide)⟩) (Or.inl ⟨dL_lot_17, rfl⟩) (by decide) rfl ?_
  refine z_iconst (v := 2) dL_lot_19 (by decide) ?_
  exact z_iret rfl dL_lot_20 (zo_i ho9 (by rfl)) (zo_h hh9 (by rfl)) (by decide) (by decide)

set_option maxHeartbeats 4000000 in
set_option maxRecDepth 100000 in
theorem c_l_color {G : zT} {S S2 : zS} {X X2 : zXr} {Y : zYr} {out : Nat → Int64} {a0 a1 : Int32} {v : Int32} (hG : zAl G = false) (hR : zRun G mX9_color 0 0 [.ref 0, .int a0, .int a1] (zHp S X Y out) (.inr (some (.int v))) (zHp S2 X2 Y out)) : zRun G mL_color 0 0 [.ref 0, .int a0, .int a1, .ref 126] (zHp S X Y out) (.inr (some (.int 0))) (zHp S2 X2 Y (vp_updL out 0 v.toInt64)) := by
  refine zRun_ofH (by decide +kernel) rfl (by decide) (Nat.le_of_ble_eq_true rfl) ?_
  suffices hs : ∀ (o9 : zO) (h9 : zH), (Sum.inr (some (.int 0)) : zO) = o9 → (zHp S2 X2 Y (vp_updL out 0 v.toInt64)) = h9 → zPW G mL_color 0 0 o9 h9 0 0 0 [(0, .ref 0), (1, .int a0), (2, .int a1), (3, .ref 126)] [] (zHp S X Y out) from hs _ _ rfl rfl
  intro o9 h9 ho9 hh9
  refine z_aload_n 3 dL_color_0 rfl rfl ?_
  refine z_iconst (v := 0) dL_color_1 (by decide) ?_
  refine z_aload_n 0 dL_color_2 rfl rfl ?_
  refine z_iload_n 1 dL_color_3 rfl rfl ?_
  refine z_iload_n 2 dL_color_4 rfl rfl ?_
  refine z_callV (N := mX9_color) 2 [.int a0, .int a1] [.int 0, .ref 126] lX9_color ⟨zw_1079, zw_1080, zw_1081⟩ rfl zgo_0 rfl rfl (Nat.le_of_ble_eq_true rfl) (by decide) ⟨zlt, zlt⟩ ⟨Nat.zero_le _, Nat.zero_le _⟩ zal hR dL_color_5 ?_
  refine z_i2l dL_color_8 ?_
  refine z_last (i := 126) (n := 1) (f := out) zgl_126 (by unfold vp_in; decide) dL_color_9 ?_
  refine z_eqh (h2 := (zHp S2 X2 Y (vp_updL out 0 v.toInt64))) rfl ?_
  refine z_goto (tgt := 17) dL_color_10 (by decide) ?_
  refine z_iconst (v := 0) dL_color_17 (by decide) ?_
  exact z_iret rfl dL_color_18 (zo_i ho9 (by rfl)) (zo_h hh9 (by rfl)) (Nat.zero_le _) (Nat.zero_le _)

set_option maxHeartbeats 4000000 in
set_option maxRecDepth 100000 in
theorem c_l_color_1 {G : zT} {S S2 : zS} {X X2 : zXr} {Y : zYr} {out : Nat → Int64} {a0 a1 : Int32} (hG : zAl G = false) (hNc : zNcs G) (hR : zRun G mX9_color 1 6 [.ref 0, .int a0, .int a1] (zHp S X Y out) (.inl "java/lang/IllegalArgumentException") (zHp S2 X2 Y out)) : zRun G mL_color 1 6 [.ref 0, .int a0, .int a1, .ref 126] (zHp S X Y out) (.inr (some (.int 1))) (zHp S2 X2 Y out) := by
  refine zRun_ofH (by decide +kernel) rfl (by decide) (Nat.le_of_ble_eq_true rfl) ?_
  suffices hs : ∀ (o9 : zO) (h9 : zH), (Sum.inr (some (.int 1)) : zO) = o9 → (zHp S2 X2 Y out) = h9 → zPW G mL_color 1 6 o9 h9 0 0 0 [(0, .ref 0), (1, .int a0), (2, .int a1), (3, .ref 126)] [] (zHp S X Y out) from hs _ _ rfl rfl
  intro o9 h9 ho9 hh9
  refine z_aload_n 3 dL_color_0 rfl rfl ?_
  refine z_iconst (v := 0) dL_color_1 (by decide) ?_
  refine z_aload_n 0 dL_color_2 rfl rfl ?_
  refine z_iload_n 1 dL_color_3 rfl rfl ?_
  refine z_iload_n 2 dL_color_4 rfl rfl ?_
  refine z_callVC (N := mX9_color) (i9 := 4) (L9 := 2) (lv' := [(0, .ref 0), (1, .int a0), (2, .int a1), (3, .ref 126)]) [] [] 2 [.int a0, .int a1] [.int 0, .ref 126] lX9_color ⟨zw_1079, zw_1080, zw_1081⟩ rfl zgo_0 rfl rfl (Nat.le_of_ble_eq_true rfl) (by decide) hG ⟨by decide, by decide⟩ hR dL_color_5 rfl (by decide) (by decide) zw_878 (by decide) (fun z hz => nomatch hz) (Or.inl ⟨dL_color_13, rfl⟩) (by decide) rfl ?_
  refine z_iconst (v := 1) dL_color_15 (by decide) ?_
  exact z_iret rfl dL_color_16 (zo_i ho9 (by rfl)) (zo_h hh9 (by rfl)) (by decide) (by decide)

set_option maxHeartbeats 4000000 in
set_option maxRecDepth 100000 in
theorem c_l_slit {G : zT} {S S2 : zS} {X X2 : zXr} {Y : zYr} {out : Nat → Int64} {a0 a1 : Int32} {v : Int32} (hG : zAl G = false) (hR : zRun G mX9_slit 0 0 [.ref 0, .int a0, .int a1] (zHp S X Y out) (.inr (some (.int v))) (zHp S2 X2 Y out)) : zRun G mL_slit 0 0 [.ref 0, .int a0, .int a1, .ref 126] (zHp S X Y out) (.inr (some (.int 0))) (zHp S2 X2 Y (vp_updL out 0 v.toInt64)) := by
  refine zRun_ofH (by decide +kernel) rfl (by decide) (Nat.le_of_ble_eq_true rfl) ?_
  suffices hs : ∀ (o9 : zO) (h9 : zH), (Sum.inr (some (.int 0)) : zO) = o9 → (zHp S2 X2 Y (vp_updL out 0 v.toInt64)) = h9 → zPW G mL_slit 0 0 o9 h9 0 0 0 [(0, .ref 0), (1, .int a0), (2, .int a1), (3, .ref 126)] [] (zHp S X Y out) from hs _ _ rfl rfl
  intro o9 h9 ho9 hh9
  refine z_aload_n 3 dL_slit_0 rfl rfl ?_
  refine z_iconst (v := 0) dL_slit_1 (by decide) ?_
  refine z_aload_n 0 dL_slit_2 rfl rfl ?_
  refine z_iload_n 1 dL_slit_3 rfl rfl ?_
  refine z_iload_n 2 dL_slit_4 rfl rfl ?_
  refine z_callV (N := mX9_slit) 2 [.int a0, .int a1] [.int 0, .ref 126] lX9_slit ⟨zw_1087, zw_1088, zw_1089⟩ rfl zgo_0 rfl rfl (Nat.le_of_ble_eq_true rfl) (by decide) ⟨zlt, zlt⟩ ⟨Nat.zero_le _, Nat.zero_le _⟩ zal hR dL_slit_5 ?_
  refine z_i2l dL_slit_8 ?_
  refine z_last (i := 126) (n := 1) (f := out) zgl_126 (by unfold vp_in; decide) dL_slit_9 ?_
  refine z_eqh (h2 := (zHp S2 X2 Y (vp_updL out 0 v.toInt64))) rfl ?_
  refine z_goto (tgt := 17) dL_slit_10 (by decide) ?_
  refine z_iconst (v := 0) dL_slit_17 (by decide) ?_
  exact z_iret rfl dL_slit_18 (zo_i ho9 (by rfl)) (zo_h hh9 (by rfl)) (Nat.zero_le _) (Nat.zero_le _)

set_option maxHeartbeats 4000000 in
set_option maxRecDepth 100000 in
theorem c_l_slit_1 {G : zT} {S S2 : zS} {X X2 : zXr} {Y : zYr} {out : Nat → Int64} {a0 a1 : Int32} (hG : zAl G = false) (hNc : zNcs G) (hR : zRun G mX9_slit 1 6 [.ref 0, .int a0, .int a1] (zHp S X Y out) (.inl "java/lang/IllegalArgumentException") (zHp S2 X2 Y out)) : zRun G mL_slit 1 6 [.ref 0, .int a0, .int a1, .ref 126] (zHp S X Y out) (.inr (some (.int 1))) (zHp S2 X2 Y out) := by
  refine zRun_ofH (by decide +kernel) rfl (by decide) (Nat.le_of_ble_eq_true rfl) ?_
  suffices hs : ∀ (o9 : zO) (h9 : zH), (Sum.inr (some (.int 1)) : zO) = o9 → (zHp S2 X2 Y out) = h9 → zPW G mL_slit 1 6 o9 h9 0 0 0 [(0, .ref 0), (1, .int a0), (2, .int a1), (3, .ref 126)] [] (zHp S X Y out) from hs _ _ rfl rfl
  intro o9 h9 ho9 hh9
  refine z_aload_n 3 dL_slit_0 rfl rfl ?_
  refine z_iconst (v := 0) dL_slit_1 (by decide) ?_
  refine z_aload_n 0 dL_slit_2 rfl rfl ?_
  refine z_iload_n 1 dL_slit_3 rfl rfl ?_
  refine z_iload_n 2 dL_slit_4 rfl rfl ?_
  refine z_callVC (N := mX9_slit) (i9 := 4) (L9 := 2) (lv' := [(0, .ref 0), (1, .int a0), (2, .int a1), (3, .ref 126)]) [] [] 2 [.int a0, .int a1] [.int 0, .ref 126] lX9_slit ⟨zw_1087, zw_1088, zw_1089⟩ rfl zgo_0 rfl rfl (Nat.le_of_ble_eq_true rfl) (by decide) hG ⟨by decide, by decide⟩ hR dL_slit_5 rfl (by decide) (by decide) zw_878 (by decide) (fun z hz => nomatch hz) (Or.inl ⟨dL_slit_13, rfl⟩) (by decide) rfl ?_
  refine z_iconst (v := 1) dL_slit_15 (by decide) ?_
  exact z_iret rfl dL_slit_16 (zo_i ho9 (by rfl)) (zo_h hh9 (by rfl)) (by decide) (by decide)

set_option maxHeartbeats 4000000 in
set_option maxRecDepth 100000 in
theorem c_l_whole {G : zT} {S S2 : zS} {X X2 : zXr} {Y : zYr} {out : Nat → Int64} {a0 : Int32} {v : Int32} (hG : zAl G = false) (hR : zRun G mX9_whole 0 0 [.ref 0, .int a0] (zHp S X Y out) (.inr (some (.int v))) (zHp S2 X2 Y out)) : zRun G mL_whole 0 0 [.ref 0, .int a0, .ref 126] (zHp S X Y out) (.inr (some (.int 0))) (zHp S2 X2 Y (vp_updL out 0 v.toInt64)) := by
  refine zRun_ofH (by decide +kernel) rfl (by decide) (Nat.le_of_ble_eq_true rfl) ?_
  suffices hs : ∀ (o9 : zO) (h9 : zH), (Sum.inr (some (.int 0)) : zO) = o9 → (zHp S2 X2 Y (vp_updL out 0 v.toInt64)) = h9 → zPW G mL_whole 0 0 o9 h9 0 0 0 [(0, .ref 0), (1, .int a0), (2, .ref 126)] [] (zHp S X Y out) from hs _ _ rfl rfl
  intro o9 h9 ho9 hh9
  refine z_aload_n 2 dL_whole_0 rfl rfl ?_
  refine z_iconst (v := 0) dL_whole_1 (by decide) ?_
  refine z_aload_n 0 dL_whole_2 rfl rfl ?_
  refine z_iload_n 1 dL_whole_3 rfl rfl ?_
  refine z_callV (N := mX9_whole) 1 [.int a0] [.int 0, .ref 126] lX9_whole ⟨zw_1095, zw_1096, zw_1097⟩ rfl zgo_0 rfl rfl (Nat.le_of_ble_eq_true rfl) (by decide) ⟨zlt, zlt⟩ ⟨Nat.zero_le _, Nat.zero_le _⟩ zal hR dL_whole_4 ?_
  refine z_i2l dL_whole_7 ?_
  refine z_last (i := 126) (n := 1) (f := out) zgl_126 (by unfold vp_in; decide) dL_whole_8 ?_
  refine z_eqh (h2 := (zHp S2 X2 Y (vp_updL out 0 v.toInt64))) rfl ?_
  refine z_goto (tgt := 15) dL_whole_9 (by decide) ?_
  refine z_iconst (v := 0) dL_whole_15 (by decide) ?_
  exact z_iret rfl dL_whole_16 (zo_i ho9 (by rfl)) (zo_h hh9 (by rfl)) (Nat.zero_le _) (Nat.zero_le _)

set_option maxHeartbeats 4000000 in
set_option maxRecDepth 100000 in
theorem c_l_whole_1 {G : zT} {S S2 : zS} {X X2 : zXr} {Y : zYr} {out : Nat → Int64} {a0 : Int32} (hG : zAl G = false) (hNc : zNcs G) (hR : zRun G mX9_whole 1 6 [.ref 0, .int a0] (zHp S X Y out) (.inl "java/lang/IllegalArgumentException") (zHp S2 X2 Y out)) : zRun G mL_whole 1 6 [.ref 0, .int a0, .ref 126] (zHp S X Y out) (.inr (some (.int 1))) (zHp S2 X2 Y out) := by
  refine zRun_ofH (by decide +kernel) rfl (by decide) (Nat.le_of_ble_eq_true rfl) ?_
  suffices hs : ∀ (o9 : zO) (h9 : zH), (Sum.inr (some (.int 1)) : zO) = o9 → (zHp S2 X2 Y out) = h9 → zPW G mL_whole 1 6 o9 h9 0 0 0 [(0, .ref 0), (1, .int a0), (2, .ref 126)] [] (zHp S X Y out) from hs _ _ rfl rfl
  intro o9 h9 ho9 hh9
  refine z_aload_n 2 dL_whole_0 rfl rfl ?_
  refine z_iconst (v := 0) dL_whole_1 (by decide) ?_
  refine z_aload_n 0 dL_whole_2 rfl rfl ?_
  refine z_iload_n 1 dL_whole_3 rfl rfl ?_
  refine z_callVC (N := mX9_whole) (i9 := 3) (L9 := 1) (lv' := [(0, .ref 0), (1, .int a0), (2, .ref 126)]) [] [] 1 [.int a0] [.int 0, .ref 126] lX9_whole ⟨zw_1095, zw_1096, zw_1097⟩ rfl zgo_0 rfl rfl (Nat.le_of_ble_eq_true rfl) (by decide) hG ⟨by decide, by decide⟩ hR dL_whole_4 rfl (by decide) (by decide) zw_878 (by decide) (fun z hz => nomatch hz) (Or.inr ⟨3, dL_whole_12, rfl, rfl⟩) (by decide) rfl ?_
  refine z_iconst (v := 1) dL_whole_13 (by decide) ?_
  exact z_iret rfl dL_whole_14 (zo_i ho9 (by rfl)) (zo_h hh9 (by rfl)) (by decide) (by decide)

set_option maxHeartbeats 4000000 in
set_option maxRecDepth 100000 in
theorem c_l_meanShade {G : zT} {S S2 : zS} {X X2 : zXr} {Y : zYr} {out : Nat → Int64} {a0 : Int32} {v : Int32} (hG : zAl G = false) (hR : zRun G mX9_meanShade 0 0 [.ref 0, .int a0] (zHp S X Y out) (.inr (some (.int v))) (zHp S2 X2 Y out)) : zRun G mL_meanShade 0 0 [.ref 0, .int a0, .ref 126] (zHp S X Y out) (.inr (some (.int 0))) (zHp S2 X2 Y (vp_updL out 0 v.toInt64)) := by
  refine zRun_ofH (by decide +kernel) rfl (by decide) (Nat.le_of_ble_eq_true rfl) ?_
  suffices hs : ∀ (o9 : zO) (h9 : zH), (Sum.inr (some (.int 0)) : zO) = o9 → (zHp S2 X2 Y (vp_updL out 0 v.toInt64)) = h9 → zPW G mL_meanShade 0 0 o9 h9 0 0 0 [(0, .ref 0), (1, .int a0), (2, .ref 126)] [] (zHp S X Y out) from hs _ _ rfl rfl
  intro o9 h9 ho9 hh9
  refine z_aload_n 2 dL_meanShade_0 rfl rfl ?_
  refine z_iconst (v := 0) dL_meanShade_1 (by decide) ?_
  refine z_aload_n 0 dL_meanShade_2 rfl rfl ?_
  refine z_iload_n 1 dL_meanShade_3 rfl rfl ?_
  refine z_callV (N := mX9_meanShade) 1 [.int a0] [.int 0, .ref 126] lX9_meanShade ⟨zw_1102, zw_1103, zw_1104⟩ rfl zgo_0 rfl rfl (Nat.le_of_ble_eq_true rfl) (by decide) ⟨zlt, zlt⟩ ⟨Nat.zero_le _, Nat.zero_le _⟩ zal hR dL_meanShade_4 ?_
  refine z_i2l dL_meanShade_7 ?_
  refine z_last (i := 126) (n := 1) (f := out) zgl_126 (by unfold vp_in; decide) dL_meanShade_8 ?_
  refine z_eqh (h2 := (zHp S2 X2 Y (vp_updL out 0 v.toInt64))) rfl ?_
  refine z_goto (tgt := 15) dL_meanShade_9 (by decide) ?_
  refine z_iconst (v := 0) dL_meanShade_15 (by decide) ?_
  exact z_iret rfl dL_meanShade_16 (zo_i ho9 (by rfl)) (zo_h hh9 (by rfl)) (Nat.zero_le _) (Nat.zero_le _)

set_option maxHeartbeats 4000000 in
set_option maxRecDepth 100000 in
theorem c_l_meanShade_1 {G : zT} {S S2 : zS} {X X2 : zXr} {Y : zYr} {out : Nat → Int64} {a0 : Int32} (hG : zAl G = false) (hNc : zNcs G) (hR : zRun G mX9_meanShade 1 6 [.ref 0, .int a0] (zHp S X Y out) (.inl "java/lang/IllegalArgumentException") (zHp S2 X2 Y out)) : zRun G mL_meanShade 1 6 [.ref 0, .int a0, .ref 126] (zHp S X Y out) (.inr (some (.int 1))) (zHp S2 X2 Y out) := by
  refine zRun_ofH (by decide +kernel) rfl (by decide) (Nat.le_of_ble_eq_true rfl) ?_
  suffices hs : ∀ (o9 : zO) (h9 : zH), (Sum.inr (some (.int 1)) : zO) = o9 → (zHp S2 X2 Y out) = h9 → zPW G mL_meanShade 1 6 o9 h9 0 0 0 [(0, .ref 0), (1, .int a0), (2, .ref 126)] [] (zHp S X Y out) from hs _ _ rfl rfl
  intro o9 h9 ho9 hh9
  refine z_aload_n 2 dL_meanShade_0 rfl rfl ?_
  refine z_iconst (v := 0) dL_meanShade_1 (by decide) ?_
  refine z_aload_n 0 dL_meanShade_2 rfl rfl ?_
  refine z_iload_n 1 dL_meanShade_3 rfl rfl ?_
  refine z_callVC (N := mX9_meanShade) (i9 := 3) (L9 := 1) (lv' := [(0, .ref 0), (1, .int a0), (2, .ref 126)]) [] [] 1 [.int a0] [.int 0, .ref 126] lX9_meanShade ⟨zw_1102, zw_1103, zw_1104⟩ rfl zgo_0 rfl rfl (Nat.le_of_ble_eq_true rfl) (by decide) hG ⟨by decide, by decide⟩ hR dL_meanShade_4 rfl (by decide) (by decide) zw_878 (by decide) (fun z hz => nomatch hz) (Or.inr ⟨3, dL_meanShade_12, rfl, rfl⟩) (by decide) rfl ?_
  refine z_iconst (v := 1) dL_meanShade_13 (by decide) ?_
  exact z_iret rfl dL_meanShade_14 (zo_i ho9 (by rfl)) (zo_h hh9 (by rfl)) (by decide) (by decide)

set_option maxHeartbeats 4000000 in
set_option maxRecDepth 100000 in
theorem c_l_contrast {G : zT} {S S2 : zS} {X X2 : zXr} {Y : zYr} {out : Nat → Int64} {a0 : Int32} {v : Int32} (hG : zAl G = false) (hR : zRun G mX9_contrast 0 0 [.ref 0, .int a0] (zHp S X Y out) (.inr (some (.int v))) (zHp S2 X2 Y out)) : zRun G mL_contrast 0 0 [.ref 0, .int a0, .ref 126] (zHp S X Y out) (.inr (some (.int 0))) (zHp S2 X2 Y (vp_updL out 0 v.toInt64)) := by
  refine zRun_ofH (by decide +kernel) rfl (by decide) (Nat.le_of_ble_eq_true rfl) ?_
  suffices hs : ∀ (o9 : zO) (h9 : zH), (Sum.inr (some (.int 0)) : zO) = o9 → (zHp S2 X2 Y (vp_updL out 0 v.toInt64)) = h9 → zPW G mL_contrast 0 0 o9 h9 0 0 0 [(0, .ref 0), (1, .int a0), (2, .ref 126)] [] (zHp S X Y out) from hs _ _ rfl rfl
  intro o9 h9 ho9 hh9
  refine z_aload_n 2 dL_contrast_0 rfl rfl ?_
  refine z_iconst (v := 0) dL_contrast_1 (by decide) ?_
  refine z_aload_n 0 dL_contrast_2 rfl rfl ?_
  refine z_iload_n 1 dL_contrast_3 rfl rfl ?_
  refine z_callV (N := mX9_contrast) 1 [.int a0] [.int 0, .ref 126] lX9_contrast ⟨zw_1109, zw_1110, zw_1111⟩ rfl zgo_0 rfl rfl (Nat.le_of_ble_eq_true rfl) (by decide) ⟨zlt, zlt⟩ ⟨Nat.zero_le _, Nat.zero_le _⟩ zal hR dL_contrast_4 ?_
  refine z_i2l dL_contrast_7 ?_
  refine z_last (i := 126) (n := 1) (f := out) zgl_126 (by unfold vp_in; decide) dL_contrast_8 ?_
  refine z_eqh (h2 := (zHp S2 X2 Y (vp_updL out 0 v.toInt64))) rfl ?_
  refine z_goto (tgt := 15) dL_contrast_9 (by decide) ?_
  refine z_iconst (v := 0) dL_contrast_15 (by decide) ?_
  exact z_iret rfl dL_contrast_16 (zo_i ho9 (by rfl)) (zo_h hh9 (by rfl)) (Nat.zero_le _) (Nat.zero_le _)

set_option maxHeartbeats 4000000 in
set_option maxRecDepth 100000 in
theorem c_l_contrast_1 {G : zT} {S S2 : zS} {X X2 : zXr} {Y : zYr} {out : Nat → Int64} {a0 : Int32} (hG : zAl G = false) (hNc : zNcs G) (hR : zRun G mX9_contrast 1 6 [.ref 0, .int a0] (zHp S X Y out) (.inl "java/lang/IndexOutOfBoundsException") (zHp S2 X2 Y out)) : zRun G mL_contrast 1 6 [.ref 0, .int a0, .ref 126] (zHp S X Y out) (.inr (some (.int 1))) (zHp S2 X2 Y out) := by
  refine zRun_ofH (by decide +kernel) rfl (by decide) (Nat.le_of_ble_eq_true rfl) ?_
  suffices hs : ∀ (o9 : zO) (h9 : zH), (Sum.inr (some (.int 1)) : zO) = o9 → (zHp S2 X2 Y out) = h9 → zPW G mL_contrast 1 6 o9 h9 0 0 0 [(0, .ref 0), (1, .int a0), (2, .ref 126)] [] (zHp S X Y out) from hs _ _ rfl rfl
  intro o9 h9 ho9 hh9
  refine z_aload_n 2 dL_contrast_0 rfl rfl ?_
  refine z_iconst (v := 0) dL_contrast_1 (by decide) ?_
  refine z_aload_n 0 dL_contrast_2 rfl rfl ?_
  refine z_iload_n 1 dL_contrast_3 rfl rfl ?_
  refine z_callVC (N := mX9_contrast) (i9 := 3) (L9 := 1) (lv' := [(0, .ref 0), (1, .int a0), (2, .ref 126)]) [] [] 1 [.int a0] [.int 0, .ref 126] lX9_contrast ⟨zw_1109, zw_1110, zw_1111⟩ rfl zgo_0 rfl rfl (Nat.le_of_ble_eq_true rfl) (by decide) hG ⟨by decide, by decide⟩ hR dL_contrast_4 rfl (by decide) (by decide) zw_989 (by decide) (fun z hz => nomatch hz) (Or.inr ⟨3, dL_contrast_12, rfl, rfl⟩) (by decide) rfl ?_
  refine z_iconst (v := 1) dL_contrast_13 (by decide) ?_
  exact z_iret rfl dL_contrast_14 (zo_i ho9 (by rfl)) (zo_h hh9 (by rfl)) (by decide) (by decide)

set_option maxHeartbeats 4000000 in
set_option maxRecDepth 100000 in
theorem c_l_missing {G : zT} {S S2 : zS} {X X2 : zXr} {Y : zYr} {out : Nat → Int64} {a0 : Int32} {v : Int32} (hG : zAl G = false) (hR : zRun G mX9_missing 0 0 [.ref 0, .int a0] (zHp S X Y out) (.inr (some (.int v))) (zHp S2 X2 Y out)) : zRun G mL_missing 0 0 [.ref 0, .int a0, .ref 126] (zHp S X Y out) (.inr (some (.int 0))) (zHp S2 X2 Y (vp_updL out 0 v.toInt64)) := by
  refine zRun_ofH (by decide +kernel) rfl (by decide) (Nat.le_of_ble_eq_true rfl) ?_
  suffices hs : ∀ (o9 : zO) (h9 : zH), (Sum.inr (some (.int 0)) : zO) = o9 → (zHp S2 X2 Y (vp_updL out 0 v.toInt64)) = h9 → zPW G mL_missing 0 0 o9 h9 0 0 0 [(0, .ref 0), (1, .int a0), (2, .ref 126)] [] (zHp S X Y out) from hs _ _ rfl rfl
  intro o9 h9 ho9 hh9
  refine z_aload_n 2 dL_missing_0 rfl rfl ?_
  refine z_iconst (v := 0) dL_missing_1 (by decide) ?_
  refine z_aload_n 0 dL_missing_2 rfl rfl ?_
  refine z_iload_n 1 dL_missing_3 rfl rfl ?_
  refine z_callV (N := mX9_missing) 1 [.int a0] [.int 0, .ref 126] lX9_missing ⟨zw_1116, zw_1117, zw_1118⟩ rfl zgo_0 rfl rfl (Nat.le_of_ble_eq_true rfl) (by decide) ⟨zlt, zlt⟩ ⟨Nat.zero_le _, Nat.zero_le _⟩ zal hR dL_missing_4 ?_
  refine z_i2l dL_missing_7 ?_
  refine z_last (i := 126) (n := 1) (f := out) zgl_126 (by unfold vp_in; decide) dL_missing_8 ?_
  refine z_eqh (h2 := (zHp S2 X2 Y (vp_updL out 0 v.toInt64))) rfl ?_
  refine z_goto (tgt := 15) dL_missing_9 (by decide) ?_
  refine z_iconst (v := 0) dL_missing_15 (by decide) ?_
  exact z_iret rfl dL_missing_16 (zo_i ho9 (by rfl)) (zo_h hh9 (by rfl)) (Nat.zero_le _) (Nat.zero_le _)

set_option maxHeartbeats 4000000 in
set_option maxRecDepth 100000 in
theorem c_l_missing_1 {G : zT} {S S2 : zS} {X X2 : zXr} {Y : zYr} {out : Nat → Int64} {a0 : Int32} (hG : zAl G = false) (hNc : zNcs G) (hR : zRun G mX9_missing 1 6 [.ref 0, .int a0] (zHp S X Y out) (.inl "java/lang/IllegalArgumentException") (zHp S2 X2 Y out)) : zRun G mL_missing 1 6 [.ref 0, .int a0, .ref 126] (zHp S X Y out) (.inr (some (.int 1))) (zHp S2 X2 Y out) := by
  refine zRun_ofH (by decide +kernel) rfl (by decide) (Nat.le_of_ble_eq_true rfl) ?_
  suffices hs : ∀ (o9 : zO) (h9 : zH), (Sum.inr (some (.int 1)) : zO) = o9 → (zHp S2 X2 Y out) = h9 → zPW G mL_missing 1 6 o9 h9 0 0 0 [(0, .ref 0), (1, .int a0), (2, .ref 126)] [] (zHp S X Y out) from hs _ _ rfl rfl
  intro o9 h9 ho9 hh9
  refine z_aload_n 2 dL_missing_0 rfl rfl ?_
  refine z_iconst (v := 0) dL_missing_1 (by decide) ?_
  refine z_aload_n 0 dL_missing_2 rfl rfl ?_
  refine z_iload_n 1 dL_missing_3 rfl rfl ?_
  refine z_callVC (N := mX9_missing) (i9 := 3) (L9 := 1) (lv' := [(0, .ref 0), (1, .int a0), (2, .ref 126)]) [] [] 1 [.int a0] [.int 0, .ref 126] lX9_missing ⟨zw_1116, zw_1117, zw_1118⟩ rfl zgo_0 rfl rfl (Nat.le_of_ble_eq_true rfl) (by decide) hG ⟨by decide, by decide⟩ hR dL_missing_4 rfl (by decide) (by decide) zw_878 (by decide) (fun z hz => nomatch hz) (Or.inr ⟨3, dL_missing_12, rfl, rfl⟩) (by decide) rfl ?_
  refine z_iconst (v := 1) dL_missing_13 (by decide) ?_
  exact z_iret rfl dL_missing_14 (zo_i ho9 (by rfl)) (zo_h hh9 (by rfl)) (by decide) (by decide)

set_option maxHeartbeats 4000000 in
set_option maxRecDepth 100000 in
theorem c_l_slitsWith {G : zT} {S S2 : zS} {X X2 : zXr} {Y : zYr} {out : Nat → Int64} {a0 : Int32} {v : Int32} (hG : zAl G = false) (hR : zRun G mX9_slitsWith 0 0 [.ref 0, .int a0] (zHp S X Y out) (.inr (some (.int v))) (zHp S2 X2 Y out)) : zRun G mL_slitsWith 0 0 [.ref 0, .int a0, .ref 126] (zHp S X Y out) (.inr (some (.int 0))) (zHp S2 X2 Y (vp_updL out 0 v.toInt64)) := by
  refine zRun_ofH (by decide +kernel) rfl (by decide) (Nat.le_of_ble_eq_true rfl) ?_
  suffices hs : ∀ (o9 : zO) (h9 : zH), (Sum.inr (some (.int 0)) : zO) = o9 → (zHp S2 X2 Y (vp_updL out 0 v.toInt64)) = h9 → zPW G mL_slitsWith 0 0 o9 h9 0 0 0 [(0, .ref 0), (1, .int a0), (2, .ref 126)] [] (zHp S X Y out) from hs _ _ rfl rfl
  intro o9 h9 ho9 hh9
  refine z_aload_n 2 dL_slitsWith_0 rfl rfl ?_
  refine z_iconst (v := 0) dL_slitsWith_1 (by decide) ?_
  refine z_aload_n 0 dL_slitsWith_2 rfl rfl ?_
  refine z_iload_n 1 dL_slitsWith_3 rfl rfl ?_
  refine z_callV (N := mX9_slitsWith) 1 [.int a0] [.int 0, .ref 126] lX9_slitsWith ⟨zw_1126, zw_1127, zw_1128⟩ rfl zgo_0 rfl rfl (Nat.le_of_ble_eq_true rfl) (by decide) ⟨zlt, zlt⟩ ⟨Nat.zero_le _, Nat.zero_le _⟩ zal hR dL_slitsWith_4 ?_
  refine z_i2l dL_slitsWith_7 ?_
  refine z_last (i := 126) (n := 1) (f := out) zgl_126 (by unfold vp_in; decide) dL_slitsWith_8 ?_
  refine z_eqh (h2 := (zHp S2 X2 Y (vp_updL out 0 v.toInt64))) rfl ?_
  refine z_goto (tgt := 15) dL_slitsWith_9 (by decide) ?_
  refine z_iconst (v := 0) dL_slitsWith_15 (by decide) ?_
  exact z_iret rfl dL_slitsWith_16 (zo_i ho9 (by rfl)) (zo_h hh9 (by rfl)) (Nat.zero_le _) (Nat.zero_le _)

set_option maxHeartbeats 4000000 in
set_option maxRecDepth 100000 in
theorem c_l_slitsWith_1 {G : zT} {S S2 : zS} {X X2 : zXr} {Y : zYr} {out : Nat → Int64} {a0 : Int32} (hG : zAl G = false) (hNc : zNcs G) (hR : zRun G mX9_slitsWith 1 6 [.ref 0, .int a0] (zHp S X Y out) (.inl "java/lang/IllegalArgumentException") (zHp S2 X2 Y out)) : zRun G mL_slitsWith 1 6 [.ref 0, .int a0, .ref 126] (zHp S X Y out) (.inr (some (.int 1))) (zHp S2 X2 Y out) := by
  refine zRun_ofH (by decide +kernel) rfl (by decide) (Nat.le_of_ble_eq_true rfl) ?_
  suffices hs : ∀ (o9 : zO) (h9 : zH), (Sum.inr (some (.int 1)) : zO) = o9 → (zHp S2 X2 Y out) = h9 → zPW G mL_slitsWith 1 6 o9 h9 0 0 0 [(0, .ref 0), (1, .int a0), (2, .ref 126)] [] (zHp S X Y out) from hs _ _ rfl rfl
  intro o9 h9 ho9 hh9
  refine z_aload_n 2 dL_slitsWith_0 rfl rfl ?_
  refine z_iconst (v := 0) dL_slitsWith_1 (by decide) ?_
  refine z_aload_n 0 dL_slitsWith_2 rfl rfl ?_
  refine z_iload_n 1 dL_slitsWith_3 rfl rfl ?_
  refine z_callVC (N := mX9_slitsWith) (i9 := 3) (L9 := 1) (lv' := [(0, .ref 0), (1, .int a0), (2, .ref 126)]) [] [] 1 [.int a0] [.int 0, .ref 126] lX9_slitsWith ⟨zw_1126, zw_1127, zw_1128⟩ rfl zgo_0 rfl rfl (Nat.le_of_ble_eq_true rfl) (by decide) hG ⟨by decide, by decide⟩ hR dL_slitsWith_4 rfl (by decide) (by decide) zw_878 (by decide) (fun z hz => nomatch hz) (Or.inr ⟨3, dL_slitsWith_12, rfl, rfl⟩) (by decide) rfl ?_
  refine z_iconst (v := 1) dL_slitsWith_13 (by decide) ?_
  exact z_iret rfl dL_slitsWith_14 (zo_i ho9 (by rfl)) (zo_h hh9 (by rfl)) (by decide) (by decide)

set_option maxHeartbeats 4000000 in
set_option maxRecDepth 100000 in
theorem c_l_shuttlesFor {G : zT} {S S2 : zS} {X X2 : zXr} {Y : zYr} {out : Nat → Int64} {a0 : Int32} {v : Int32} (hG : zAl G = false) (hR : zRun G mX9_shuttlesFor 0 0 [.ref 0, .int a0] (zHp S X Y out) (.inr (some (.int v))) (zHp S2 X2 Y out)) : zRun G mL_shuttlesFor 0 0 [.ref 0, .int a0, .ref 126] (zHp S X Y out) (.inr (some (.int 0))) (zHp S2 X2 Y (vp_updL out 0 v.toInt64)) := by
  refine zRun_ofH (by decide +kernel) rfl (by decide) (Nat.le_of_ble_eq_true rfl) ?_
  suffices hs : ∀ (o9 : zO) (h9 : zH), (Sum.inr (some (.int 0)) : zO) = o9 → (zHp S2 X2 Y (vp_updL out 0 v.toInt64)) = h9 → zPW G mL_shuttlesFor 0 0 o9 h9 0 0 0 [(0, .ref 0), (1, .int a0), (2, .ref 126)] [] (zHp S X Y out) from hs _ _ rfl rfl
  intro o9 h9 ho9 hh9
  refine z_aload_n 2 dL_shuttlesFor_0 rfl rfl ?_
  refine z_iconst (v := 0) dL_shuttlesFor_1 (by decide) ?_
  refine z_aload_n 0 dL_shuttlesFor_2 rfl rfl ?_
  refine z_iload_n 1 dL_shuttlesFor_3 rfl rfl ?_
  refine z_callV (N := mX9_shuttlesFor) 1 [.int a0] [.int 0, .ref 126] lX9_shuttlesFor ⟨zw_1134, zw_1135, zw_1136⟩ rfl zgo_0 rfl rfl (Nat.le_of_ble_eq_true rfl) (by decide) ⟨zlt, zlt⟩ ⟨Nat.zero_le _, Nat.zero_le _⟩ zal hR dL_shuttlesFor_4 ?_
  refine z_i2l dL_shuttlesFor_7 ?_
  refine z_last (i := 126) (n := 1) (f := out) zgl_126 (by unfold vp_in; decide) dL_shuttlesFor_8 ?_
  refine z_eqh (h2 := (zHp S2 X2 Y (vp_updL out 0 v.toInt64))) rfl ?_
  refine z_goto (tgt := 15) dL_shuttlesFor_9 (by decide) ?_
  refine z_iconst (v := 0) dL_shuttlesFor_15 (by decide) ?_
  exact z_iret rfl dL_shuttlesFor_16 (zo_i ho9 (by rfl)) (zo_h hh9 (by rfl)) (Nat.zero_le _) (Nat.zero_le _)

set_option maxHeartbeats 4000000 in
set_option maxRecDepth 100000 in
theorem c_l_shuttlesFor_1 {G : zT} {S S2 : zS} {X X2 : zXr} {Y : zYr} {out : Nat → Int64} {a0 : Int32} (hG : zAl G = false) (hNc : zNcs G) (hR : zRun G mX9_shuttlesFor 1 6 [.ref 0, .int a0] (zHp S X Y out) (.inl "java/lang/IndexOutOfBoundsException") (zHp S2 X2 Y out)) : zRun G mL_shuttlesFor 1 6 [.ref 0, .int a0, .ref 126] (zHp S X Y out) (.inr (some (.int 1))) (zHp S2 X2 Y out) := by
  refine zRun_ofH (by decide +kernel) rfl (by decide) (Nat.le_of_ble_eq_true rfl) ?_
  suffices hs : ∀ (o9 : zO) (h9 : zH), (Sum.inr (some (.int 1)) : zO) = o9 → (zHp S2 X2 Y out) = h9 → zPW G mL_shuttlesFor 1 6 o9 h9 0 0 0 [(0, .ref 0), (1, .int a0), (2, .ref 126)] [] (zHp S X Y out) from hs _ _ rfl rfl
  intro o9 h9 ho9 hh9
  refine z_aload_n 2 dL_shuttlesFor_0 rfl rfl ?_
  refine z_iconst (v := 0) dL_shuttlesFor_1 (by decide) ?_
  refine z_aload_n 0 dL_shuttlesFor_2 rfl rfl ?_
  refine z_iload_n 1 dL_shuttlesFor_3 rfl rfl ?_
  refine z_callVC (N := mX9_shuttlesFor) (i9 := 3) (L9 := 1) (lv' := [(0, .ref 0), (1, .int a0), (2, .ref 126)]) [] [] 1 [.int a0] [.int 0, .ref 126] lX9_shuttlesFor ⟨zw_1134, zw_1135, zw_1136⟩ rfl zgo_0 rfl rfl (Nat.le_of_ble_eq_true rfl) (by decide) hG ⟨by decide, by decide⟩ hR dL_shuttlesFor_4 rfl (by decide) (by decide) zw_989 (by decide) (fun z hz => nomatch hz) (Or.inr ⟨3, dL_shuttlesFor_12, rfl, rfl⟩) (by decide) rfl ?_
  refine z_iconst (v := 1) dL_shuttlesFor_13 (by decide) ?_
  exact z_iret rfl dL_shuttlesFor_14 (zo_i ho9 (by rfl)) (zo_h hh9 (by rfl)) (by decide) (by decide)

set_option maxHeartbeats 4000000 in
set_option maxRecDepth 100000 in
theorem c_l_type {G : zT} {S S2 : zS} {X X2 : zXr} {Y : zYr} {out : Nat → Int64} {a0 : Int32} {v : Int32} (hG : zAl G = false) (hR : zRun G mX9_type 0 0 [.ref 0, .int a0] (zHp S X Y out) (.inr (some (.int v))) (zHp S2 X2 Y out)) : zRun G mL_type 0 0 [.ref 0, .int a0, .ref 126] (zHp S X Y out) (.inr (some (.int 0))) (zHp S2 X2 Y (vp_updL out 0 v.toInt64)) := by
  refine zRun_ofH (by decide +kernel) rfl (by decide) (Nat.le_of_ble_eq_true rfl) ?_
  suffices hs : ∀ (o9 : zO) (h9 : zH), (Sum.inr (some (.int 0)) : zO) = o9 → (zHp S2 X2 Y (vp_updL out 0 v.toInt64)) = h9 → zPW G mL_type 0 0 o9 h9 0 0 0 [(0, .ref 0), (1, .int a0), (2, .ref 126)] [] (zHp S X Y out) from hs _ _ rfl rfl
  intro o9 h9 ho9 hh9
  refine z_aload_n 2 dL_type_0 rfl rfl ?_
  refine z_iconst (v := 0) dL_type_1 (by decide) ?_
  refine z_aload_n 0 dL_type_2 rfl rfl ?_
  refine z_iload_n 1 dL_type_3 rfl rfl ?_
  refine z_callV (N := mX9_type) 1 [.int a0] [.int 0, .ref 126] lX9_type ⟨zw_1142, zw_1143, zw_1144⟩ rfl zgo_0 rfl rfl (Nat.le_of_ble_eq_true rfl) (by decide) ⟨zlt, zlt⟩ ⟨Nat.zero_le _, Nat.zero_le _⟩ zal hR dL_type_4 ?_
  refine z_i2l dL_type_7 ?_
  refine z_last (i := 126) (n := 1) (f := out) zgl_126 (by unfold vp_in; decide) dL_type_8 ?_
  refine z_eqh (h2 := (zHp S2 X2 Y (vp_updL out 0 v.toInt64))) rfl ?_
  refine z_goto (tgt := 18) dL_type_9 (by decide) ?_
  refine z_iconst (v := 0) dL_type_18 (by decide) ?_
  exact z_iret rfl dL_type_19 (zo_i ho9 (by rfl)) (zo_h hh9 (by rfl)) (Nat.zero_le _) (Nat.zero_le _)

set_option maxHeartbeats 4000000 in
set_option maxRecDepth 100000 in
theorem c_l_type_1 {G : zT} {S S2 : zS} {X X2 : zXr} {Y : zYr} {out : Nat → Int64} {a0 : Int32} (hG : zAl G = false) (hNc : zNcs G) (hR : zRun G mX9_type 1 6 [.ref 0, .int a0] (zHp S X Y out) (.inl "java/lang/IllegalArgumentException") (zHp S2 X2 Y out)) : zRun G mL_type 1 6 [.ref 0, .int a0, .ref 126] (zHp S X Y out) (.inr (some (.int 1))) (zHp S2 X2 Y out) := by
  refine zRun_ofH (by decide +kernel) rfl (by decide) (Nat.le_of_ble_eq_true rfl) ?_
  suffices hs : ∀ (o9 : zO) (h9 : zH), (Sum.inr (some (.int 1)) : zO) = o9 → (zHp S2 X2 Y out) = h9 → zPW G mL_type 1 6 o9 h9 0 0 0 [(0, .ref 0), (1, .int a0), (2, .ref 126)] [] (zHp S X Y out) from hs _ _ rfl rfl
  intro o9 h9 ho9 hh9
  refine z_aload_n 2 dL_type_0 rfl rfl ?_
  refine z_iconst (v := 0) dL_type_1 (by decide) ?_
  refine z_aload_n 0 dL_type_2 rfl rfl ?_
  refine z_iload_n 1 dL_type_3 rfl rfl ?_
  refine z_callVC (N := mX9_type) (i9 := 3) (L9 := 1) (lv' := [(0, .ref 0), (1, .int a0), (2, .ref 126)]) [] [(0, 9, 15, 25)] 1 [.int a0] [.int 0, .ref 126] lX9_type ⟨zw_1142, zw_1143, zw_1144⟩ rfl zgo_0 rfl rfl (Nat.le_of_ble_eq_true rfl) (by decide) hG ⟨by decide, by decide⟩ hR dL_type_4 rfl (by decide) (by decide) zw_878 (by decide) (fun z hz => nomatch hz) (Or.inr ⟨3, dL_type_12, rfl, rfl⟩) (by decide) rfl ?_
  refine z_iconst (v := 1) dL_type_13 (by decide) ?_
  exact z_iret rfl dL_type_14 (zo_i ho9 (by rfl)) (zo_h hh9 (by rfl)) (by decide) (by decide)

set_option maxHeartbeats 4000000 in
set_option maxRecDepth 100000 in
theorem c_l_type_2 {G : zT} {S S2 : zS} {X X2 : zXr} {Y : zYr} {out : Nat → Int64} {a0 : Int32} (hG : zAl G = false) (hNc : zNcs G) (hR : zRun G mX9_type 1 6 [.ref 0, .int a0] (zHp S X Y out) (.inl "java/lang/IllegalStateException") (zHp S2 X2 Y out)) : zRun G mL_type 1 6 [.ref 0, .int a0, .ref 126] (zHp S X Y out) (.inr (some (.int 2))) (zHp S2 X2 Y out) := by
  refine zRun_ofH (by decide +kernel) rfl (by decide) (Nat.le_of_ble_eq_true rfl) ?_
  suffices hs : ∀ (o9 : zO) (h9 : zH), (Sum.inr (some (.int 2)) : zO) = o9 → (zHp S2 X2 Y out) = h9 → zPW G mL_type 1 6 o9 h9 0 0 0 [(0, .ref 0), (1, .int a0), (2, .ref 126)] [] (zHp S X Y out) from hs _ _ rfl rfl
  intro o9 h9 ho9 hh9
  refine z_aload_n 2 dL_type_0 rfl rfl ?_
  refine z_iconst (v := 0) dL_type_1 (by decide) ?_
  refine z_aload_n 0 dL_type_2 rfl rfl ?_
  refine z_iload_n 1 dL_type_3 rfl rfl ?_
  refine z_callVC (N := mX9_type) (i9 := 3) (L9 := 1) (lv' := [(0, .ref 0), (1, .int a0), (2, .ref 126)]) [(0, 9, 12, 13)] [] 1 [.int a0] [.int 0, .ref 126] lX9_type ⟨zw_1142, zw_1143, zw_1144⟩ rfl zgo_0 rfl rfl (Nat.le_of_ble_eq_true rfl) (by decide) hG ⟨by decide, by decide⟩ hR dL_type_4 rfl (by decide) (by decide) zw_997 (by decide) (fun z hz => by rw [List.mem_singleton] at hz; subst hz; exact ⟨by decide, _, zw_878, hNc ("java/lang/IllegalStateException", "java/lang/IllegalArgumentException") (by decide)⟩) (Or.inr ⟨3, dL_type_15, rfl, rfl⟩) (by decide) rfl ?_
  refine z_iconst (v := 2) dL_type_16 (by decide) ?_
  exact z_iret rfl dL_type_17 (zo_i ho9 (by rfl)) (zo_h hh9 (by rfl)) (by decide) (by decide)

set_option maxHeartbeats 4000000 in
set_option maxRecDepth 100000 in
theorem c_l_undo {G : zT} {S S2 : zS} {X X2 : zXr} {Y : zYr} {out : Nat → Int64} {v : Int32} (hG : zAl G = false) (hR : zRun G mX9_undo 0 0 [.ref 0] (zHp S X Y out) (.inr (some (.int v))) (zHp S2 X2 Y out)) : zRun G mL_undo 0 0 [.ref 0, .ref 126] (zHp S X Y out) (.inr (some (.int 0))) (zHp S2 X2 Y (vp_updL out 0 v.toInt64)) := by
  refine zRun_ofH (by decide +kernel) rfl (by decide) (Nat.le_of_ble_eq_true rfl) ?_
  suffices hs : ∀ (o9 : zO) (h9 : zH), (Sum.inr (some (.int 0)) : zO) = o9 → (zHp S2 X2 Y (vp_updL out 0 v.toInt64)) = h9 → zPW G mL_undo 0 0 o9 h9 0 0 0 [(0, .ref 0), (1, .ref 126)] [] (zHp S X Y out) from hs _ _ rfl rfl
  intro o9 h9 ho9 hh9
  refine z_aload_n 1 dL_undo_0 rfl rfl ?_
  refine z_iconst (v := 0) dL_undo_1 (by decide) ?_
  refine z_aload_n 0 dL_undo_2 rfl rfl ?_
  refine z_callV (N := mX9_undo) 0 [] [.int 0, .ref 126] lX9_undo ⟨zw_1154, zw_1155, zw_1156⟩ rfl zgo_0 rfl rfl (Nat.le_of_ble_eq_true rfl) (by decide) ⟨zlt, zlt⟩ ⟨Nat.zero_le _, Nat.zero_le _⟩ zal hR dL_undo_3 ?_
  refine z_i2l dL_undo_6 ?_
  refine z_last (i := 126) (n := 1) (f := out) zgl_126 (by unfold vp_in; decide) dL_undo_7 ?_
  refine z_eqh (h2 := (zHp S2 X2 Y (vp_updL out 0 v.toInt64))) rfl ?_
  refine z_goto (tgt := 14) dL_undo_8 (by decide) ?_
  refine z_iconst (v := 0) dL_undo_14 (by decide) ?_
  exact z_iret rfl dL_undo_15 (zo_i ho9 (by rfl)) (zo_h hh9 (by rfl)) (Nat.zero_le _) (Nat.zero_le _)

set_option maxHeartbeats 4000000 in
set_option maxRecDepth 100000 in
theorem c_l_undo_1 {G : zT} {S S2 : zS} {X X2 : zXr} {Y : zYr} {out : Nat → Int64} (hG : zAl G = false) (hNc : zNcs G) (hR : zRun G mX9_undo 1 6 [.ref 0] (zHp S X Y out) (.inl "java/lang/IllegalStateException") (zHp S2 X2 Y out)) : zRun G mL_undo 1 6 [.ref 0, .ref 126] (zHp S X Y out) (.inr (some (.int 1))) (zHp S2 X2 Y out) := by
  refine zRun_ofH (by decide +kernel) rfl (by decide) (Nat.le_of_ble_eq_true rfl) ?_
  suffices hs : ∀ (o9 : zO) (h9 : zH), (Sum.inr (some (.int 1)) : zO) = o9 → (zHp S2 X2 Y out) = h9 → zPW G mL_undo 1 6 o9 h9 0 0 0 [(0, .ref 0), (1, .ref 126)] [] (zHp S X Y out) from hs _ _ rfl rfl
  intro o9 h9 ho9 hh9
  refine z_aload_n 1 dL_undo_0 rfl rfl ?_
  refine z_iconst (v := 0) dL_undo_1 (by decide) ?_
  refine z_aload_n 0 dL_undo_2 rfl rfl ?_
  refine z_callVC (N := mX9_undo) (i9 := 2) (L9 := 1) (lv' := [(0, .ref 0), (1, .ref 126)]) [] [] 0 [] [.int 0, .ref 126] lX9_undo ⟨zw_1154, zw_1155, zw_1156⟩ rfl zgo_0 rfl rfl (Nat.le_of_ble_eq_true rfl) (by decide) hG ⟨by decide, by decide⟩ hR dL_undo_3 rfl (by decide) (by decide) zw_997 (by decide) (fun z hz => nomatch hz) (Or.inr ⟨2, dL_undo_11, rfl, rfl⟩) (by decide) rfl ?_
  refine z_iconst (v := 1) dL_undo_12 (by decide) ?_
  exact z_iret rfl dL_undo_13 (zo_i ho9 (by rfl)) (zo_h hh9 (by rfl)) (by decide) (by decide)
