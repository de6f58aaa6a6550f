
def zCalH (N : zN) (n : Nat) : Prop := ¬ mH N = [] ∧ Cond.codeWith (mY N) (mC N) (mN N) (mR N) (mH N) ∈ zG ∧ Cond.initialized (mY N).cls ∈ zG ∧ ((mY N).cls ≠ "java/lang/invoke/MethodHandle" ∧ (mY N).cls ≠ "java/lang/invoke/VarHandle" ∧ (parseMethodDescriptor (mY N).desc).map (fun d => d.parameters.length) = some n) ∧ mN N ≤ 16
/-- invokestatic of the class's own method with handlers -/
theorem z_callSH {G : zT} {M N : zN} {mc ms mc1 ms1 : Nat} {o : zO} {h h1 h' : zH} {cells slots pc : Nat} {lv : List (Nat × Value)} {stk : List Value} {r : Option Value} {idx : Nat} (n : Nat) (As st : List Value)
    (hN : zCalH N n) (hw : Cond.methodLink (mO M) idx (mY N) ∈ zG ∧ Cond.static (mY N) ∈ zG)
    (hst : stk = As.reverse ++ st) (hn : As.length = n) (hcat : (st.map fun v => v.category).sum ≤ 8) (hdp : mD N + 1 ≤ mD M) (hsm : h.length < 1000 ∧ h1.length < 1000) (hal0 : zAl G = false) (hfit : cells + mc1 ≤ mc ∧ slots + ms1 ≤ ms)
    (hR : zRun G N mc1 ms1 As h (.inr r) h1) (hd : decode (mC M) pc = .ok (.invokestatic idx, 3))
    (k : zPW G M mc ms o h' (cells + mc1) (slots + ms1) (pc + 3) lv (r.toList ++ st) h1) : zPW G M mc ms o h' cells slots pc lv stk h := by
  intro p e s m args below meth c A H locs ls C N9 hl
  subst hst
  obtain ⟨hh, hcd, hini, hnm, hnl⟩ := hN
  have hws : zWs N = Cond.codeWith (mY N) (mC N) (mN N) (mR N) (mH N) :: zG := by unfold zWs; rw [if_neg hh]
  have hgood : GoodIn zG (zWs N) := by
    rw [hws]
    intro w hw9
    rcases List.mem_cons.mp hw9 with rfl | hw9
    · exact zG_good _ hcd
    · exact zG_good _ hw9
  have hpre := z_pre (av := As) C N9 (fun z => by rw [hal0] at z; cases z)
  have hgi : GoodIn zG (va_wsS (mO M) idx (mY N) (zWs N)) := by
    intro w hw9
    rcases List.mem_append.mp hw9 with h9 | h9
    · simp only [List.mem_cons, List.not_mem_nil, or_false] at h9
      rcases h9 with rfl | rfl | rfl
      · exact zG_good _ hw.1
      · exact zG_good _ hw.2
      · exact zG_good _ hini
    · exact hgood w h9
  rw [z_vis]
  exact z_after C N9 hl (fun z => by rw [hal0] at z; cases z) hsm.2 (vx_runSW (hh := mH N) (As := As.map (zv (zAd G))) (rest := st.map (zv (zAd G))) ⟨C.1, C.2.1, C.2.2.1, C.2.2.2.2.2.1, C.2.2.2.2.2.2.1⟩ (hR.met H.size) (vx_cwSW n C.2.2.2.2.2.2.1 hgi hws rfl rfl hnm (z_room hdp hnl)) hpre rfl (by rw [List.length_map]; exact hn) hl.1 rfl (z_cats hcat) hd (z_fit hfit)) k
/-- what isn't caught by a handler ahead -/
def zNcs (G : zT) : Prop := ∀ q ∈ zNp, ∀ U, zKs G U → va_Nc q.1 q.2 U
theorem zNcs_ok (G : zT) : zNcs G := fun q hq _ hU => hU.2.2.2.2.2.2.2.1.2.2.2.1 q hq

theorem lHL_begins : zCalH mL_begins 3 := ⟨by decide, zG_in 482 (by decide +kernel) (by decide +kernel), zw_34, ⟨by decide +kernel, by decide +kernel, by decide +kernel⟩, by decide⟩
set_option maxHeartbeats 4000000 in
set_option maxRecDepth 100000 in
theorem c_w_begins {G : zT} {S S2 : zS} {X X2 : zXr} {Y : zYr} {out : Nat → Int64} {a0 a1 : Int32} {v : Int32} (hG : zAl G = false) (hR : zRun G mX9_begin 0 0 [.ref 0, .int a0, .int a1] (zHp S X Y out) (.inr (some (.int v))) (zHp S2 X2 Y out)) : zRun G mL_begins 0 0 [.ref 0, .int a0, .int a1] (zHp S X Y out) (.inr (some (.int v))) (zHp S2 X2 Y out) := by
  refine zRun_ofH (by decide +kernel) rfl (by decide) (Nat.le_of_ble_eq_true rfl) ?_
  suffices hs : ∀ (o9 : zO) (h9 : zH), (Sum.inr (some (.int v)) : zO) = o9 → (zHp S2 X2 Y out) = h9 → zPW G mL_begins 0 0 o9 h9 0 0 0 [(0, .ref 0), (1, .int a0), (2, .int a1)] [] (zHp S X Y out) from hs _ _ rfl rfl
  intro o9 h9 ho9 hh9
  refine z_aload_n 0 dL_begins_0 rfl rfl ?_
  refine z_iload_n 1 dL_begins_1 rfl rfl ?_
  refine z_iload_n 2 dL_begins_2 rfl rfl ?_
  refine z_callV (N := mX9_begin) 2 [.int a0, .int a1] [] lX9_begin ⟨zw_484, zw_485, zw_486⟩ rfl zgo_0 rfl rfl (Nat.le_of_ble_eq_true rfl) (by decide) ⟨zlt, zlt⟩ ⟨Nat.zero_le _, Nat.zero_le _⟩ zal hR dL_begins_3 ?_
  exact z_iret rfl dL_begins_6 (zo_i ho9 (by rfl)) (zo_h hh9 (by rfl)) (Nat.zero_le _) (Nat.zero_le _)

theorem lHL_fills : zCalH mL_fills 6 := ⟨by decide, zG_in 643 (by decide +kernel) (by decide +kernel), zw_34, ⟨by decide +kernel, by decide +kernel, by decide +kernel⟩, by decide⟩
set_option maxHeartbeats 4000000 in
set_option maxRecDepth 100000 in
theorem c_w_fills {G : zT} {S S2 : zS} {X X2 : zXr} {Y : zYr} {out : Nat → Int64} {a0 a1 a2 a3 a4 : Int32} {v : Int32} (hG : zAl G = false) (hR : zRun G mX9_fill 0 0 [.ref 0, .int a0, .int a1, .int a2, .int a3, .int a4] (zHp S X Y out) (.inr (some (.int v))) (zHp S2 X2 Y out)) : zRun G mL_fills 0 0 [.ref 0, .int a0, .int a1, .int a2, .int a3, .int a4] (zHp S X Y out) (.inr (some (.int v))) (zHp S2 X2 Y out) := by
  refine zRun_ofH (by decide +kernel) rfl (by decide) (Nat.le_of_ble_eq_true rfl) ?_
  suffices hs : ∀ (o9 : zO) (h9 : zH), (Sum.inr (some (.int v)) : zO) = o9 → (zHp S2 X2 Y out) = h9 → zPW G mL_fills 0 0 o9 h9 0 0 0 [(0, .ref 0), (1, .int a0), (2, .int a1), (3, .int a2), (4, .int a3), (5, .int a4)] [] (zHp S X Y out) from hs _ _ rfl rfl
  intro o9 h9 ho9 hh9
  refine z_aload_n 0 dL_fills_0 rfl rfl ?_
  refine z_iload_n 1 dL_fills_1 rfl rfl ?_
  refine z_iload_n 2 dL_fills_2 rfl rfl ?_
  refine z_iload_n 3 dL_fills_3 rfl rfl ?_
  refine z_iload 4 dL_fills_4 rfl ?_
  refine z_iload 5 dL_fills_6 rfl ?_
  refine z_callV (N := mX9_fill) 5 [.int a0, .int a1, .int a2, .int a3, .int a4] [] lX9_fill ⟨zw_645, zw_646, zw_647⟩ rfl zgo_0 rfl rfl (Nat.le_of_ble_eq_true rfl) (by decide) ⟨zlt, zlt⟩ ⟨Nat.zero_le _, Nat.zero_le _⟩ zal hR dL_fills_8 ?_
  exact z_iret rfl dL_fills_11 (zo_i ho9 (by rfl)) (zo_h hh9 (by rfl)) (Nat.zero_le _) (Nat.zero_le _)

set_option maxHeartbeats 4000000 in
set_option maxRecDepth 100000 in
theorem c_w_fills_1 {G : zT} {S S2 : zS} {X X2 : zXr} {Y : zYr} {out : Nat → Int64} {a0 a1 a2 a3 a4 : Int32} (hG : zAl G = false) (hNc : zNcs G) (hR : zRun G mX9_fill 1 6 [.ref 0, .int a0, .int a1, .int a2, .int a3, .int a4] (zHp S X Y out) (.inl "java/lang/IndexOutOfBoundsException") (zHp S2 X2 Y out)) : zRun G mL_fills 1 6 [.ref 0, .int a0, .int a1, .int a2, .int a3, .int a4] (zHp S X Y out) (.inr (some (.int (-2000001)))) (zHp S2 X2 Y out) := by
  refine zRun_ofH (by decide +kernel) rfl (by decide) (Nat.le_of_ble_eq_true rfl) ?_
  suffices hs : ∀ (o9 : zO) (h9 : zH), (Sum.inr (some (.int (-2000001))) : zO) = o9 → (zHp S2 X2 Y out) = h9 → zPW G mL_fills 1 6 o9 h9 0 0 0 [(0, .ref 0), (1, .int a0), (2, .int a1), (3, .int a2), (4, .int a3), (5, .int a4)] [] (zHp S X Y out) from hs _ _ rfl rfl
  intro o9 h9 ho9 hh9
  refine z_aload_n 0 dL_fills_0 rfl rfl ?_
  refine z_iload_n 1 dL_fills_1 rfl rfl ?_
  refine z_iload_n 2 dL_fills_2 rfl rfl ?_
  refine z_iload_n 3 dL_fills_3 rfl rfl ?_
  refine z_iload 4 dL_fills_4 rfl ?_
  refine z_iload 5 dL_fills_6 rfl ?_
  refine z_callVC (N := mX9_fill) (i9 := 6) (L9 := 2) (lv' := [(0, .ref 0), (1, .int a0), (2, .int a1), (3, .int a2), (4, .int a3), (5, .int a4)]) [] [(0, 11, 17, 15)] 5 [.int a0, .int a1, .int a2, .int a3, .int a4] [] lX9_fill ⟨zw_645, zw_646, zw_647⟩ rfl zgo_0 rfl rfl (Nat.le_of_ble_eq_true rfl) (by decide) hG ⟨by decide, by decide⟩ hR dL_fills_8 rfl (by decide) (by decide) zw_644 (by decide) (fun z hz => nomatch hz) (Or.inl ⟨dL_fills_12, rfl⟩) (by decide) rfl ?_
  refine z_ldc zw_640 dL_fills_14 ?_
  exact z_iret rfl dL_fills_16 (zo_i ho9 (by rfl)) (zo_h hh9 (by rfl)) (by decide) (by decide)

theorem lHL_lots : zCalH mL_lots 4 := ⟨by decide, zG_in 672 (by decide +kernel) (by decide +kernel), zw_34, ⟨by decide +kernel, by decide +kernel, by decide +kernel⟩, by decide⟩
set_option maxHeartbeats 4000000 in
set_option maxRecDepth 100000 in
theorem c_w_lots {G : zT} {S S2 : zS} {X X2 : zXr} {Y : zYr} {out : Nat → Int64} {a0 a1 a2 : Int32} {v : Int32} (hG : zAl G = false) (hR : zRun G mX9_addLot 0 0 [.ref 0, .int a0, .int a1, .int a2] (zHp S X Y out) (.inr (some (.int v))) (zHp S2 X2 Y out)) : zRun G mL_lots 0 0 [.ref 0, .int a0, .int a1, .int a2] (zHp S X Y out) (.inr (some (.int v))) (zHp S2 X2 Y out) := by
  refine zRun_ofH (by decide +kernel) rfl (by decide) (Nat.le_of_ble_eq_true rfl) ?_
  suffices hs : ∀ (o9 : zO) (h9 : zH), (Sum.inr (some (.int v)) : zO) = o9 → (zHp S2 X2 Y out) = h9 → zPW G mL_lots 0 0 o9 h9 0 0 0 [(0, .ref 0), (1, .int a0), (2, .int a1), (3, .int a2)] [] (zHp S X Y out) from hs _ _ rfl rfl
  intro o9 h9 ho9 hh9
  refine z_aload_n 0 dL_lots_0 rfl rfl ?_
  refine z_iload_n 1 dL_lots_1 rfl rfl ?_
  refine z_iload_n 2 dL_lots_2 rfl rfl ?_
  refine z_iload_n 3 dL_lots_3 rfl rfl ?_
  refine z_callV (N := mX9_addLot) 3 [.int a0, .int a1, .int a2] [] lX9_addLot ⟨zw_674, zw_675, zw_676⟩ rfl zgo_0 rfl rfl (Nat.le_of_ble_eq_true rfl) (by decide) ⟨zlt, zlt⟩ ⟨Nat.zero_le _, Nat.zero_le _⟩ zal hR dL_lots_4 ?_
  exact z_iret rfl dL_lots_7 (zo_i ho9 (by rfl)) (zo_h hh9 (by rfl)) (Nat.zero_le _) (Nat.zero_le _)

theorem lHL_limits : zCalH mL_limits 2 := ⟨by decide, zG_in 699 (by decide +kernel) (by decide +kernel), zw_34, ⟨by decide +kernel, by decide +kernel, by decide +kernel⟩, by decide⟩
set_option maxHeartbeats 4000000 in
set_option maxRecDepth 100000 in
theorem c_w_limits {G : zT} {S S2 : zS} {X X2 : zXr} {Y : zYr} {out : Nat → Int64} {a0 : Int32} {v : Int32} (hG : zAl G = false) (hR : zRun G mX9_setLimit 0 0 [.ref 0, .int a0] (zHp S X Y out) (.inr (some (.int v))) (zHp S2 X2 Y out)) : zRun G mL_limits 0 0 [.ref 0, .int a0] (zHp S X Y out) (.inr (some (.int v))) (zHp S2 X2 Y out) := by
  refine zRun_ofH (by decide +kernel) rfl (by decide) (Nat.le_of_ble_eq_true rfl) ?_
  suffices hs : ∀ (o9 : zO) (h9 : zH), (Sum.inr (some (.int v)) : zO) = o9 → (zHp S2 X2 Y out) = h9 → zPW G mL_limits 0 0 o9 h9 0 0 0 [(0, .ref 0), (1, .int a0)] [] (zHp S X Y out) from hs _ _ rfl rfl
  intro o9 h9 ho9 hh9
  refine z_aload_n 0 dL_limits_0 rfl rfl ?_
  refine z_iload_n 1 dL_limits_1 rfl rfl ?_
  refine z_callV (N := mX9_setLimit) 1 [.int a0] [] lX9_setLimit ⟨zw_700, zw_701, zw_702⟩ rfl zgo_0 rfl rfl (Nat.le_of_ble_eq_true rfl) (by decide) ⟨zlt, zlt⟩ ⟨Nat.zero_le _, Nat.zero_le _⟩ zal hR dL_limits_2 ?_
  exact z_iret rfl dL_limits_5 (zo_i ho9 (by rfl)) (zo_h hh9 (by rfl)) (Nat.zero_le _) (Nat.zero_le _)

set_option maxHeartbeats 4000000 in
set_option maxRecDepth 100000 in
theorem c_w_limits_1 {G : zT} {S S2 : zS} {X X2 : zXr} {Y : zYr} {out : Nat → Int64} {a0 : Int32} (hG : zAl G = false) (hNc : zNcs G) (hR : zRun G mX9_setLimit 1 6 [.ref 0, .int a0] (zHp S X Y out) (.inl "java/lang/IllegalArgumentException") (zHp S2 X2 Y out)) : zRun G mL_limits 1 6 [.ref 0, .int a0] (zHp S X Y out) (.inr (some (.int (-2000001)))) (zHp S2 X2 Y out) := by
  refine zRun_ofH (by decide +kernel) rfl (by decide) (Nat.le_of_ble_eq_true rfl) ?_
  suffices hs : ∀ (o9 : zO) (h9 : zH), (Sum.inr (some (.int (-2000001))) : zO) = o9 → (zHp S2 X2 Y out) = h9 → zPW G mL_limits 1 6 o9 h9 0 0 0 [(0, .ref 0), (1, .int a0)] [] (zHp S X Y out) from hs _ _ rfl rfl
  intro o9 h9 ho9 hh9
  refine z_aload_n 0 dL_limits_0 rfl rfl ?_
  refine z_iload_n 1 dL_limits_1 rfl rfl ?_
  refine z_callVC (N := mX9_setLimit) (i9 := 2) (L9 := 1) (lv' := [(0, .ref 0), (1, .int a0)]) [] [] 1 [.int a0] [] lX9_setLimit ⟨zw_700, zw_701, zw_702⟩ rfl zgo_0 rfl rfl (Nat.le_of_ble_eq_true rfl) (by decide) hG ⟨by decide, by decide⟩ hR dL_limits_2 rfl (by decide) (by decide) zw_483 (by decide) (fun z hz => nomatch hz) (Or.inr ⟨2, dL_limits_6, rfl, rfl⟩) (by decide) rfl ?_
  refine z_ldc zw_640 dL_limits_7 ?_
  exact z_iret rfl dL_limits_9 (zo_i ho9 (by rfl)) (zo_h hh9 (by rfl)) (by decide) (by decide)

theorem lHL_plants : zCalH mL_plants 3 := ⟨by decide, zG_in 718 (by decide +kernel) (by decide +kernel), zw_34, ⟨by decide +kernel, by decide +kernel, by decide +kernel⟩, by decide⟩
set_option maxHeartbeats 4000000 in
set_option maxRecDepth 100000 in
theorem c_w_plants {G : zT} {S S2 : zS} {X X2 : zXr} {Y : zYr} {out : Nat → Int64} {a0 a1 : Int32} {v : Int32} (hG : zAl G = false) (hR : zRun G mX9_plant 0 0 [.ref 0, .int a0, .int a1] (zHp S X Y out) (.inr (some (.int v))) (zHp S2 X2 Y out)) : zRun G mL_plants 0 0 [.ref 0, .int a0, .int a1] (zHp S X Y out) (.inr (some (.int v))) (zHp S2 X2 Y out) := by
  refine zRun_ofH (by decide +kernel) rfl (by decide) (Nat.le_of_ble_eq_true rfl) ?_
  suffices hs : ∀ (o9 : zO) (h9 : zH), (Sum.inr (some (.int v)) : zO) = o9 → (zHp S2 X2 Y out) = h9 → zPW G mL_plants 0 0 o9 h9 0 0 0 [(0, .ref 0), (1, .int a0), (2, .int a1)] [] (zHp S X Y out) from hs _ _ rfl rfl
  intro o9 h9 ho9 hh9
  refine z_aload_n 0 dL_plants_0 rfl rfl ?_
  refine z_iload_n 1 dL_plants_1 rfl rfl ?_
  refine z_iload_n 2 dL_plants_2 rfl rfl ?_
  refine z_callV (N := mX9_plant) 2 [.int a0, .int a1] [] lX9_plant ⟨zw_719, zw_720, zw_721⟩ rfl zgo_0 rfl rfl (Nat.le_of_ble_eq_true rfl) (by decide) ⟨zlt, zlt⟩ ⟨Nat.zero_le _, Nat.zero_le _⟩ zal hR dL_plants_3 ?_
  exact z_iret rfl dL_plants_6 (zo_i ho9 (by rfl)) (zo_h hh9 (by rfl)) (Nat.zero_le _) (Nat.zero_le _)

theorem lHL_weaves : zCalH mL_weaves 2 := ⟨by decide, zG_in 734 (by decide +kernel) (by decide +kernel), zw_34, ⟨by decide +kernel, by decide +kernel, by decide +kernel⟩, by decide⟩
set_option maxHeartbeats 4000000 in
set_option maxRecDepth 100000 in
theorem c_w_weaves {G : zT} {S S2 : zS} {X X2 : zXr} {Y : zYr} {out : Nat → Int64} {a0 : Int32} {v : Int32} (hG : zAl G = false) (hR : zRun G mX9_weave 0 0 [.ref 0, .int a0] (zHp S X Y out) (.inr (some (.int v))) (zHp S2 X2 Y out)) : zRun G mL_weaves 0 0 [.ref 0, .int a0] (zHp S X Y out) (.inr (some (.int v))) (zHp S2 X2 Y out) := by
  refine zRun_ofH (by decide +kernel) rfl (by decide) (Nat.le_of_ble_eq_true rfl) ?_
  suffices hs : ∀ (o9 : zO) (h9 : zH), (Sum.inr (some (.int v)) : zO) = o9 → (zHp S2 X2 Y out) = h9 → zPW G mL_weaves 0 0 o9 h9 0 0 0 [(0, .ref 0), (1, .int a0)] [] (zHp S X Y out) from hs _ _ rfl rfl
  intro o9 h9 ho9 hh9
  refine z_aload_n 0 dL_weaves_0 rfl rfl ?_
  refine z_iload_n 1 dL_weaves_1 rfl rfl ?_
  refine z_callV (N := mX9_weave) 1 [.int a0] [] lX9_weave ⟨zw_735, zw_736, zw_737⟩ rfl zgo_0 rfl rfl (Nat.le_of_ble_eq_true rfl) (by decide) ⟨zlt, zlt⟩ ⟨Nat.zero_le _, Nat.zero_le _⟩ zal hR dL_weaves_2 ?_
  exact z_iret rfl dL_weaves_5 (zo_i ho9 (by rfl)) (zo_h hh9 (by rfl)) (Nat.zero_le _) (Nat.zero_le _)

set_option maxHeartbeats 4000000 in
set_option maxRecDepth 100000 in
theorem c_w_weaves_1 {G : zT} {S S2 : zS} {X X2 : zXr} {Y : zYr} {out : Nat → Int64} {a0 : Int32} (hG : zAl G = false) (hNc : zNcs G) (hR : zRun G mX9_weave 1 6 [.ref 0, .int a0] (zHp S X Y out) (.inl "java/lang/IllegalArgumentException") (zHp S2 X2 Y out)) : zRun G mL_weaves 1 6 [.ref 0, .int a0] (zHp S X Y out) (.inr (some (.int (-2000001)))) (zHp S2 X2 Y out) := by
  refine zRun_ofH (by decide +kernel) rfl (by decide) (Nat.le_of_ble_eq_true rfl) ?_
  suffices hs : ∀ (o9 : zO) (h9 : zH), (Sum.inr (some (.int (-2000001))) : zO) = o9 → (zHp S2 X2 Y out) = h9 → zPW G mL_weaves 1 6 o9 h9 0 0 0 [(0, .ref 0), (1, .int a0)] [] (zHp S X Y out) from hs _ _ rfl rfl
  intro o9 h9 ho9 hh9
  refine z_aload_n 0 dL_weaves_0 rfl rfl ?_
  refine z_iload_n 1 dL_weaves_1 rfl rfl ?_
  refine z_callVC (N := mX9_weave) (i9 := 2) (L9 := 1) (lv' := [(0, .ref 0), (1, .int a0)]) [] [] 1 [.int a0] [] lX9_weave ⟨zw_735, zw_736, zw_737⟩ rfl zgo_0 rfl rfl (Nat.le_of_ble_eq_true rfl) (by decide) hG ⟨by decide, by decide⟩ hR dL_weaves_2 rfl (by decide) (by decide) zw_483 (by decide) (fun z hz => nomatch hz) (Or.inr ⟨2, dL_weaves_6, rfl, rfl⟩) (by decide) rfl ?_
  refine z_ldc zw_640 dL_weaves_7 ?_
  exact z_iret rfl dL_weaves_9 (zo_i ho9 (by rfl)) (zo_h hh9 (by rfl)) (by decide) (by decide)

theorem lHL_unweaves : zCalH mL_unweaves 2 := ⟨by decide, zG_in 766 (by decide +kernel) (by decide +kernel), zw_34, ⟨by decide +kernel, by decide +kernel, by decide +kernel⟩, by decide⟩
set_option maxHeartbeats 4000000 in
set_option maxRecDepth 100000 in
theorem c_w_unweaves {G : zT} {S S2 : zS} {X X2 : zXr} {Y : zYr} {out : Nat → Int64} {a0 : Int32} {v : Int32} (hG : zAl G = false) (hR : zRun G mX9_unweave 0 0 [.ref 0, .int a0] (zHp S X Y out) (.inr (some (.int v))) (zHp S2 X2 Y out)) : zRun G mL_unweaves 0 0 [.ref 0, .int a0] (zHp S X Y out) (.inr (some (.int v))) (zHp S2 X2 Y out) := by
  refine zRun_ofH (by decide +kernel) rfl (by decide) (Nat.le_of_ble_eq_true rfl) ?_
  suffices hs : ∀ (o9 : zO) (h9 : zH), (Sum.inr (some (.int v)) : zO) = o9 → (zHp S2 X2 Y out) = h9 → zPW G mL_unweaves 0 0 o9 h9 0 0 0 [(0, .ref 0), (1, .int a0)] [] (zHp S X Y out) from hs _ _ rfl rfl
  intro o9 h9 ho9 hh9
  refine z_aload_n 0 dL_unweaves_0 rfl rfl ?_
  refine z_iload_n 1 dL_unweaves_1 rfl rfl ?_
  refine z_callV (N := mX9_unweave) 1 [.int a0] [] lX9_unweave ⟨zw_767, zw_768, zw_769⟩ rfl zgo_0 rfl rfl (Nat.le_of_ble_eq_true rfl) (by decide) ⟨zlt, zlt⟩ ⟨Nat.zero_le _, Nat.zero_le _⟩ zal hR dL_unweaves_2 ?_
  exact z_iret rfl dL_unweaves_5 (zo_i ho9 (by rfl)) (zo_h hh9 (by rfl)) (Nat.zero_le _) (Nat.zero_le _)

set_option maxHeartbeats 4000000 in
set_option maxRecDepth 100000 in
theorem c_w_unweaves_2 {G : zT} {S S2 : zS} {X X2 : zXr} {Y : zYr} {out : Nat → Int64} {a0 : Int32} (hG : zAl G = false) (hNc : zNcs G) (hR : zRun G mX9_unweave 1 6 [.ref 0, .int a0] (zHp S X Y out) (.inl "java/lang/IllegalStateException") (zHp S2 X2 Y out)) : zRun G mL_unweaves 1 6 [.ref 0, .int a0] (zHp S X Y out) (.inr (some (.int (-2000002)))) (zHp S2 X2 Y out) := by
  refine zRun_ofH (by decide +kernel) rfl (by decide) (Nat.le_of_ble_eq_true rfl) ?_
  suffices hs : ∀ (o9 : zO) (h9 : zH), (Sum.inr (some (.int (-2000002))) : zO) = o9 → (zHp S2 X2 Y out) = h9 → zPW G mL_unweaves 1 6 o9 h9 0 0 0 [(0, .ref 0), (1, .int a0)] [] (zHp S X Y out) from hs _ _ rfl rfl
  intro o9 h9 ho9 hh9
  refine z_aload_n 0 dL_unweaves_0 rfl rfl ?_
  refine z_iload_n 1 dL_unweaves_1 rfl rfl ?_
  refine z_callVC (N := mX9_unweave) (i9 := 2) (L9 := 1) (lv' := [(0, .ref 0), (1, .int a0)]) [(0, 5, 6, 15)] [] 1 [.int a0] [] lX9_unweave ⟨zw_767, zw_768, zw_769⟩ rfl zgo_0 rfl rfl (Nat.le_of_ble_eq_true rfl) (by decide) hG ⟨by decide, by decide⟩ hR dL_unweaves_2 rfl (by decide) (by decide) zw_673 (by decide) (fun z hz => by rw [List.mem_singleton] at hz; subst hz; exact ⟨by decide, _, zw_483, hNc ("java/lang/IllegalStateException", "java/lang/IllegalArgumentException") (by decide)⟩) (Or.inr ⟨2, dL_unweaves_10, rfl, rfl⟩) (by decide) rfl ?_
  refine z_ldc zw_669 dL_unweaves_11 ?_
  exact z_iret rfl dL_unweaves_13 (zo_i ho9 (by rfl)) (zo_h hh9 (by rfl)) (by decide) (by decide)

theorem lHL_sews : zCalH mL_sews 2 := ⟨by decide, zG_in 785 (by decide +kernel) (by decide +kernel), zw_34, ⟨by decide +kernel, by decide +kernel, by decide +kernel⟩, by decide⟩
set_option maxHeartbeats 4000000 in
set_option maxRecDepth 100000 in
theorem c_w_sews {G : zT} {S S2 : zS} {X X2 : zXr} {Y : zYr} {out : Nat → Int64} {a0 : Int32} {v : Int32} (hG : zAl G = false) (hR : zRun G mX9_sew 0 0 [.ref 0, .int a0] (zHp S X Y out) (.inr (some (.int v))) (zHp S2 X2 Y out)) : zRun G mL_sews 0 0 [.ref 0, .int a0] (zHp S X Y out) (.inr (some (.int v))) (zHp S2 X2 Y out) := by
  refine zRun_ofH (by decide +kernel) rfl (by decide) (Nat.le_of_ble_eq_true rfl) ?_
  suffices hs : ∀ (o9 : zO) (h9 : zH), (Sum.inr (some (.int v)) : zO) = o9 → (zHp S2 X2 Y out) = h9 → zPW G mL_sews 0 0 o9 h9 0 0 0 [(0, .ref 0), (1, .int a0)] [] (zHp S X Y out) from hs _ _ rfl rfl
  intro o9 h9 ho9 hh9
  refine z_aload_n 0 dL_sews_0 rfl rfl ?_
  refine z_iload_n 1 dL_sews_1 rfl rfl ?_
  refine z_callV (N := mX9_sew) 1 [.int a0] [] lX9_sew ⟨zw_786, zw_787, zw_788⟩ rfl zgo_0 rfl rfl (Nat.le_of_ble_eq_true rfl) (by decide) ⟨zlt, zlt⟩ ⟨Nat.zero_le _, Nat.zero_le _⟩ zal hR dL_sews_2 ?_
  exact z_iret rfl dL_sews_5 (zo_i ho9 (by rfl)) (zo_h hh9 (by rfl)) (Nat.zero_le _) (Nat.zero_le _)

set_option maxHeartbeats 4000000 in
set_option maxRecDepth 100000 in
theorem c_w_sews_1 {G : zT} {S S2 : zS} {X X2 : zXr} {Y : zYr} {out : Nat → Int64} {a0 : Int32} (hG : zAl G = false) (hNc : zNcs G) (hR : zRun G mX9_sew 1 6 [.ref 0, .int a0] (zHp S X Y out) (.inl "java/lang/IndexOutOfBoundsException") (zHp S2 X2 Y out)) : zRun G mL_sews 1 6 [.ref 0, .int a0] (zHp S X Y out) (.inr (some (.int (-2000001)))) (zHp S2 X2 Y out) := by
  refine zRun_ofH (by decide +kernel) rfl (by decide) (Nat.le_of_ble_eq_true rfl) ?_
  suffices hs : ∀ (o9 : zO) (h9 : zH), (Sum.inr (some (.int (-2000001))) : zO) = o9 → (zHp S2 X2 Y out) = h9 → zPW G mL_sews 1 6 o9 h9 0 0 0 [(0, .ref 0), (1, .int a0)] [] (zHp S X Y out) from hs _ _ rfl rfl
  intro o9 h9 ho9 hh9
  refine z_aload_n 0 dL_sews_0 rfl rfl ?_
  refine z_iload_n 1 dL_sews_1 rfl rfl ?_
  refine z_callVC (N := mX9_sew) (i9 := 2) (L9 := 1) (lv' := [(0, .ref 0), (1, .int a0)]) [] [(0, 5, 10, 29)] 1 [.int a0] [] lX9_sew ⟨zw_786, zw_787, zw_788⟩ rfl zgo_0 rfl rfl (Nat.le_of_ble_eq_true rfl) (by decide) hG ⟨by decide, by decide⟩ hR dL_sews_2 rfl (by decide) (by decide) zw_644 (by decide) (fun z hz => nomatch hz) (Or.inr ⟨2, dL_sews_6, rfl, rfl⟩) (by decide) rfl ?_
  refine z_ldc zw_640 dL_sews_7 ?_
  exact z_iret rfl dL_sews_9 (zo_i ho9 (by rfl)) (zo_h hh9 (by rfl)) (by decide) (by decide)

set_option maxHeartbeats 4000000 in
set_option maxRecDepth 100000 in
theorem c_w_sews_2 {G : zT} {S S2 : zS} {X X2 : zXr} {Y : zYr} {out : Nat → Int64} {a0 : Int32} (hG : zAl G = false) (hNc : zNcs G) (hR : zRun G mX9_sew 1 6 [.ref 0, .int a0] (zHp S X Y out) (.inl "java/lang/IllegalStateException") (zHp S2 X2 Y out)) : zRun G mL_sews 1 6 [.ref 0, .int a0] (zHp S X Y out) (.inr (some (.int (-2000002)))) (zHp S2 X2 Y out) := by
  refine zRun_ofH (by decide +kernel) rfl (by decide) (Nat.le_of_ble_eq_true rfl) ?_
  suffices hs : ∀ (o9 : zO) (h9 : zH), (Sum.inr (some (.int (-2000002))) : zO) = o9 → (zHp S2 X2 Y out) = h9 → zPW G mL_sews 1 6 o9 h9 0 0 0 [(0, .ref 0), (1, .int a0)] [] (zHp S X Y out) from hs _ _ rfl rfl
  intro o9 h9 ho9 hh9
  refine z_aload_n 0 dL_sews_0 rfl rfl ?_
  refine z_iload_n 1 dL_sews_1 rfl rfl ?_
  refine z_callVC (N := mX9_sew) (i9 := 2) (L9 := 1) (lv' := [(0, .ref 0), (1, .int a0)]) [(0, 5, 6, 22)] [] 1 [.int a0] [] lX9_sew ⟨zw_786, zw_787, zw_788⟩ rfl zgo_0 rfl rfl (Nat.le_of_ble_eq_true rfl) (by decide) hG ⟨by decide, by decide⟩ hR dL_sews_2 rfl (by decide) (by decide) zw_673 (by decide) (fun z hz => by rw [List.mem_singleton] at hz; subst hz; exact ⟨by decide, _, zw_644, hNc ("java/lang/IllegalStateException", "java/lang/IndexOutOfBoundsException") (by decide)⟩) (Or.inr ⟨2, dL_sews_10, rfl, rfl⟩) (by decide) rfl ?_
  refine z_ldc zw_669 dL_sews_11 ?_
  exact z_iret rfl dL_sews_13 (zo_i ho9 (by rfl)) (zo_h hh9 (by rfl)) (by decide) (by decide)

theorem lHL_cells : zCalH mL_cells 4 := ⟨by decide, zG_in 804 (by decide +kernel) (by decide +kernel), zw_34, ⟨by decide +kernel, by decide +kernel, by decide +kernel⟩, by decide⟩
set_option maxHeartbeats 4000000 in
set_option maxRecDepth 100000 in
theorem c_w_cells {G : zT} {S S2 : zS} {X X2 : zXr} {Y : zYr} {out : Nat → Int64} {a0 a1 a2 : Int32} {v : Int32} (hG : zAl G = false) (hR : zRun G mX9_cell 0 0 [.ref 0, .int a0, .int a1, .int a2] (zHp S X Y out) (.inr (some (.int v))) (zHp S2 X2 Y out)) : zRun G mL_cells 0 0 [.ref 0, .int a0, .int a1, .int a2] (zHp S X Y out) (.inr (some (.int v))) (zHp S2 X2 Y out) := by
  refine zRun_ofH (by decide +kernel) rfl (by decide) (Nat.le_of_ble_eq_true rfl) ?_
  suffices hs : ∀ (o9 : zO) (h9 : zH), (Sum.inr (some (.int v)) : zO) = o9 → (zHp S2 X2 Y out) = h9 → zPW G mL_cells 0 0 o9 h9 0 0 0 [(0, .ref 0), (1, .int a0), (2, .int a1), (3, .int a2)] [] (zHp S X Y out) from hs _ _ rfl rfl
  intro o9 h9 ho9 hh9
  refine z_aload_n 0 dL_cells_0 rfl rfl ?_
  refine z_iload_n 1 dL_cells_1 rfl rfl ?_
  refine z_iload_n 2 dL_cells_2 rfl rfl ?_
  refine z_iload_n 3 dL_cells_3 rfl rfl ?_
  refine z_callV (N := mX9_cell) 3 [.int a0, .int a1, .int a2] [] lX9_cell ⟨zw_805, zw_806, zw_807⟩ rfl zgo_0 rfl rfl (Nat.le_of_ble_eq_true rfl) (by decide) ⟨zlt, zlt⟩ ⟨Nat.zero_le _, Nat.zero_le _⟩ zal hR dL_cells_4 ?_
  exact z_iret rfl dL_cells_7 (zo_i ho9 (by rfl)) (zo_h hh9 (by rfl)) (Nat.zero_le _) (Nat.zero_le _)

theorem lHL_rows : zCalH mL_rows 3 := ⟨by decide, zG_in 836 (by decide +kernel) (by decide +kernel), zw_34, ⟨by decide +kernel, by decide +kernel, by decide +kernel⟩, by decide⟩
set_option maxHeartbeats 4000000 in
set_option maxRecDepth 100000 in
theorem c_w_rows {G : zT} {S S2 : zS} {X X2 : zXr} {Y : zYr} {out : Nat → Int64} {a0 a1 : Int32} {v : Int32} (hG : zAl G = false) (hR : zRun G mX9_row 0 0 [.ref 0, .int a0, .int a1] (zHp S X Y out) (.inr (some (.int v))) (zHp S2 X2 Y out)) : zRun G mL_rows 0 0 [.ref 0, .int a0, .int a1] (zHp S X Y out) (.inr (some (.int v))) (zHp S2 X2 Y out) := by
  refine zRun_ofH (by decide +kernel) rfl (by decide) (Nat.le_of_ble_eq_true rfl) ?_
  suffices hs : ∀ (o9 : zO) (h9 : zH), (Sum.inr (some (.int v)) : zO) = o9 → (zHp S2 X2 Y out) = h9 → zPW G mL_rows 0 0 o9 h9 0 0 0 [(0, .ref 0), (1, .int a0), (2, .int a1)] [] (zHp S X Y out) from hs _ _ rfl rfl
  intro o9 h9 ho9 hh9
  refine z_aload_n 0 dL_rows_0 rfl rfl ?_
  refine z_iload_n 1 dL_rows_1 rfl rfl ?_
  refine z_iload_n 2 dL_rows_2 rfl rfl ?_
  refine z_callV (N := mX9_row) 2 [.int a0, .int a1] [] lX9_row ⟨zw_837, zw_838, zw_839⟩ rfl zgo_0 rfl rfl (Nat.le_of_ble_eq_true rfl) (by decide) ⟨zlt, zlt⟩ ⟨Nat.zero_le _, Nat.zero_le _⟩ zal hR dL_rows_3 ?_
  exact z_iret rfl dL_rows_6 (zo_i ho9 (by rfl)) (zo_h hh9 (by rfl)) (Nat.zero_le _) (Nat.zero_le _)

theorem lHL_lotOf : zCalH mL_lotOf 3 := ⟨by decide, zG_in 844 (by decide +kernel) (by decide +kernel), zw_34, ⟨by decide +kernel, by decide +kernel, by decide +kernel⟩, by decide⟩
set_option maxHeartbeats 4000000 in
set_option maxRecDepth 100000 in
theorem c_w_lotOf {G : zT} {S S2 : zS} {X X2 : zXr} {Y : zYr} {out : Nat → Int64} {a0 a1 : Int32} {v : Int32} (hG : zAl G = false) (hR : zRun G mX9_lot 0 0 [.ref 0, .int a0, .int a1] (zHp S X Y out) (.inr (some (.int v))) (zHp S2 X2 Y out)) : zRun G mL_lotOf 0 0 [.ref 0, .int a0, .int a1] (zHp S X Y out) (.inr (some (.int v))) (zHp S2 X2 Y out) := by
  refine zRun_ofH (by decide +kernel) rfl (by decide) (Nat.le_of_ble_eq_true rfl) ?_
  suffices hs : ∀ (o9 : zO) (h9 : zH), (Sum.inr (some (.int v)) : zO) = o9 → (zHp S2 X2 Y out) = h9 → zPW G mL_lotOf 0 0 o9 h9 0 0 0 [(0, .ref 0), (1, .int a0), (2, .int a1)] [] (zHp S X Y out) from hs _ _ rfl rfl
  intro o9 h9 ho9 hh9
  refine z_aload_n 0 dL_lotOf_0 rfl rfl ?_
  refine z_iload_n 1 dL_lotOf_1 rfl rfl ?_
  refine z_iload_n 2 dL_lotOf_2 rfl rfl ?_
  refine z_callV (N := mX9_lot) 2 [.int a0, .int a1] [] lX9_lot ⟨zw_845, zw_846, zw_847⟩ rfl zgo_0 rfl rfl (Nat.le_of_ble_eq_true rfl) (by decide) ⟨zlt, zlt⟩ ⟨Nat.zero_le _, Nat.zero_le _⟩ zal hR dL_lotOf_3 ?_
  exact z_iret rfl dL_lotOf_6 (zo_i ho9 (by rfl)) (zo_h hh9 (by rfl)) (Nat.zero_le _) (Nat.zero_le _)

theorem lHL_colorOf : zCalH mL_colorOf 3 := ⟨by decide, zG_in 855 (by decide +kernel) (by decide +kernel), zw_34, ⟨by decide +kernel, by decide +kernel, by decide +kernel⟩, by decide⟩
set_option maxHeartbeats 4000000 in
set_option maxRecDepth 100000 in
theorem c_w_colorOf {G : zT} {S S2 : zS} {X X2 : zXr} {Y : zYr} {out : Nat → Int64} {a0 a1 : Int32} {v : Int32} (hG : zAl G = false) (hR : zRun G mX9_color 0 0 [.ref 0, .int a0, .int a1] (zHp S X Y out) (.inr (some (.int v))) (zHp S2 X2 Y out)) : zRun G mL_colorOf 0 0 [.ref 0, .int a0, .int a1] (zHp S X Y out) (.inr (some (.int v))) (zHp S2 X2 Y out) := by
  refine zRun_ofH (by decide +kernel) rfl (by decide) (Nat.le_of_ble_eq_true rfl) ?_
  suffices hs : ∀ (o9 : zO) (h9 : zH), (Sum.inr (some (.int v)) : zO) = o9 → (zHp S2 X2 Y out) = h9 → zPW G mL_colorOf 0 0 o9 h9 0 0 0 [(0, .ref 0), (1, .int a0), (2, .int a1)] [] (zHp S X Y out) from hs _ _ rfl rfl
  intro o9 h9 ho9 hh9
  refine z_aload_n 0 dL_colorOf_0 rfl rfl ?_
  refine z_iload_n 1 dL_colorOf_1 rfl rfl ?_
  refine z_iload_n 2 dL_colorOf_2 rfl rfl ?_
  refine z_callV (N := mX9_color) 2 [.int a0, .int a1] [] lX9_color ⟨zw_856, zw_857, zw_858⟩ rfl zgo_0 rfl rfl (Nat.le_of_ble_eq_true rfl) (by decide) ⟨zlt, zlt⟩ ⟨Nat.zero_le _, Nat.zero_le _⟩ zal hR dL_colorOf_3 ?_
  exact z_iret rfl dL_colorOf_6 (zo_i ho9 (by rfl)) (zo_h hh9 (by rfl)) (Nat.zero_le _) (Nat.zero_le _)

theorem lHL_slitOf : zCalH mL_slitOf 3 := ⟨by decide, zG_in 916 (by decide +kernel) (by decide +kernel), zw_34, ⟨by decide +kernel, by decide +kernel, by decide +kernel⟩, by decide⟩
set_option maxHeartbeats 4000000 in
set_option maxRecDepth 100000 in
theorem c_w_slitOf {G : zT} {S S2 : zS} {X X2 : zXr} {Y : zYr} {out : Nat → Int64} {a0 a1 : Int32} {v : Int32} (hG : zAl G = false) (hR : zRun G mX9_slit 0 0 [.ref 0, .int a0, .int a1] (zHp S X Y out) (.inr (some (.int v))) (zHp S2 X2 Y out)) : zRun G mL_slitOf 0 0 [.ref 0, .int a0, .int a1] (zHp S X Y out) (.inr (some (.int v))) (zHp S2 X2 Y out) := by
  refine zRun_ofH (by decide +kernel) rfl (by decide) (Nat.le_of_ble_eq_true rfl) ?_
  suffices hs : ∀ (o9 : zO) (h9 : zH), (Sum.inr (some (.int v)) : zO) = o9 → (zHp S2 X2 Y out) = h9 → zPW G mL_slitOf 0 0 o9 h9 0 0 0 [(0, .ref 0), (1, .int a0), (2, .int a1)] [] (zHp S X Y out) from hs _ _ rfl rfl
  intro o9 h9 ho9 hh9
  refine z_aload_n 0 dL_slitOf_0 rfl rfl ?_
  refine z_iload_n 1 dL_slitOf_1 rfl rfl ?_
  refine z_iload_n 2 dL_slitOf_2 rfl rfl ?_
  refine z_callV (N := mX9_slit) 2 [.int a0, .int a1] [] lX9_slit ⟨zw_917, zw_918, zw_919⟩ rfl zgo_0 rfl rfl (Nat.le_of_ble_eq_true rfl) (by decide) ⟨zlt, zlt⟩ ⟨Nat.zero_le _, Nat.zero_le _⟩ zal hR dL_slitOf_3 ?_
  exact z_iret rfl dL_slitOf_6 (zo_i ho9 (by rfl)) (zo_h hh9 (by rfl)) (Nat.zero_le _) (Nat.zero_le _)

theorem lHL_whole : zCalH mL_whole 2 := ⟨by decide, zG_in 812 (by decide +kernel) (by decide +kernel), zw_34, ⟨by decide +kernel, by decide +kernel, by decide +kernel⟩, by decide⟩
set_option maxHeartbeats 4000000 in
set_option maxRecDepth 100000 in
theorem c_w_whole {G : zT} {S S2 : zS} {X X2 : zXr} {Y : zYr} {out : Nat → Int64} {a0 : Int32} {v : Int32} (hG : zAl G = false) (hR : zRun G mX9_whole 0 0 [.ref 0, .int a0] (zHp S X Y out) (.inr (some (.int v))) (zHp S2 X2 Y out)) : zRun G mL_whole 0 0 [.ref 0, .int a0] (zHp S X Y out) (.inr (some (.int v))) (zHp S2 X2 Y out) := by
  refine zRun_ofH (by decide +kernel) rfl (by decide) (Nat.le_of_ble_eq_true rfl) ?_
  suffices hs : ∀ (o9 : zO) (h9 : zH), (Sum.inr (some (.int v)) : zO) = o9 → (zHp S2 X2 Y out) = h9 → zPW G mL_whole 0 0 o9 h9 0 0 0 [(0, .ref 0), (1, .int a0)] [] (zHp S X Y out) from hs _ _ rfl rfl
  intro o9 h9 ho9 hh9
  refine z_aload_n 0 dL_whole_0 rfl rfl ?_
  refine z_iload_n 1 dL_whole_1 rfl rfl ?_
  refine z_callV (N := mX9_whole) 1 [.int a0] [] lX9_whole ⟨zw_813, zw_814, zw_815⟩ rfl zgo_0 rfl rfl (Nat.le_of_ble_eq_true rfl) (by decide) ⟨zlt, zlt⟩ ⟨Nat.zero_le _, Nat.zero_le _⟩ zal hR dL_whole_2 ?_
  exact z_iret rfl dL_whole_5 (zo_i ho9 (by rfl)) (zo_h hh9 (by rfl)) (Nat.zero_le _) (Nat.zero_le _)

theorem lHL_missing : zCalH mL_missing 2 := ⟨by decide, zG_in 874 (by decide +kernel) (by decide +kernel), zw_34, ⟨by decide +kernel, by decide +kernel, by decide +kernel⟩, by decide⟩
set_option maxHeartbeats 4000000 in
set_option maxRecDepth 100000 in
theorem c_w_missing {G : zT} {S S2 : zS} {X X2 : zXr} {Y : zYr} {out : Nat → Int64} {a0 : Int32} {v : Int32} (hG : zAl G = false) (hR : zRun G mX9_missing 0 0 [.ref 0, .int a0] (zHp S X Y out) (.inr (some (.int v))) (zHp S2 X2 Y out)) : zRun G mL_missing 0 0 [.ref 0, .int a0] (zHp S X Y out) (.inr (some (.int v))) (zHp S2 X2 Y out) := by
  refine zRun_ofH (by decide +kernel) rfl (by decide) (Nat.le_of_ble_eq_true rfl) ?_
  suffices hs : ∀ (o9 : zO) (h9 : zH), (Sum.inr (some (.int v)) : zO) = o9 → (zHp S2 X2 Y out) = h9 → zPW G mL_missing 0 0 o9 h9 0 0 0 [(0, .ref 0), (1, .int a0)] [] (zHp S X Y out) from hs _ _ rfl rfl
  intro o9 h9 ho9 hh9
  refine z_aload_n 0 dL_missing_0 rfl rfl ?_
  refine z_iload_n 1 dL_missing_1 rfl rfl ?_
  refine z_callV (N := mX9_missing) 1 [.int a0] [] lX9_missing ⟨zw_875, zw_876, zw_877⟩ rfl zgo_0 rfl rfl (Nat.le_of_ble_eq_true rfl) (by decide) ⟨zlt, zlt⟩ ⟨Nat.zero_le _, Nat.zero_le _⟩ zal hR dL_missing_2 ?_
  exact z_iret rfl dL_missing_5 (zo_i ho9 (by rfl)) (zo_h hh9 (by rfl)) (Nat.zero_le _) (Nat.zero_le _)

theorem lHL_slitsWith : zCalH mL_slitsWith 2 := ⟨by decide, zG_in 908 (by decide +kernel) (by decide +kernel), zw_34, ⟨by decide +kernel, by decide +kernel, by decide +kernel⟩, by decide⟩
set_option maxHeartbeats 4000000 in
set_option maxRecDepth 100000 in
theorem c_w_slitsWith {G : zT} {S S2 : zS} {X X2 : zXr} {Y : zYr} {out : Nat → Int64} {a0 : Int32} {v : Int32} (hG : zAl G = false) (hR : zRun G mX9_slitsWith 0 0 [.ref 0, .int a0] (zHp S X Y out) (.inr (some (.int v))) (zHp S2 X2 Y out)) : zRun G mL_slitsWith 0 0 [.ref 0, .int a0] (zHp S X Y out) (.inr (some (.int v))) (zHp S2 X2 Y out) := by
  refine zRun_ofH (by decide +kernel) rfl (by decide) (Nat.le_of_ble_eq_true rfl) ?_
  suffices hs : ∀ (o9 : zO) (h9 : zH), (Sum.inr (some (.int v)) : zO) = o9 → (zHp S2 X2 Y out) = h9 → zPW G mL_slitsWith 0 0 o9 h9 0 0 0 [(0, .ref 0), (1, .int a0)] [] (zHp S X Y out) from hs _ _ rfl rfl
  intro o9 h9 ho9 hh9
  refine z_aload_n 0 dL_slitsWith_0 rfl rfl ?_
  refine z_iload_n 1 dL_slitsWith_1 rfl rfl ?_
  refine z_callV (N := mX9_slitsWith) 1 [.int a0] [] lX9_slitsWith ⟨zw_909, zw_910, zw_911⟩ rfl zgo_0 rfl rfl (Nat.le_of_ble_eq_true rfl) (by decide) ⟨zlt, zlt⟩ ⟨Nat.zero_le _, Nat.zero_le _⟩ zal hR dL_slitsWith_2 ?_
  exact z_iret rfl dL_slitsWith_5 (zo_i ho9 (by rfl)) (zo_h hh9 (by rfl)) (Nat.zero_le _) (Nat.zero_le _)

theorem lHL_shuttlesFor : zCalH mL_shuttlesFor 2 := ⟨by decide, zG_in 884 (by decide +kernel) (by decide +kernel), zw_34, ⟨by decide +kernel, by decide +kernel, by decide +kernel⟩, by decide⟩
set_option maxHeartbeats 4000000 in
set_option maxRecDepth 100000 in
theorem c_w_shuttlesFor {G : zT} {S S2 : zS} {X X2 : zXr} {Y : zYr} {out : Nat → Int64} {a0 : Int32} {v : Int32} (hG : zAl G = false) (hR : zRun G mX9_shuttlesFor 0 0 [.ref 0, .int a0] (zHp S X Y out) (.inr (some (.int v))) (zHp S2 X2 Y out)) : zRun G mL_shuttlesFor 0 0 [.ref 0, .int a0] (zHp S X Y out) (.inr (some (.int v))) (zHp S2 X2 Y out) := by
  refine zRun_ofH (by decide +kernel) rfl (by decide) (Nat.le_of_ble_eq_true rfl) ?_
  suffices hs : ∀ (o9 : zO) (h9 : zH), (Sum.inr (some (.int v)) : zO) = o9 → (zHp S2 X2 Y out) = h9 → zPW G mL_shuttlesFor 0 0 o9 h9 0 0 0 [(0, .ref 0), (1, .int a0)] [] (zHp S X Y out) from hs _ _ rfl rfl
  intro o9 h9 ho9 hh9
  refine z_aload_n 0 dL_shuttlesFor_0 rfl rfl ?_
  refine z_iload_n 1 dL_shuttlesFor_1 rfl rfl ?_
  refine z_callV (N := mX9_shuttlesFor) 1 [.int a0] [] lX9_shuttlesFor ⟨zw_885, zw_886, zw_887⟩ rfl zgo_0 rfl rfl (Nat.le_of_ble_eq_true rfl) (by decide) ⟨zlt, zlt⟩ ⟨Nat.zero_le _, Nat.zero_le _⟩ zal hR dL_shuttlesFor_2 ?_
  exact z_iret rfl dL_shuttlesFor_5 (zo_i ho9 (by rfl)) (zo_h hh9 (by rfl)) (Nat.zero_le _) (Nat.zero_le _)

theorem lHL_undoes : zCalH mL_undoes 1 := ⟨by decide, zG_in 819 (by decide +kernel) (by decide +kernel), zw_34, ⟨by decide +kernel, by decide +kernel, by decide +kernel⟩, by decide⟩
set_option maxHeartbeats 4000000 in
set_option maxRecDepth 100000 in
theorem c_w_undoes {G : zT} {S S2 : zS} {X X2 : zXr} {Y : zYr} {out : Nat → Int64} {v : Int32} (hG : zAl G = false) (hR : zRun G mX9_undo 0 0 [.ref 0] (zHp S X Y out) (.inr (some (.int v))) (zHp S2 X2 Y out)) : zRun G mL_undoes 0 0 [.ref 0] (zHp S X Y out) (.inr (some (.int v))) (zHp S2 X2 Y out) := by
  refine zRun_ofH (by decide +kernel) rfl (by decide) (Nat.le_of_ble_eq_true rfl) ?_
  suffices hs : ∀ (o9 : zO) (h9 : zH), (Sum.inr (some (.int v)) : zO) = o9 → (zHp S2 X2 Y out) = h9 → zPW G mL_undoes 0 0 o9 h9 0 0 0 [(0, .ref 0)] [] (zHp S X Y out) from hs _ _ rfl rfl
  intro o9 h9 ho9 hh9
  refine z_aload_n 0 dL_undoes_0 rfl rfl ?_
  refine z_callV (N := mX9_undo) 0 [] [] lX9_undo ⟨zw_820, zw_821, zw_822⟩ rfl zgo_0 rfl rfl (Nat.le_of_ble_eq_true rfl) (by decide) ⟨zlt, zlt⟩ ⟨Nat.zero_le _, Nat.zero_le _⟩ zal hR dL_undoes_1 ?_
  exact z_iret rfl dL_undoes_4 (zo_i ho9 (by rfl)) (zo_h hh9 (by rfl)) (Nat.zero_le _) (Nat.zero_le _)

