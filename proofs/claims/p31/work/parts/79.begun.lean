/-! the beginning -/
/-- a fresh loom -/
def zN0 : zS := (8, 6, 0, 3, 1073741824, (fun _ => 0), (fun _ => 0), (fun _ => 0), (fun _ => 0), zFl (fun _ => -1) (fun _ => 0) 20, 0, (fun _ => 0), (fun _ => 0), (fun _ => 0), (fun _ => 0), (fun _ => 0))
theorem zFinS_z : zFinS 0 := by unfold zFinS; decide
theorem pIv_0 : pIv 8 6 0 3 1073741824 (fun _ => 0) (fun _ => 0) (fun _ => 0) (fun _ => 0) (zFl (fun _ => -1) (fun _ => 0) 20) 0 (fun _ => 0) (fun _ => 0) (fun _ => 0) (fun _ => 0) (fun _ => 0) :=
  ⟨⟨by decide, by decide, by decide, by decide, by decide, by decide, by decide, by decide, rfl⟩, fun _ _ _ _ => ⟨0, by decide, rfl⟩, fun _ _ hy _ => absurd hy (by omega), ⟨fun _ => 0, fun _ => 0, fun k hk => absurd hk (by omega)⟩, fun b hb => Or.inl (zFl_in hb), fun _ _ _ _ => Or.inl rfl, fun _ => zFinS_z⟩
theorem pFin_0 : zFin4 zN0 := fun _ => zFinS_z
theorem pGd_0 : pGd zN0 (zN0, zN0, zN0, zN0, 0, 0, (fun _ => 0), 0, (fun _ => 0), 1000, 0, (-1)) := ⟨pIv_0, by decide, by decide, pFin_0, pFin_0, pFin_0, pFin_0⟩
set_option maxHeartbeats 4000000 in
set_option maxRecDepth 100000 in
theorem zH0_eq {Y : zYr} {out : Nat → Int64} : zM0 = zHp zN0 (zN0, zN0, zN0, zN0, 0, 0, (fun _ => 0), 0, (fun _ => 0), 1000, 0, (-1)) Y out := rfl
set_option maxHeartbeats 4000000 in
set_option maxRecDepth 100000 in
theorem law_begun {G : zT} {Y : zYr} {out : Nat → Int64} (hG : zAl G = true) {o : zO} {h' : zH} (k : zPW (zOff G) mL_law 600086 7301442 o h' ((0 + 1) + 113) ((0 + 4) + 7201) 8 [(1, .ref 0), (0, .ref 1009)] [] (zHp zN0 (zN0, zN0, zN0, zN0, 0, 0, (fun _ => 0), 0, (fun _ => 0), 1000, 0, (-1)) Y out)) : zPW G mL_law 600086 7301442 o h' 0 0 0 [(0, .ref 1009)] [] [] := by
  refine z_new (ci := 7) (Cn := RX9) (T := TX9) (fs := [.null, .null, .null, .null]) (q9 := 0) (h2 := ([.inr (7, [.null, .null, .null, .null])] : zH)) tyX9 hG (by decide) (Or.inr rfl) rfl inX9 tyX9_ok zw_53 zw_54 zw_35 df_X9 (fun _ => rfl) ⟨Nat.le_of_ble_eq_true rfl, Nat.le_of_ble_eq_true rfl⟩ dL_law_0 rfl rfl ?_
  refine z_dup dL_law_3 rfl ?_
  refine z_callI (N := mX9_init) (mc1 := 113) (ms1 := 7201) (h1 := zM0) 0 [] [.ref 0] hG lX9_init ⟨zw_55, zw_56⟩ rfl rfl rfl rfl (Nat.le_of_ble_eq_true rfl) (by decide) ⟨Nat.le_of_ble_eq_true rfl, Nat.le_of_ble_eq_true rfl⟩ (Nat.le_of_ble_eq_true rfl) ⟨Nat.le_of_ble_eq_true rfl, Nat.le_of_ble_eq_true rfl⟩ rfl (i_main hG) dL_law_4 ?_
  refine z_astore_n (lv' := [(1, .ref 0), (0, .ref 1009)]) dL_law_7 rfl (by decide) rfl ?_
  refine z_off ?_
  exact z_eqh zH0_eq k
theorem law_whole {G : zT} (hG : zAl G = true) (hL : zAd G 1999 ≤ 260) : ∃ h', zPW G mL_law 600086 7301442 (.inr (some (.int 1))) h' 0 0 0 [(0, .ref 1009)] [] [] := by
  obtain ⟨h', k⟩ := law_all (G := zOff G) (mc := 600086) (ms := 7301442) (cells := (0 + 1) + 113) (slots := (0 + 4) + 7201) (Y := ((fun _ => 0), (fun _ => 0), (fun _ => 0), 0, (fun _ => 0), 0, 0, (fun _ => 0), (fun _ => 0), (fun _ => 0), 0, (fun _ => 0), (fun _ => 0), (fun _ => 0), 0, 0, (fun _ => 0), 0, 0)) (out := fun _ => 0) rfl hL pGd_0 rfl rfl (by decide) (by decide)
  exact ⟨h', law_begun hG k⟩
