set_option maxHeartbeats 4000000 in
set_option maxRecDepth 100000 in
theorem m_do_cloth {G : zT} {S : zS} {X : zXr} {out : Nat → Int64} {s : (Nat → Int32)} {past : (Nat → Int32)} {aside : (Nat → Int32)} {pasts : Nat} {txt : (Nat → Int32)} {typed : Nat} {thrown : Int32} {line : (Nat → Int32)} {need : (Nat → Int32)} {left : (Nat → Int32)} {slits : Nat} {slB : (Nat → Int32)} {slF : (Nat → Int32)} {slT : (Nat → Int32)} {at9 : Nat} {got : (Nat → Int32)} {ans : Int32} {worst : UInt32} (hG : zAl G = false) {c r w cnt lim : Nat} (hM : zMd s c r w cnt lim) (a : Nat) (hg0 : got 0 = nI a) (b : Nat) (hg1 : got 1 = nI b) (hok : (zFr (nI 1) (nI a) (nI 20) && zFr (nI 1) (nI b) (nI 16)) = true) : zRun G mX10_does 0 0 [.ref 114] (zHp S X (s, past, aside, pasts, txt, typed, thrown, line, need, left, slits, slB, slF, slT, at9, 3554952, got, ans, worst) out) (.inr (some (.int (nI 0)))) (zHp S X ((rCl s a b), past, aside, pasts, txt, typed, thrown, line, need, left, slits, slB, slF, slT, at9, 3554952, got, (nI w), worst) out) := by
  have hM9 := hM
  refine zRun_of (by decide +kernel) rfl rfl (Nat.le_of_ble_eq_true rfl) ?_
  suffices hs : ∀ (o9 : zO) (h9 : zH), (Sum.inr (some (.int (nI 0))) : zO) = o9 → (zHp S X ((rCl s a b), past, aside, pasts, txt, typed, thrown, line, need, left, slits, slB, slF, slT, at9, 3554952, got, (nI w), worst) out) = h9 → zPW G mX10_does 0 0 o9 h9 0 0 0 [(0, .ref 114)] [] (zHp S X (s, past, aside, pasts, txt, typed, thrown, line, need, left, slits, slB, slF, slT, at9, 3554952, got, ans, worst) out) from hs _ _ rfl rfl
  intro o9 h9 ho9 hh9
  refine z_aload_n 0 dX10_does_0 rfl rfl ?_
  refine z_get (v := .int 3554952) 15 zgo_114 rfl inX10 (by decide) zw_1193 rfl rfl dX10_does_1 ?_
  refine z_lookup (off := 68) (tgt := 72) dX10_does_4 (by decide) (by decide) (by decide) ?_
  refine z_aload_n 0 dX10_does_72 rfl rfl ?_
  refine z_aload_n 0 dX10_does_73 rfl rfl ?_
  refine z_get (v := .ref 125) 16 zgo_114 rfl inX10 (by decide) zw_1194 rfl rfl dX10_does_74 ?_
  refine z_iconst (v := nI 0) dX10_does_77 (by decide) ?_
  refine z_ialdN (f := got) (n := 5) (j := 0) zga_125 (by omega) (by decide) dX10_does_78 ?_
  refine z_top (v2 := .int (nI a)) (by rw [hg0]) ?_
  refine z_aload_n 0 dX10_does_79 rfl rfl ?_
  refine z_get (v := .ref 125) 16 zgo_114 rfl inX10 (by decide) zw_1194 rfl rfl dX10_does_80 ?_
  refine z_iconst (v := nI 1) dX10_does_83 (by decide) ?_
  refine z_ialdN (f := got) (n := 5) (j := 1) zga_125 (by omega) (by decide) dX10_does_84 ?_
  refine z_top (v2 := .int (nI b)) (by rw [hg1]) ?_
  refine z_callV (N := mX10_cloths) 2 [.int (nI a), .int (nI b)] [] lX10_cloths ⟨zw_1248, zw_1250, zw_44⟩ rfl zgo_114 rfl rfl (Nat.le_of_ble_eq_true rfl) (by decide) ⟨zlt, zlt⟩ ⟨Nat.zero_le _, Nat.zero_le _⟩ zal (m_cloths hG hM9 a b hok) dX10_does_85 ?_
  exact z_iret rfl dX10_does_88 (zo_i ho9 (by rfl)) (zo_h hh9 (by rfl)) (Nat.zero_le _) (Nat.zero_le _)

set_option maxHeartbeats 4000000 in
set_option maxRecDepth 100000 in
theorem m_do_cloth_1 {G : zT} {S : zS} {X : zXr} {out : Nat → Int64} {s : (Nat → Int32)} {past : (Nat → Int32)} {aside : (Nat → Int32)} {pasts : Nat} {txt : (Nat → Int32)} {typed : Nat} {thrown : Int32} {line : (Nat → Int32)} {need : (Nat → Int32)} {left : (Nat → Int32)} {slits : Nat} {slB : (Nat → Int32)} {slF : (Nat → Int32)} {slT : (Nat → Int32)} {at9 : Nat} {got : (Nat → Int32)} {ans : Int32} {worst : UInt32} (hG : zAl G = false) (hok : (zFr (nI 1) (got 0) (nI 20) && zFr (nI 1) (got 1) (nI 16)) = false) : zRun G mX10_does 0 0 [.ref 114] (zHp S X (s, past, aside, pasts, txt, typed, thrown, line, need, left, slits, slB, slF, slT, at9, 3554952, got, ans, worst) out) (.inr (some (.int (nI 1)))) (zHp S X (s, past, aside, pasts, txt, typed, thrown, line, need, left, slits, slB, slF, slT, at9, 3554952, got, ans, worst) out) := by
  refine zRun_of (by decide +kernel) rfl rfl (Nat.le_of_ble_eq_true rfl) ?_
  suffices hs : ∀ (o9 : zO) (h9 : zH), (Sum.inr (some (.int (nI 1))) : zO) = o9 → (zHp S X (s, past, aside, pasts, txt, typed, thrown, line, need, left, slits, slB, slF, slT, at9, 3554952, got, ans, worst) out) = h9 → zPW G mX10_does 0 0 o9 h9 0 0 0 [(0, .ref 114)] [] (zHp S X (s, past, aside, pasts, txt, typed, thrown, line, need, left, slits, slB, slF, slT, at9, 3554952, got, ans, worst) out) from hs _ _ rfl rfl
  intro o9 h9 ho9 hh9
  refine z_aload_n 0 dX10_does_0 rfl rfl ?_
  refine z_get (v := .int 3554952) 15 zgo_114 rfl inX10 (by decide) zw_1193 rfl rfl dX10_does_1 ?_
  refine z_lookup (off := 68) (tgt := 72) dX10_does_4 (by decide) (by decide) (by decide) ?_
  refine z_aload_n 0 dX10_does_72 rfl rfl ?_
  refine z_aload_n 0 dX10_does_73 rfl rfl ?_
  refine z_get (v := .ref 125) 16 zgo_114 rfl inX10 (by decide) zw_1194 rfl rfl dX10_does_74 ?_
  refine z_iconst (v := nI 0) dX10_does_77 (by decide) ?_
  refine z_ialdN (f := got) (n := 5) (j := 0) zga_125 (by omega) (by decide) dX10_does_78 ?_
  refine z_aload_n 0 dX10_does_79 rfl rfl ?_
  refine z_get (v := .ref 125) 16 zgo_114 rfl inX10 (by decide) zw_1194 rfl rfl dX10_does_80 ?_
  refine z_iconst (v := nI 1) dX10_does_83 (by decide) ?_
  refine z_ialdN (f := got) (n := 5) (j := 1) zga_125 (by omega) (by decide) dX10_does_84 ?_
  refine z_callV (N := mX10_cloths) 2 [.int (got 0), .int (got 1)] [] lX10_cloths ⟨zw_1248, zw_1250, zw_44⟩ rfl zgo_114 rfl rfl (Nat.le_of_ble_eq_true rfl) (by decide) ⟨zlt, zlt⟩ ⟨Nat.zero_le _, Nat.zero_le _⟩ (fun _ => rfl) (m_cloths_x hG (got 0) (got 1) hok) dX10_does_85 ?_
  exact z_iret rfl dX10_does_88 (zo_i ho9 (by rfl)) (zo_h hh9 (by rfl)) (Nat.zero_le _) (Nat.zero_le _)

set_option maxHeartbeats 4000000 in
set_option maxRecDepth 100000 in
theorem m_do_slip {G : zT} {S : zS} {X : zXr} {out : Nat → Int64} {s : (Nat → Int32)} {past : (Nat → Int32)} {aside : (Nat → Int32)} {pasts : Nat} {txt : (Nat → Int32)} {typed : Nat} {thrown : Int32} {line : (Nat → Int32)} {need : (Nat → Int32)} {left : (Nat → Int32)} {slits : Nat} {slB : (Nat → Int32)} {slF : (Nat → Int32)} {slT : (Nat → Int32)} {at9 : Nat} {got : (Nat → Int32)} {ans : Int32} {worst : UInt32} (hG : zAl G = false) {c r w cnt lim : Nat} (hM : zMd s c r w cnt lim) (b : Nat) (hg0 : got 0 = nI b) (hb : b < c) (hv : zFr (nI 0) (got 1) (nI 7) = true) : zRun G mX10_does 0 0 [.ref 114] (zHp S X (s, past, aside, pasts, txt, typed, thrown, line, need, left, slits, slB, slF, slT, at9, 635184, got, ans, worst) out) (.inr (some (.int (nI 0)))) (zHp S X ((upd s (71 + b) (got 1)), past, aside, pasts, txt, typed, thrown, line, need, left, slits, slB, slF, slT, at9, 635184, got, (nI (zCt (fun b9 => !decide (upd s (71 + b) (got 1) (71 + b9) < 0)) c)), worst) out) := by
  have hM9 := hM
  refine zRun_of (by decide +kernel) rfl rfl (Nat.le_of_ble_eq_true rfl) ?_
  suffices hs : ∀ (o9 : zO) (h9 : zH), (Sum.inr (some (.int (nI 0))) : zO) = o9 → (zHp S X ((upd s (71 + b) (got 1)), past, aside, pasts, txt, typed, thrown, line, need, left, slits, slB, slF, slT, at9, 635184, got, (nI (zCt (fun b9 => !decide (upd s (71 + b) (got 1) (71 + b9) < 0)) c)), worst) out) = h9 → zPW G mX10_does 0 0 o9 h9 0 0 0 [(0, .ref 114)] [] (zHp S X (s, past, aside, pasts, txt, typed, thrown, line, need, left, slits, slB, slF, slT, at9, 635184, got, ans, worst) out) from hs _ _ rfl rfl
  intro o9 h9 ho9 hh9
  refine z_aload_n 0 dX10_does_0 rfl rfl ?_
  refine z_get (v := .int 635184) 15 zgo_114 rfl inX10 (by decide) zw_1193 rfl rfl dX10_does_1 ?_
  refine z_lookup (off := 85) (tgt := 89) dX10_does_4 (by decide) (by decide) (by decide) ?_
  refine z_aload_n 0 dX10_does_89 rfl rfl ?_
  refine z_aload_n 0 dX10_does_90 rfl rfl ?_
  refine z_get (v := .ref 125) 16 zgo_114 rfl inX10 (by decide) zw_1194 rfl rfl dX10_does_91 ?_
  refine z_iconst (v := nI 0) dX10_does_94 (by decide) ?_
  refine z_ialdN (f := got) (n := 5) (j := 0) zga_125 (by omega) (by decide) dX10_does_95 ?_
  refine z_top (v2 := .int (nI b)) (by rw [hg0]) ?_
  refine z_aload_n 0 dX10_does_96 rfl rfl ?_
  refine z_get (v := .ref 125) 16 zgo_114 rfl inX10 (by decide) zw_1194 rfl rfl dX10_does_97 ?_
  refine z_iconst (v := nI 1) dX10_does_100 (by decide) ?_
  refine z_ialdN (f := got) (n := 5) (j := 1) zga_125 (by omega) (by decide) dX10_does_101 ?_
  refine z_callV (N := mX10_plants) 2 [.int (nI b), .int (got 1)] [] lX10_plants ⟨zw_1336, zw_1338, zw_58⟩ rfl zgo_114 rfl rfl (Nat.le_of_ble_eq_true rfl) (by decide) ⟨zlt, zlt⟩ ⟨Nat.zero_le _, Nat.zero_le _⟩ zal (m_plants hG hM9 b (got 1) hb hv) dX10_does_102 ?_
  exact z_iret rfl dX10_does_105 (zo_i ho9 (by rfl)) (zo_h hh9 (by rfl)) (Nat.zero_le _) (Nat.zero_le _)

set_option maxHeartbeats 4000000 in
set_option maxRecDepth 100000 in
theorem m_do_slip_1 {G : zT} {S : zS} {X : zXr} {out : Nat → Int64} {s : (Nat → Int32)} {past : (Nat → Int32)} {aside : (Nat → Int32)} {pasts : Nat} {txt : (Nat → Int32)} {typed : Nat} {thrown : Int32} {line : (Nat → Int32)} {need : (Nat → Int32)} {left : (Nat → Int32)} {slits : Nat} {slB : (Nat → Int32)} {slF : (Nat → Int32)} {slT : (Nat → Int32)} {at9 : Nat} {got : (Nat → Int32)} {ans : Int32} {worst : UInt32} (hG : zAl G = false) {c r w cnt lim : Nat} (hM : zMd s c r w cnt lim) (hb : zIn (got 0) (nI c) = false) : zRun G mX10_does 0 0 [.ref 114] (zHp S X (s, past, aside, pasts, txt, typed, thrown, line, need, left, slits, slB, slF, slT, at9, 635184, got, ans, worst) out) (.inr (some (.int (nI 1)))) (zHp S X (s, past, aside, pasts, txt, typed, thrown, line, need, left, slits, slB, slF, slT, at9, 635184, got, ans, worst) out) := by
  have hM9 := hM
  refine zRun_of (by decide +kernel) rfl rfl (Nat.le_of_ble_eq_true rfl) ?_
  suffices hs : ∀ (o9 : zO) (h9 : zH), (Sum.inr (some (.int (nI 1))) : zO) = o9 → (zHp S X (s, past, aside, pasts, txt, typed, thrown, line, need, left, slits, slB, slF, slT, at9, 635184, got, ans, worst) out) = h9 → zPW G mX10_does 0 0 o9 h9 0 0 0 [(0, .ref 114)] [] (zHp S X (s, past, aside, pasts, txt, typed, thrown, line, need, left, slits, slB, slF, slT, at9, 635184, got, ans, worst) out) from hs _ _ rfl rfl
  intro o9 h9 ho9 hh9
  refine z_aload_n 0 dX10_does_0 rfl rfl ?_
  refine z_get (v := .int 635184) 15 zgo_114 rfl inX10 (by decide) zw_1193 rfl rfl dX10_does_1 ?_
  refine z_lookup (off := 85) (tgt := 89) dX10_does_4 (by decide) (by decide) (by decide) ?_
  refine z_aload_n 0 dX10_does_89 rfl rfl ?_
  refine z_aload_n 0 dX10_does_90 rfl rfl ?_
  refine z_get (v := .ref 125) 16 zgo_114 rfl inX10 (by decide) zw_1194 rfl rfl dX10_does_91 ?_
  refine z_iconst (v := nI 0) dX10_does_94 (by decide) ?_
  refine z_ialdN (f := got) (n := 5) (j := 0) zga_125 (by omega) (by decide) dX10_does_95 ?_
  refine z_aload_n 0 dX10_does_96 rfl rfl ?_
  refine z_get (v := .ref 125) 16 zgo_114 rfl inX10 (by decide) zw_1194 rfl rfl dX10_does_97 ?_
  refine z_iconst (v := nI 1) dX10_does_100 (by decide) ?_
  refine z_ialdN (f := got) (n := 5) (j := 1) zga_125 (by omega) (by decide) dX10_does_101 ?_
  refine z_callV (N := mX10_plants) 2 [.int (got 0), .int (got 1)] [] lX10_plants ⟨zw_1336, zw_1338, zw_58⟩ rfl zgo_114 rfl rfl (Nat.le_of_ble_eq_true rfl) (by decide) ⟨zlt, zlt⟩ ⟨Nat.zero_le _, Nat.zero_le _⟩ (fun _ => rfl) (m_plants_1 hG hM9 (got 0) (got 1) hb) dX10_does_102 ?_
  exact z_iret rfl dX10_does_105 (zo_i ho9 (by rfl)) (zo_h hh9 (by rfl)) (Nat.zero_le _) (Nat.zero_le _)

set_option maxHeartbeats 4000000 in
set_option maxRecDepth 100000 in
theorem m_do_slip_2 {G : zT} {S : zS} {X : zXr} {out : Nat → Int64} {s : (Nat → Int32)} {past : (Nat → Int32)} {aside : (Nat → Int32)} {pasts : Nat} {txt : (Nat → Int32)} {typed : Nat} {thrown : Int32} {line : (Nat → Int32)} {need : (Nat → Int32)} {left : (Nat → Int32)} {slits : Nat} {slB : (Nat → Int32)} {slF : (Nat → Int32)} {slT : (Nat → Int32)} {at9 : Nat} {got : (Nat → Int32)} {ans : Int32} {worst : UInt32} (hG : zAl G = false) {c r w cnt lim : Nat} (hM : zMd s c r w cnt lim) (hb : zIn (got 0) (nI c) = true) (hv : zFr (nI 0) (got 1) (nI 7) = false) : zRun G mX10_does 0 0 [.ref 114] (zHp S X (s, past, aside, pasts, txt, typed, thrown, line, need, left, slits, slB, slF, slT, at9, 635184, got, ans, worst) out) (.inr (some (.int (nI 2)))) (zHp S X (s, past, aside, pasts, txt, typed, thrown, line, need, left, slits, slB, slF, slT, at9, 635184, got, ans, worst) out) := by
  have hM9 := hM
  refine zRun_of (by decide +kernel) rfl rfl (Nat.le_of_ble_eq_true rfl) ?_
  suffices hs : ∀ (o9 : zO) (h9 : zH), (Sum.inr (some (.int (nI 2))) : zO) = o9 → (zHp S X (s, past, aside, pasts, txt, typed, thrown, line, need, left, slits, slB, slF, slT, at9, 635184, got, ans, worst) out) = h9 → zPW G mX10_does 0 0 o9 h9 0 0 0 [(0, .ref 114)] [] (zHp S X (s, past, aside, pasts, txt, typed, thrown, line, need, left, slits, slB, slF, slT, at9, 635184, got, ans, worst) out) from hs _ _ rfl rfl
  intro o9 h9 ho9 hh9
  refine z_aload_n 0 dX10_does_0 rfl rfl ?_
  refine z_get (v := .int 635184) 15 zgo_114 rfl inX10 (by decide) zw_1193 rfl rfl dX10_does_1 ?_
  refine z_lookup (off := 85) (tgt := 89) dX10_does_4 (by decide) (by decide) (by decide) ?_
  refine z_aload_n 0 dX10_does_89 rfl rfl ?_
  refine z_aload_n 0 dX10_does_90 rfl rfl ?_
  refine z_get (v := .ref 125) 16 zgo_114 rfl inX10 (by decide) zw_1194 rfl rfl dX10_does_91 ?_
  refine z_iconst (v := nI 0) dX10_does_94 (by decide) ?_
  refine z_ialdN (f := got) (n := 5) (j := 0) zga_125 (by omega) (by decide) dX10_does_95 ?_
  refine z_aload_n 0 dX10_does_96 rfl rfl ?_
  refine z_get (v := .ref 125) 16 zgo_114 rfl inX10 (by decide) zw_1194 rfl rfl dX10_does_97 ?_
  refine z_iconst (v := nI 1) dX10_does_100 (by decide) ?_
  refine z_ialdN (f := got) (n := 5) (j := 1) zga_125 (by omega) (by decide) dX10_does_101 ?_
  refine z_callV (N := mX10_plants) 2 [.int (got 0), .int (got 1)] [] lX10_plants ⟨zw_1336, zw_1338, zw_58⟩ rfl zgo_114 rfl rfl (Nat.le_of_ble_eq_true rfl) (by decide) ⟨zlt, zlt⟩ ⟨Nat.zero_le _, Nat.zero_le _⟩ (fun _ => rfl) (m_plants_2 hG hM9 (got 0) (got 1) hb hv) dX10_does_102 ?_
  exact z_iret rfl dX10_does_105 (zo_i ho9 (by rfl)) (zo_h hh9 (by rfl)) (Nat.zero_le _) (Nat.zero_le _)

set_option maxHeartbeats 4000000 in
set_option maxRecDepth 100000 in
theorem m_do_fill {G : zT} {S : zS} {X : zXr} {out : Nat → Int64} {s : (Nat → Int32)} {past : (Nat → Int32)} {aside : (Nat → Int32)} {pasts : Nat} {txt : (Nat → Int32)} {typed : Nat} {thrown : Int32} {line : (Nat → Int32)} {need : (Nat → Int32)} {left : (Nat → Int32)} {slits : Nat} {slB : (Nat → Int32)} {slF : (Nat → Int32)} {slT : (Nat → Int32)} {at9 : Nat} {got : (Nat → Int32)} {ans : Int32} {worst : UInt32} (hG : zAl G = false) {c r w cnt lim : Nat} (hM : zMd s c r w cnt lim) (x : Nat) (hg0 : got 0 = nI x) (y : Nat) (hg1 : got 1 = nI y) (u : Nat) (hg2 : got 2 = nI u) (z : Nat) (hg3 : got 3 = nI z) (hxu : x ≤ u) (hu : u < c) (hyz : y ≤ z) (hz : z < r) (hk : zFr (nI 0) (got 4) (nI 7) = true) : zRun G mX10_does 0 0 [.ref 114] (zHp S X (s, past, aside, pasts, txt, typed, thrown, line, need, left, slits, slB, slF, slT, at9, 206220, got, ans, worst) out) (.inr (some (.int (nI 0)))) (zHp S X ((rFl x y u (got 4) (z + 1 - y) (s, 0)).1, past, aside, pasts, txt, typed, thrown, line, need, left, slits, slB, slF, slT, at9, 206220, got, (nI (rFl x y u (got 4) (z + 1 - y) (s, 0)).2), worst) out) := by
  have hM9 := hM
  refine zRun_of (by decide +kernel) rfl rfl (Nat.le_of_ble_eq_true rfl) ?_
  suffices hs : ∀ (o9 : zO) (h9 : zH), (Sum.inr (some (.int (nI 0))) : zO) = o9 → (zHp S X ((rFl x y u (got 4) (z + 1 - y) (s, 0)).1, past, aside, pasts, txt, typed, thrown, line, need, left, slits, slB, slF, slT, at9, 206220, got, (nI (rFl x y u (got 4) (z + 1 - y) (s, 0)).2), worst) out) = h9 → zPW G mX10_does 0 0 o9 h9 0 0 0 [(0, .ref 114)] [] (zHp S X (s, past, aside, pasts, txt, typed, thrown, line, need, left, slits, slB, slF, slT, at9, 206220, got, ans, worst) out) from hs _ _ rfl rfl
  intro o9 h9 ho9 hh9
  refine z_aload_n 0 dX10_does_0 rfl rfl ?_
  refine z_get (v := .int 206220) 15 zgo_114 rfl inX10 (by decide) zw_1193 rfl rfl dX10_does_1 ?_
  refine z_lookup (off := 102) (tgt := 106) dX10_does_4 (by decide) (by decide) (by decide) ?_
  refine z_aload_n 0 dX10_does_106 rfl rfl ?_
  refine z_aload_n 0 dX10_does_107 rfl rfl ?_
  refine z_get (v := .ref 125) 16 zgo_114 rfl inX10 (by decide) zw_1194 rfl rfl dX10_does_108 ?_
  refine z_iconst (v := nI 0) dX10_does_111 (by decide) ?_
  refine z_ialdN (f := got) (n := 5) (j := 0) zga_125 (by omega) (by decide) dX10_does_112 ?_
  refine z_top (v2 := .int (nI x)) (by rw [hg0]) ?_
  refine z_aload_n 0 dX10_does_113 rfl rfl ?_
  refine z_get (v := .ref 125) 16 zgo_114 rfl inX10 (by decide) zw_1194 rfl rfl dX10_does_114 ?_
  refine z_iconst (v := nI 1) dX10_does_117 (by decide) ?_
  refine z_ialdN (f := got) (n := 5) (j := 1) zga_125 (by omega) (by decide) dX10_does_118 ?_
  refine z_top (v2 := .int (nI y)) (by rw [hg1]) ?_
  refine z_aload_n 0 dX10_does_119 rfl rfl ?_
  refine z_get (v := .ref 125) 16 zgo_114 rfl inX10 (by decide) zw_1194 rfl rfl dX10_does_120 ?_
  refine z_iconst (v := nI 2) dX10_does_123 (by decide) ?_
  refine z_ialdN (f := got) (n := 5) (j := 2) zga_125 (by omega) (by decide) dX10_does_124 ?_
  refine z_top (v2 := .int (nI u)) (by rw [hg2]) ?_
  refine z_aload_n 0 dX10_does_125 rfl rfl ?_
  refine z_get (v := .ref 125) 16 zgo_114 rfl inX10 (by decide) zw_1194 rfl rfl dX10_does_126 ?_
  refine z_iconst (v := nI 3) dX10_does_129 (by decide) ?_
  refine z_ialdN (f := got) (n := 5) (j := 3) zga_125 (by omega) (by decide) dX10_does_130 ?_
  refine z_top (v2 := .int (nI z)) (by rw [hg3]) ?_
  refine z_aload_n 0 dX10_does_131 rfl rfl ?_
  refine z_get (v := .ref 125) 16 zgo_114 rfl inX10 (by decide) zw_1194 rfl rfl dX10_does_132 ?_
  refine z_iconst (v := nI 4) dX10_does_135 (by decide) ?_
  refine z_ialdN (f := got) (n := 5) (j := 4) zga_125 (by omega) (by decide) dX10_does_136 ?_
  refine z_callV (N := mX10_fills) 5 [.int (nI x), .int (nI y), .int (nI u), .int (nI z), .int (got 4)] [] lX10_fills ⟨zw_1275, zw_1277, zw_49⟩ rfl zgo_114 rfl rfl (Nat.le_of_ble_eq_true rfl) (by decide) ⟨zlt, zlt⟩ ⟨Nat.zero_le _, Nat.zero_le _⟩ zal (m_fills hG hM9 x y u z (got 4) hxu hu hyz hz hk) dX10_does_137 ?_
  exact z_iret rfl dX10_does_140 (zo_i ho9 (by rfl)) (zo_h hh9 (by rfl)) (Nat.zero_le _) (Nat.zero_le _)

set_option maxHeartbeats 4000000 in
set_option maxRecDepth 100000 in
theorem m_do_fill_1 {G : zT} {S : zS} {X : zXr} {out : Nat → Int64} {s : (Nat → Int32)} {past : (Nat → Int32)} {aside : (Nat → Int32)} {pasts : Nat} {txt : (Nat → Int32)} {typed : Nat} {thrown : Int32} {line : (Nat → Int32)} {need : (Nat → Int32)} {left : (Nat → Int32)} {slits : Nat} {slB : (Nat → Int32)} {slF : (Nat → Int32)} {slT : (Nat → Int32)} {at9 : Nat} {got : (Nat → Int32)} {ans : Int32} {worst : UInt32} (hG : zAl G = false) {c r w cnt lim : Nat} (hM : zMd s c r w cnt lim) (hok : ((zIn (got 0) (nI c) && zIn (got 1) (nI r)) && (zIn (got 2) (nI c) && zIn (got 3) (nI r))) = false) : zRun G mX10_does 0 0 [.ref 114] (zHp S X (s, past, aside, pasts, txt, typed, thrown, line, need, left, slits, slB, slF, slT, at9, 206220, got, ans, worst) out) (.inr (some (.int (nI 1)))) (zHp S X (s, past, aside, pasts, txt, typed, thrown, line, need, left, slits, slB, slF, slT, at9, 206220, got, ans, worst) out) := by
  have hM9 := hM
  refine zRun_of (by decide +kernel) rfl rfl (Nat.le_of_ble_eq_true rfl) ?_
  suffices hs : ∀ (o9 : zO) (h9 : zH), (Sum.inr (some (.int (nI 1))) : zO) = o9 → (zHp S X (s, past, aside, pasts, txt, typed, thrown, line, need, left, slits, slB, slF, slT, at9, 206220, got, ans, worst) out) = h9 → zPW G mX10_does 0 0 o9 h9 0 0 0 [(0, .ref 114)] [] (zHp S X (s, past, aside, pasts, txt, typed, thrown, line, need, left, slits, slB, slF, slT, at9, 206220, got, ans, worst) out) from hs _ _ rfl rfl
  intro o9 h9 ho9 hh9
  refine z_aload_n 0 dX10_does_0 rfl rfl ?_
  refine z_get (v := .int 206220) 15 zgo_114 rfl inX10 (by decide) zw_1193 rfl rfl dX10_does_1 ?_
  refine z_lookup (off := 102) (tgt := 106) dX10_does_4 (by decide) (by decide) (by decide) ?_
  refine z_aload_n 0 dX10_does_106 rfl rfl ?_
  refine z_aload_n 0 dX10_does_107 rfl rfl ?_
  refine z_get (v := .ref 125) 16 zgo_114 rfl inX10 (by decide) zw_1194 rfl rfl dX10_does_108 ?_
  refine z_iconst (v := nI 0) dX10_does_111 (by decide) ?_
  refine z_ialdN (f := got) (n := 5) (j := 0) zga_125 (by omega) (by decide) dX10_does_112 ?_
  refine z_aload_n 0 dX10_does_113 rfl rfl ?_
  refine z_get (v := .ref 125) 16 zgo_114 rfl inX10 (by decide) zw_1194 rfl rfl dX10_does_114 ?_
  refine z_iconst (v := nI 1) dX10_does_117 (by decide) ?_
  refine z_ialdN (f := got) (n := 5) (j := 1) zga_125 (by omega) (by decide) dX10_does_118 ?_
  refine z_aload_n 0 dX10_does_119 rfl rfl ?_
  refine z_get (v := .ref 125) 16 zgo_114 rfl inX10 (by decide) zw_1194 rfl rfl dX10_does_120 ?_
  refine z_iconst (v := nI 2) dX10_does_123 (by decide) ?_
  refine z_ialdN (f := got) (n := 5) (j := 2) zga_125 (by omega) (by decide) dX10_does_124 ?_
  refine z_aload_n 0 dX10_does_125 rfl rfl ?_
  refine z_get (v := .ref 125) 16 zgo_114 rfl inX10 (by decide) zw_1194 rfl rfl dX10_does_126 ?_
  refine z_iconst (v := nI 3) dX10_does_129 (by decide) ?_
  refine z_ialdN (f := got) (n := 5) (j := 3) zga_125 (by omega) (by decide) dX10_does_130 ?_
  refine z_aload_n 0 dX10_does_131 rfl rfl ?_
  refine z_get (v := .ref 125) 16 zgo_114 rfl inX10 (by decide) zw_1194 rfl rfl dX10_does_132 ?_
  refine z_iconst (v := nI 4) dX10_does_135 (by decide) ?_
  refine z_ialdN (f := got) (n := 5) (j := 4) zga_125 (by omega) (by decide) dX10_does_136 ?_
  refine z_callV (N := mX10_fills) 5 [.int (got 0), .int (got 1), .int (got 2), .int (got 3), .int (got 4)] [] lX10_fills ⟨zw_1275, zw_1277, zw_49⟩ rfl zgo_114 rfl rfl (Nat.le_of_ble_eq_true rfl) (by decide) ⟨zlt, zlt⟩ ⟨Nat.zero_le _, Nat.zero_le _⟩ (fun _ => rfl) (m_fills_1 hG hM9 (got 0) (got 1) (got 2) (got 3) (got 4) hok) dX10_does_137 ?_
  exact z_iret rfl dX10_does_140 (zo_i ho9 (by rfl)) (zo_h hh9 (by rfl)) (Nat.zero_le _) (Nat.zero_le _)

set_option maxHeartbeats 4000000 in
set_option maxRecDepth 100000 in
theorem m_do_fill_2 {G : zT} {S : zS} {X : zXr} {out : Nat → Int64} {s : (Nat → Int32)} {past : (Nat → Int32)} {aside : (Nat → Int32)} {pasts : Nat} {txt : (Nat → Int32)} {typed : Nat} {thrown : Int32} {line : (Nat → Int32)} {need : (Nat → Int32)} {left : (Nat → Int32)} {slits : Nat} {slB : (Nat → Int32)} {slF : (Nat → Int32)} {slT : (Nat → Int32)} {at9 : Nat} {got : (Nat → Int32)} {ans : Int32} {worst : UInt32} (hG : zAl G = false) {c r w cnt lim : Nat} (hM : zMd s c r w cnt lim) (hok : ((zIn (got 0) (nI c) && zIn (got 1) (nI r)) && (zIn (got 2) (nI c) && zIn (got 3) (nI r))) = true) (hx2 : got 2 < got 0 ∨ got 3 < got 1 ∨ zFr (nI 0) (got 4) (nI 7) = false) : zRun G mX10_does 0 0 [.ref 114] (zHp S X (s, past, aside, pasts, txt, typed, thrown, line, need, left, slits, slB, slF, slT, at9, 206220, got, ans, worst) out) (.inr (some (.int (nI 2)))) (zHp S X (s, past, aside, pasts, txt, typed, thrown, line, need, left, slits, slB, slF, slT, at9, 206220, got, ans, worst) out) := by
  have hM9 := hM
  refine zRun_of (by decide +kernel) rfl rfl (Nat.le_of_ble_eq_true rfl) ?_
  suffices hs : ∀ (o9 : zO) (h9 : zH), (Sum.inr (some (.int (nI 2))) : zO) = o9 → (zHp S X (s, past, aside, pasts, txt, typed, thrown, line, need, left, slits, slB, slF, slT, at9, 206220, got, ans, worst) out) = h9 → zPW G mX10_does 0 0 o9 h9 0 0 0 [(0, .ref 114)] [] (zHp S X (s, past, aside, pasts, txt, typed, thrown, line, need, left, slits, slB, slF, slT, at9, 206220, got, ans, worst) out) from hs _ _ rfl rfl
  intro o9 h9 ho9 hh9
  refine z_aload_n 0 dX10_does_0 rfl rfl ?_
  refine z_get (v := .int 206220) 15 zgo_114 rfl inX10 (by decide) zw_1193 rfl rfl dX10_does_1 ?_
  refine z_lookup (off := 102) (tgt := 106) dX10_does_4 (by decide) (by decide) (by decide) ?_
  refine z_aload_n 0 dX10_does_106 rfl rfl ?_
  refine z_aload_n 0 dX10_does_107 rfl rfl ?_
  refine z_get (v := .ref 125) 16 zgo_114 rfl inX10 (by decide) zw_1194 rfl rfl dX10_does_108 ?_
  refine z_iconst (v := nI 0) dX10_does_111 (by decide) ?_
  refine z_ialdN (f := got) (n := 5) (j := 0) zga_125 (by omega) (by decide) dX10_does_112 ?_
  refine z_aload_n 0 dX10_does_113 rfl rfl ?_
  refine z_get (v := .ref 125) 16 zgo_114 rfl inX10 (by decide) zw_1194 rfl rfl dX10_does_114 ?_
  refine z_iconst (v := nI 1) dX10_does_117 (by decide) ?_
  refine z_ialdN (f := got) (n := 5) (j := 1) zga_125 (by omega) (by decide) dX10_does_118 ?_
  refine z_aload_n 0 dX10_does_119 rfl rfl ?_
  refine z_get (v := .ref 125) 16 zgo_114 rfl inX10 (by decide) zw_1194 rfl rfl dX10_does_120 ?_
  refine z_iconst (v := nI 2) dX10_does_123 (by decide) ?_
  refine z_ialdN (f := got) (n := 5) (j := 2) zga_125 (by omega) (by decide) dX10_does_124 ?_
  refine z_aload_n 0 dX10_does_125 rfl rfl ?_
  refine z_get (v := .ref 125) 16 zgo_114 rfl inX10 (by decide) zw_1194 rfl rfl dX10_does_126 ?_
  refine z_iconst (v := nI 3) dX10_does_129 (by decide) ?_
  refine z_ialdN (f := got) (n := 5) (j := 3) zga_125 (by omega) (by decide) dX10_does_130 ?_
  refine z_aload_n 0 dX10_does_131 rfl rfl ?_
  refine z_get (v := .ref 125) 16 zgo_114 rfl inX10 (by decide) zw_1194 rfl rfl dX10_does_132 ?_
  refine z_iconst (v := nI 4) dX10_does_135 (by decide) ?_
  refine z_ialdN (f := got) (n := 5) (j := 4) zga_125 (by omega) (by decide) dX10_does_136 ?_
  refine z_callV (N := mX10_fills) 5 [.int (got 0), .int (got 1), .int (got 2), .int (got 3), .int (got 4)] [] lX10_fills ⟨zw_1275, zw_1277, zw_49⟩ rfl zgo_114 rfl rfl (Nat.le_of_ble_eq_true rfl) (by decide) ⟨zlt, zlt⟩ ⟨Nat.zero_le _, Nat.zero_le _⟩ (fun _ => rfl) (m_fills_2 hG hM9 (got 0) (got 1) (got 2) (got 3) (got 4) hok hx2) dX10_does_137 ?_
  exact z_iret rfl dX10_does_140 (zo_i ho9 (by rfl)) (zo_h hh9 (by rfl)) (Nat.zero_le _) (Nat.zero_le _)

set_option maxHeartbeats 4000000 in
set_option maxRecDepth 100000 in
theorem m_do_lot {G : zT} {S : zS} {X : zXr} {out : Nat → Int64} {s : (Nat → Int32)} {past : (Nat → Int32)} {aside : (Nat → Int32)} {pasts : Nat} {txt : (Nat → Int32)} {typed : Nat} {thrown : Int32} {line : (Nat → Int32)} {need : (Nat → Int32)} {left : (Nat → Int32)} {slits : Nat} {slB : (Nat → Int32)} {slF : (Nat → Int32)} {slT : (Nat → Int32)} {at9 : Nat} {got : (Nat → Int32)} {ans : Int32} {worst : UInt32} (hG : zAl G = false) {c r w cnt lim : Nat} (hM : zMd s c r w cnt lim) (hf2 : zPos (FP.i2f (got 2))) (hok : (zFr (nI 0) (got 0) (nI 7) && (zFr (nI 1) (got 1) (nI 999) && rShd (FP.i2f (got 2)).toInt32)) = true) (hn16 : cnt < 16) : zRun G mX10_does 0 0 [.ref 114] (zHp S X (s, past, aside, pasts, txt, typed, thrown, line, need, left, slits, slB, slF, slT, at9, 12788, got, ans, worst) out) (.inr (some (.int (nI 0)))) (zHp S X ((rAd s cnt (got 0) (got 1) ((FP.i2f (got 2)).toInt32)), past, aside, pasts, txt, typed, thrown, line, need, left, slits, slB, slF, slT, at9, 12788, got, (nI cnt), worst) out) := by
  have hM9 := hM
  refine zRun_of (by decide +kernel) rfl rfl (Nat.le_of_ble_eq_true rfl) ?_
  suffices hs : ∀ (o9 : zO) (h9 : zH), (Sum.inr (some (.int (nI 0))) : zO) = o9 → (zHp S X ((rAd s cnt (got 0) (got 1) ((FP.i2f (got 2)).toInt32)), past, aside, pasts, txt, typed, thrown, line, need, left, slits, slB, slF, slT, at9, 12788, got, (nI cnt), worst) out) = h9 → zPW G mX10_does 0 0 o9 h9 0 0 0 [(0, .ref 114)] [] (zHp S X (s, past, aside, pasts, txt, typed, thrown, line, need, left, slits, slB, slF, slT, at9, 12788, got, ans, worst) out) from hs _ _ rfl rfl
  intro o9 h9 ho9 hh9
  refine z_aload_n 0 dX10_does_0 rfl rfl ?_
  refine z_get (v := .int 12788) 15 zgo_114 rfl inX10 (by decide) zw_1193 rfl rfl dX10_does_1 ?_
  refine z_lookup (off := 137) (tgt := 141) dX10_does_4 (by decide) (by decide) (by decide) ?_
  refine z_aload_n 0 dX10_does_141 rfl rfl ?_
  refine z_aload_n 0 dX10_does_142 rfl rfl ?_
  refine z_get (v := .ref 125) 16 zgo_114 rfl inX10 (by decide) zw_1194 rfl rfl dX10_does_143 ?_
  refine z_iconst (v := nI 0) dX10_does_146 (by decide) ?_
  refine z_ialdN (f := got) (n := 5) (j := 0) zga_125 (by omega) (by decide) dX10_does_147 ?_
  refine z_aload_n 0 dX10_does_148 rfl rfl ?_
  refine z_get (v := .ref 125) 16 zgo_114 rfl inX10 (by decide) zw_1194 rfl rfl dX10_does_149 ?_
  refine z_iconst (v := nI 1) dX10_does_152 (by decide) ?_
  refine z_ialdN (f := got) (n := 5) (j := 1) zga_125 (by omega) (by decide) dX10_does_153 ?_
  refine z_aload_n 0 dX10_does_154 rfl rfl ?_
  refine z_get (v := .ref 125) 16 zgo_114 rfl inX10 (by decide) zw_1194 rfl rfl dX10_does_155 ?_
  refine z_iconst (v := nI 2) dX10_does_158 (by decide) ?_
  refine z_ialdN (f := got) (n := 5) (j := 2) zga_125 (by omega) (by decide) dX10_does_159 ?_
  refine z_i2f dX10_does_160 ?_
  refine z_callSO (N := mJxf58ca_floatToIntBits_5c35a) 1 [.float (FP.i2f (got 2))] [.int (got 1), .int (got 0), .ref 114] lJxf58ca_floatToIntBits_5c35a ⟨zw_1168, zw_1169⟩ rfl rfl (Nat.le_of_ble_eq_true rfl) (by decide) ⟨zlt, zlt⟩ hG ⟨Nat.zero_le _, Nat.zero_le _⟩ (m_f2ib hG (FP.i2f (got 2)) hf2) dX10_does_161 ?_
  refine z_callV (N := mX10_adds) 3 [.int (got 0), .int (got 1), .int ((FP.i2f (got 2)).toInt32)] [] lX10_adds ⟨zw_1287, zw_1289, zw_51⟩ rfl zgo_114 rfl rfl (Nat.le_of_ble_eq_true rfl) (by decide) ⟨zlt, zlt⟩ ⟨Nat.zero_le _, Nat.zero_le _⟩ zal (m_adds hG hM9 (got 0) (got 1) ((FP.i2f (got 2)).toInt32) hok hn16) dX10_does_164 ?_
  exact z_iret rfl dX10_does_167 (zo_i ho9 (by rfl)) (zo_h hh9 (by rfl)) (Nat.zero_le _) (Nat.zero_le _)

set_option maxHeartbeats 4000000 in
set_option maxRecDepth 100000 in
theorem m_do_lot_1 {G : zT} {S : zS} {X : zXr} {out : Nat → Int64} {s : (Nat → Int32)} {past : (Nat → Int32)} {aside : (Nat → Int32)} {pasts : Nat} {txt : (Nat → Int32)} {typed : Nat} {thrown : Int32} {line : (Nat → Int32)} {need : (Nat → Int32)} {left : (Nat → Int32)} {slits : Nat} {slB : (Nat → Int32)} {slF : (Nat → Int32)} {slT : (Nat → Int32)} {at9 : Nat} {got : (Nat → Int32)} {ans : Int32} {worst : UInt32} (hG : zAl G = false) {c r w cnt lim : Nat} (hM : zMd s c r w cnt lim) (hf2 : zPos (FP.i2f (got 2))) (hok : (zFr (nI 0) (got 0) (nI 7) && (zFr (nI 1) (got 1) (nI 999) && rShd (FP.i2f (got 2)).toInt32)) = false) : zRun G mX10_does 0 0 [.ref 114] (zHp S X (s, past, aside, pasts, txt, typed, thrown, line, need, left, slits, slB, slF, slT, at9, 12788, got, ans, worst) out) (.inr (some (.int (nI 1)))) (zHp S X (s, past, aside, pasts, txt, typed, thrown, line, need, left, slits, slB, slF, slT, at9, 12788, got, ans, worst) out) := by
  have hM9 := hM
  refine zRun_of (by decide +kernel) rfl rfl (Nat.le_of_ble_eq_true rfl) ?_
  suffices hs : ∀ (o9 : zO) (h9 : zH), (Sum.inr (some (.int (nI 1))) : zO) = o9 → (zHp S X (s, past, aside, pasts, txt, typed, thrown, line, need, left, slits, slB, slF, slT, at9, 12788, got, ans, worst) out) = h9 → zPW G mX10_does 0 0 o9 h9 0 0 0 [(0, .ref 114)] [] (zHp S X (s, past, aside, pasts, txt, typed, thrown, line, need, left, slits, slB, slF, slT, at9, 12788, got, ans, worst) out) from hs _ _ rfl rfl
  intro o9 h9 ho9 hh9
  refine z_aload_n 0 dX10_does_0 rfl rfl ?_
  refine z_get (v := .int 12788) 15 zgo_114 rfl inX10 (by decide) zw_1193 rfl rfl dX10_does_1 ?_
  refine z_lookup (off := 137) (tgt := 141) dX10_does_4 (by decide) (by decide) (by decide) ?_
  refine z_aload_n 0 dX10_does_141 rfl rfl ?_
  refine z_aload_n 0 dX10_does_142 rfl rfl ?_
  refine z_get (v := .ref 125) 16 zgo_114 rfl inX10 (by decide) zw_1194 rfl rfl dX10_does_143 ?_
  refine z_iconst (v := nI 0) dX10_does_146 (by decide) ?_
  refine z_ialdN (f := got) (n := 5) (j := 0) zga_125 (by omega) (by decide) dX10_does_147 ?_
  refine z_aload_n 0 dX10_does_148 rfl rfl ?_
  refine z_get (v := .ref 125) 16 zgo_114 rfl inX10 (by decide) zw_1194 rfl rfl dX10_does_149 ?_
  refine z_iconst (v := nI 1) dX10_does_152 (by decide) ?_
  refine z_ialdN (f := got) (n := 5) (j := 1) zga_125 (by omega) (by decide) dX10_does_153 ?_
  refine z_aload_n 0 dX10_does_154 rfl rfl ?_
  refine z_get (v := .ref 125) 16 zgo_114 rfl inX10 (by decide) zw_1194 rfl rfl dX10_does_155 ?_
  refine z_iconst (v := nI 2) dX10_does_158 (by decide) ?_
  refine z_ialdN (f := got) (n := 5) (j := 2) zga_125 (by omega) (by decide) dX10_does_159 ?_
  refine z_i2f dX10_does_160 ?_
  refine z_callSO (N := mJxf58ca_floatToIntBits_5c35a) 1 [.float (FP.i2f (got 2))] [.int (got 1), .int (got 0), .ref 114] lJxf58ca_floatToIntBits_5c35a ⟨zw_1168, zw_1169⟩ rfl rfl (Nat.le_of_ble_eq_true rfl) (by decide) ⟨zlt, zlt⟩ hG ⟨Nat.zero_le _, Nat.zero_le _⟩ (m_f2ib hG (FP.i2f (got 2)) hf2) dX10_does_161 ?_
  refine z_callV (N := mX10_adds) 3 [.int (got 0), .int (got 1), .int ((FP.i2f (got 2)).toInt32)] [] lX10_adds ⟨zw_1287, zw_1289, zw_51⟩ rfl zgo_114 rfl rfl (Nat.le_of_ble_eq_true rfl) (by decide) ⟨zlt, zlt⟩ ⟨Nat.zero_le _, Nat.zero_le _⟩ (fun _ => rfl) (m_adds_1 hG hM9 (got 0) (got 1) ((FP.i2f (got 2)).toInt32) hok) dX10_does_164 ?_
  exact z_iret rfl dX10_does_167 (zo_i ho9 (by rfl)) (zo_h hh9 (by rfl)) (Nat.zero_le _) (Nat.zero_le _)

set_option maxHeartbeats 4000000 in
set_option maxRecDepth 100000 in
theorem m_do_lot_2 {G : zT} {S : zS} {X : zXr} {out : Nat → Int64} {s : (Nat → Int32)} {past : (Nat → Int32)} {aside : (Nat → Int32)} {pasts : Nat} {txt : (Nat → Int32)} {typed : Nat} {thrown : Int32} {line : (Nat → Int32)} {need : (Nat → Int32)} {left : (Nat → Int32)} {slits : Nat} {slB : (Nat → Int32)} {slF : (Nat → Int32)} {slT : (Nat → Int32)} {at9 : Nat} {got : (Nat → Int32)} {ans : Int32} {worst : UInt32} (hG : zAl G = false) {c r w cnt lim : Nat} (hM : zMd s c r w cnt lim) (hf2 : zPos (FP.i2f (got 2))) (hok : (zFr (nI 0) (got 0) (nI 7) && (zFr (nI 1) (got 1) (nI 999) && rShd (FP.i2f (got 2)).toInt32)) = true) (hn16 : cnt = 16) : zRun G mX10_does 0 0 [.ref 114] (zHp S X (s, past, aside, pasts, txt, typed, thrown, line, need, left, slits, slB, slF, slT, at9, 12788, got, ans, worst) out) (.inr (some (.int (nI 2)))) (zHp S X (s, past, aside, pasts, txt, typed, thrown, line, need, left, slits, slB, slF, slT, at9, 12788, got, ans, worst) out) := by
  have hM9 := hM
  refine zRun_of (by decide +kernel) rfl rfl (Nat.le_of_ble_eq_true rfl) ?_
  suffices hs : ∀ (o9 : zO) (h9 : zH), (Sum.inr (some (.int (nI 2))) : zO) = o9 → (zHp S X (s, past, aside, pasts, txt, typed, thrown, line, need, left, slits, slB, slF, slT, at9, 12788, got, ans, worst) out) = h9 → zPW G mX10_does 0 0 o9 h9 0 0 0 [(0, .ref 114)] [] (zHp S X (s, past, aside, pasts, txt, typed, thrown, line, need, left, slits, slB, slF, slT, at9, 12788, got, ans, worst) out) from hs _ _ rfl rfl
  intro o9 h9 ho9 hh9
  refine z_aload_n 0 dX10_does_0 rfl rfl ?_
  refine z_get (v := .int 12788) 15 zgo_114 rfl inX10 (by decide) zw_1193 rfl rfl dX10_does_1 ?_
  refine z_lookup (off := 137) (tgt := 141) dX10_does_4 (by decide) (by decide) (by decide) ?_
  refine z_aload_n 0 dX10_does_141 rfl rfl ?_
  refine z_aload_n 0 dX10_does_142 rfl rfl ?_
  refine z_get (v := .ref 125) 16 zgo_114 rfl inX10 (by decide) zw_1194 rfl rfl dX10_does_143 ?_
  refine z_iconst (v := nI 0) dX10_does_146 (by decide) ?_
  refine z_ialdN (f := got) (n := 5) (j := 0) zga_125 (by omega) (by decide) dX10_does_147 ?_
  refine z_aload_n 0 dX10_does_148 rfl rfl ?_
  refine z_get (v := .ref 125) 16 zgo_114 rfl inX10 (by decide) zw_1194 rfl rfl dX10_does_149 ?_
  refine z_iconst (v := nI 1) dX10_does_152 (by decide) ?_
  refine z_ialdN (f := got) (n := 5) (j := 1) zga_125 (by omega) (by decide) dX10_does_153 ?_
  refine z_aload_n 0 dX10_does_154 rfl rfl ?_
  refine z_get (v := .ref 125) 16 zgo_114 rfl inX10 (by decide) zw_1194 rfl rfl dX10_does_155 ?_
  refine z_iconst (v := nI 2) dX10_does_158 (by decide) ?_
  refine z_ialdN (f := got) (n := 5) (j := 2) zga_125 (by omega) (by decide) dX10_does_159 ?_
  refine z_i2f dX10_does_160 ?_
  refine z_callSO (N := mJxf58ca_floatToIntBits_5c35a) 1 [.float (FP.i2f (got 2))] [.int (got 1), .int (got 0), .ref 114] lJxf58ca_floatToIntBits_5c35a ⟨zw_1168, zw_1169⟩ rfl rfl (Nat.le_of_ble_eq_true rfl) (by decide) ⟨zlt, zlt⟩ hG ⟨Nat.zero_le _, Nat.zero_le _⟩ (m_f2ib hG (FP.i2f (got 2)) hf2) dX10_does_161 ?_
  refine z_callV (N := mX10_adds) 3 [.int (got 0), .int (got 1), .int ((FP.i2f (got 2)).toInt32)] [] lX10_adds ⟨zw_1287, zw_1289, zw_51⟩ rfl zgo_114 rfl rfl (Nat.le_of_ble_eq_true rfl) (by decide) ⟨zlt, zlt⟩ ⟨Nat.zero_le _, Nat.zero_le _⟩ (fun _ => rfl) (m_adds_2 hG hM9 (got 0) (got 1) ((FP.i2f (got 2)).toInt32) hok hn16) dX10_does_164 ?_
  exact z_iret rfl dX10_does_167 (zo_i ho9 (by rfl)) (zo_h hh9 (by rfl)) (Nat.zero_le _) (Nat.zero_le _)

set_option maxHeartbeats 4000000 in
set_option maxRecDepth 100000 in
theorem m_do_weave {G : zT} {S : zS} {X : zXr} {out : Nat → Int64} {s : (Nat → Int32)} {past : (Nat → Int32)} {aside : (Nat → Int32)} {pasts : Nat} {txt : (Nat → Int32)} {typed : Nat} {thrown : Int32} {line : (Nat → Int32)} {need : (Nat → Int32)} {left : (Nat → Int32)} {slits : Nat} {slB : (Nat → Int32)} {slF : (Nat → Int32)} {slT : (Nat → Int32)} {at9 : Nat} {got : (Nat → Int32)} {ans : Int32} {worst : UInt32} (hG : zAl G = false) {c r w cnt lim : Nat} (hM : zMd s c r w cnt lim) (n : Nat) (hg0 : got 0 = nI n) (hn9 : zFr (nI 1) (nI n) (nI 16) = true) (hn16 : n ≤ 16) : zRun G mX10_does 0 0 [.ref 114] (zHp S X (s, past, aside, pasts, txt, typed, thrown, line, need, left, slits, slB, slF, slT, at9, 24282821, got, ans, worst) out) (.inr (some (.int (nI 0)))) (zHp S X ((rWs c r cnt n (s, line, w)).2.1, past, aside, pasts, txt, typed, thrown, (rWs c r cnt n (s, line, w)).2.2.1, need, left, slits, slB, slF, slT, at9, 24282821, got, (nI (rWs c r cnt n (s, line, w)).1), worst) out) := by
  have hM9 := hM
  refine zRun_of (by decide +kernel) rfl rfl (Nat.le_of_ble_eq_true rfl) ?_
  suffices hs : ∀ (o9 : zO) (h9 : zH), (Sum.inr (some (.int (nI 0))) : zO) = o9 → (zHp S X ((rWs c r cnt n (s, line, w)).2.1, past, aside, pasts, txt, typed, thrown, (rWs c r cnt n (s, line, w)).2.2.1, need, left, slits, slB, slF, slT, at9, 24282821, got, (nI (rWs c r cnt n (s, line, w)).1), worst) out) = h9 → zPW G mX10_does 0 0 o9 h9 0 0 0 [(0, .ref 114)] [] (zHp S X (s, past, aside, pasts, txt, typed, thrown, line, need, left, slits, slB, slF, slT, at9, 24282821, got, ans, worst) out) from hs _ _ rfl rfl
  intro o9 h9 ho9 hh9
  refine z_aload_n 0 dX10_does_0 rfl rfl ?_
  refine z_get (v := .int 24282821) 15 zgo_114 rfl inX10 (by decide) zw_1193 rfl rfl dX10_does_1 ?_
  refine z_lookup (off := 164) (tgt := 168) dX10_does_4 (by decide) (by decide) (by decide) ?_
  refine z_aload_n 0 dX10_does_168 rfl rfl ?_
  refine z_aload_n 0 dX10_does_169 rfl rfl ?_
  refine z_get (v := .ref 125) 16 zgo_114 rfl inX10 (by decide) zw_1194 rfl rfl dX10_does_170 ?_
  refine z_iconst (v := nI 0) dX10_does_173 (by decide) ?_
  refine z_ialdN (f := got) (n := 5) (j := 0) zga_125 (by omega) (by decide) dX10_does_174 ?_
  refine z_top (v2 := .int (nI n)) (by rw [hg0]) ?_
  refine z_callV (N := mX10_weaves) 1 [.int (nI n)] [] lX10_weaves ⟨zw_1348, zw_1350, zw_60⟩ rfl zgo_114 rfl rfl (Nat.le_of_ble_eq_true rfl) (by decide) ⟨zlt, zlt⟩ ⟨Nat.zero_le _, Nat.zero_le _⟩ zal (m_weaves hG hM9 n hn9 hn16) dX10_does_175 ?_
  exact z_iret rfl dX10_does_178 (zo_i ho9 (by rfl)) (zo_h hh9 (by rfl)) (Nat.zero_le _) (Nat.zero_le _)

set_option maxHeartbeats 4000000 in
set_option maxRecDepth 100000 in
theorem m_do_weave_1 {G : zT} {S : zS} {X : zXr} {out : Nat → Int64} {s : (Nat → Int32)} {past : (Nat → Int32)} {aside : (Nat → Int32)} {pasts : Nat} {txt : (Nat → Int32)} {typed : Nat} {thrown : Int32} {line : (Nat → Int32)} {need : (Nat → Int32)} {left : (Nat → Int32)} {slits : Nat} {slB : (Nat → Int32)} {slF : (Nat → Int32)} {slT : (Nat → Int32)} {at9 : Nat} {got : (Nat → Int32)} {ans : Int32} {worst : UInt32} (hG : zAl G = false) (hn9 : zFr (nI 1) (got 0) (nI 16) = false) : zRun G mX10_does 0 0 [.ref 114] (zHp S X (s, past, aside, pasts, txt, typed, thrown, line, need, left, slits, slB, slF, slT, at9, 24282821, got, ans, worst) out) (.inr (some (.int (nI 1)))) (zHp S X (s, past, aside, pasts, txt, typed, thrown, line, need, left, slits, slB, slF, slT, at9, 24282821, got, ans, worst) out) := by
  refine zRun_of (by decide +kernel) rfl rfl (Nat.le_of_ble_eq_true rfl) ?_
  suffices hs : ∀ (o9 : zO) (h9 : zH), (Sum.inr (some (.int (nI 1))) : zO) = o9 → (zHp S X (s, past, aside, pasts, txt, typed, thrown, line, need, left, slits, slB, slF, slT, at9, 24282821, got, ans, worst) out) = h9 → zPW G mX10_does 0 0 o9 h9 0 0 0 [(0, .ref 114)] [] (zHp S X (s, past, aside, pasts, txt, typed, thrown, line, need, left, slits, slB, slF, slT, at9, 24282821, got, ans, worst) out) from hs _ _ rfl rfl
  intro o9 h9 ho9 hh9
  refine z_aload_n 0 dX10_does_0 rfl rfl ?_
  refine z_get (v := .int 24282821) 15 zgo_114 rfl inX10 (by decide) zw_1193 rfl rfl dX10_does_1 ?_
  refine z_lookup (off := 164) (tgt := 168) dX10_does_4 (by decide) (by decide) (by decide) ?_
  refine z_aload_n 0 dX10_does_168 rfl rfl ?_
  refine z_aload_n 0 dX10_does_169 rfl rfl ?_
  refine z_get (v := .ref 125) 16 zgo_114 rfl inX10 (by decide) zw_1194 rfl rfl dX10_does_170 ?_
  refine z_iconst (v := nI 0) dX10_does_173 (by decide) ?_
  refine z_ialdN (f := got) (n := 5) (j := 0) zga_125 (by omega) (by decide) dX10_does_174 ?_
  refine z_callV (N := mX10_weaves) 1 [.int (got 0)] [] lX10_weaves ⟨zw_1348, zw_1350, zw_60⟩ rfl zgo_114 rfl rfl (Nat.le_of_ble_eq_true rfl) (by decide) ⟨zlt, zlt⟩ ⟨Nat.zero_le _, Nat.zero_le _⟩ (fun _ => rfl) (m_weaves_1 hG (got 0) hn9) dX10_does_175 ?_
  exact z_iret rfl dX10_does_178 (zo_i ho9 (by rfl)) (zo_h hh9 (by rfl)) (Nat.zero_le _) (Nat.zero_le _)

set_option maxHeartbeats 4000000 in
set_option maxRecDepth 100000 in
theorem m_do_undo {G : zT} {S : zS} {X : zXr} {out : Nat → Int64} {s : (Nat → Int32)} {past : (Nat → Int32)} {aside : (Nat → Int32)} {pasts : Nat} {txt : (Nat → Int32)} {typed : Nat} {thrown : Int32} {line : (Nat → Int32)} {need : (Nat → Int32)} {left : (Nat → Int32)} {slits : Nat} {slB : (Nat → Int32)} {slF : (Nat → Int32)} {slT : (Nat → Int32)} {at9 : Nat} {got : (Nat → Int32)} {ans : Int32} {worst : UInt32} (hG : zAl G = false) {c r w cnt lim : Nat} (hM : zMd s c r w cnt lim) (n : Nat) (hg0 : got 0 = nI n) (hn9 : zFr (nI 1) (nI n) (nI 16) = true) (hn16 : n ≤ 16) (hnw : n ≤ w) (hY : ∀ y b, y < w → b < c → rY s y b = -1 ∨ ∃ j, j < 16 ∧ rY s y b = nI j) : zRun G mX10_does 0 0 [.ref 114] (zHp S X (s, past, aside, pasts, txt, typed, thrown, line, need, left, slits, slB, slF, slT, at9, 702607, got, ans, worst) out) (.inr (some (.int (nI 0)))) (zHp S X ((rFg (upd (rUw s c (w - n) n s) 2 (nI (w - n))) (rFd (upd (rUw s c (w - n) n s) 2 (nI (w - n))) (w - n) lim (c - 1) (0, slB, slF, slT)).2.1 (rFd (upd (rUw s c (w - n) n s) 2 (nI (w - n))) (w - n) lim (c - 1) (0, slB, slF, slT)).2.2.1 (rFd (upd (rUw s c (w - n) n s) 2 (nI (w - n))) (w - n) lim (c - 1) (0, slB, slF, slT)).1), past, aside, pasts, txt, typed, thrown, line, need, left, (rFd (upd (rUw s c (w - n) n s) 2 (nI (w - n))) (w - n) lim (c - 1) (0, slB, slF, slT)).1, (rFd (upd (rUw s c (w - n) n s) 2 (nI (w - n))) (w - n) lim (c - 1) (0, slB, slF, slT)).2.1, (rFd (upd (rUw s c (w - n) n s) 2 (nI (w - n))) (w - n) lim (c - 1) (0, slB, slF, slT)).2.2.1, (rFd (upd (rUw s c (w - n) n s) 2 (nI (w - n))) (w - n) lim (c - 1) (0, slB, slF, slT)).2.2.2, at9, 702607, got, (nI (n * c)), worst) out) := by
  have hM9 := hM
  refine zRun_of (by decide +kernel) rfl rfl (Nat.le_of_ble_eq_true rfl) ?_
  suffices hs : ∀ (o9 : zO) (h9 : zH), (Sum.inr (some (.int (nI 0))) : zO) = o9 → (zHp S X ((rFg (upd (rUw s c (w - n) n s) 2 (nI (w - n))) (rFd (upd (rUw s c (w - n) n s) 2 (nI (w - n))) (w - n) lim (c - 1) (0, slB, slF, slT)).2.1 (rFd (upd (rUw s c (w - n) n s) 2 (nI (w - n))) (w - n) lim (c - 1) (0, slB, slF, slT)).2.2.1 (rFd (upd (rUw s c (w - n) n s) 2 (nI (w - n))) (w - n) lim (c - 1) (0, slB, slF, slT)).1), past, aside, pasts, txt, typed, thrown, line, need, left, (rFd (upd (rUw s c (w - n) n s) 2 (nI (w - n))) (w - n) lim (c - 1) (0, slB, slF, slT)).1, (rFd (upd (rUw s c (w - n) n s) 2 (nI (w - n))) (w - n) lim (c - 1) (0, slB, slF, slT)).2.1, (rFd (upd (rUw s c (w - n) n s) 2 (nI (w - n))) (w - n) lim (c - 1) (0, slB, slF, slT)).2.2.1, (rFd (upd (rUw s c (w - n) n s) 2 (nI (w - n))) (w - n) lim (c - 1) (0, slB, slF, slT)).2.2.2, at9, 702607, got, (nI (n * c)), worst) out) = h9 → zPW G mX10_does 0 0 o9 h9 0 0 0 [(0, .ref 114)] [] (zHp S X (s, past, aside, pasts, txt, typed, thrown, line, need, left, slits, slB, slF, slT, at9, 702607, got, ans, worst) out) from hs _ _ rfl rfl
  intro o9 h9 ho9 hh9
  refine z_aload_n 0 dX10_does_0 rfl rfl ?_
  refine z_get (v := .int 702607) 15 zgo_114 rfl inX10 (by decide) zw_1193 rfl rfl dX10_does_1 ?_
  refine z_lookup (off := 175) (tgt := 179) dX10_does_4 (by decide) (by decide) (by decide) ?_
  refine z_aload_n 0 dX10_does_179 rfl rfl ?_
  refine z_aload_n 0 dX10_does_180 rfl rfl ?_
  refine z_get (v := .ref 125) 16 zgo_114 rfl inX10 (by decide) zw_1194 rfl rfl dX10_does_181 ?_
  refine z_iconst (v := nI 0) dX10_does_184 (by decide) ?_
  refine z_ialdN (f := got) (n := 5) (j := 0) zga_125 (by omega) (by decide) dX10_does_185 ?_
  refine z_top (v2 := .int (nI n)) (by rw [hg0]) ?_
  refine z_callV (N := mX10_unweaves) 1 [.int (nI n)] [] lX10_unweaves ⟨zw_1396, zw_1398, zw_71⟩ rfl zgo_114 rfl rfl (Nat.le_of_ble_eq_true rfl) (by decide) ⟨zlt, zlt⟩ ⟨Nat.zero_le _, Nat.zero_le _⟩ zal (m_unweaves hG hM9 n hn9 hn16 hnw hY) dX10_does_186 ?_
  exact z_iret rfl dX10_does_189 (zo_i ho9 (by rfl)) (zo_h hh9 (by rfl)) (Nat.zero_le _) (Nat.zero_le _)

set_option maxHeartbeats 4000000 in
set_option maxRecDepth 100000 in
theorem m_do_undo_1 {G : zT} {S : zS} {X : zXr} {out : Nat → Int64} {s : (Nat → Int32)} {past : (Nat → Int32)} {aside : (Nat → Int32)} {pasts : Nat} {txt : (Nat → Int32)} {typed : Nat} {thrown : Int32} {line : (Nat → Int32)} {need : (Nat → Int32)} {left : (Nat → Int32)} {slits : Nat} {slB : (Nat → Int32)} {slF : (Nat → Int32)} {slT : (Nat → Int32)} {at9 : Nat} {got : (Nat → Int32)} {ans : Int32} {worst : UInt32} (hG : zAl G = false) (hn9 : zFr (nI 1) (got 0) (nI 16) = false) : zRun G mX10_does 0 0 [.ref 114] (zHp S X (s, past, aside, pasts, txt, typed, thrown, line, need, left, slits, slB, slF, slT, at9, 702607, got, ans, worst) out) (.inr (some (.int (nI 1)))) (zHp S X (s, past, aside, pasts, txt, typed, thrown, line, need, left, slits, slB, slF, slT, at9, 702607, got, ans, worst) out) := by
  refine zRun_of (by decide +kernel) rfl rfl (Nat.le_of_ble_eq_true rfl) ?_
  suffices hs : ∀ (o9 : zO) (h9 : zH), (Sum.inr (some (.int (nI 1))) : zO) = o9 → (zHp S X (s, past, aside, pasts, txt, typed, thrown, line, need, left, slits, slB, slF, slT, at9, 702607, got, ans, worst) out) = h9 → zPW G mX10_does 0 0 o9 h9 0 0 0 [(0, .ref 114)] [] (zHp S X (s, past, aside, pasts, txt, typed, thrown, line, need, left, slits, slB, slF, slT, at9, 702607, got, ans, worst) out) from hs _ _ rfl rfl
  intro o9 h9 ho9 hh9
  refine z_aload_n 0 dX10_does_0 rfl rfl ?_
  refine z_get (v := .int 702607) 15 zgo_114 rfl inX10 (by decide) zw_1193 rfl rfl dX10_does_1 ?_
  refine z_lookup (off := 175) (tgt := 179) dX10_does_4 (by decide) (by decide) (by decide) ?_
  refine z_aload_n 0 dX10_does_179 rfl rfl ?_
  refine z_aload_n 0 dX10_does_180 rfl rfl ?_
  refine z_get (v := .ref 125) 16 zgo_114 rfl inX10 (by decide) zw_1194 rfl rfl dX10_does_181 ?_
  refine z_iconst (v := nI 0) dX10_does_184 (by decide) ?_
  refine z_ialdN (f := got) (n := 5) (j := 0) zga_125 (by omega) (by decide) dX10_does_185 ?_
  refine z_callV (N := mX10_unweaves) 1 [.int (got 0)] [] lX10_unweaves ⟨zw_1396, zw_1398, zw_71⟩ rfl zgo_114 rfl rfl (Nat.le_of_ble_eq_true rfl) (by decide) ⟨zlt, zlt⟩ ⟨Nat.zero_le _, Nat.zero_le _⟩ (fun _ => rfl) (m_unweaves_1 hG (got 0) hn9) dX10_does_186 ?_
  exact z_iret rfl dX10_does_189 (zo_i ho9 (by rfl)) (zo_h hh9 (by rfl)) (Nat.zero_le _) (Nat.zero_le _)

set_option maxHeartbeats 4000000 in
set_option maxRecDepth 100000 in
theorem m_do_undo_2 {G : zT} {S : zS} {X : zXr} {out : Nat → Int64} {s : (Nat → Int32)} {past : (Nat → Int32)} {aside : (Nat → Int32)} {pasts : Nat} {txt : (Nat → Int32)} {typed : Nat} {thrown : Int32} {line : (Nat → Int32)} {need : (Nat → Int32)} {left : (Nat → Int32)} {slits : Nat} {slB : (Nat → Int32)} {slF : (Nat → Int32)} {slT : (Nat → Int32)} {at9 : Nat} {got : (Nat → Int32)} {ans : Int32} {worst : UInt32} (hG : zAl G = false) {c r w cnt lim : Nat} (hM : zMd s c r w cnt lim) (n : Nat) (hg0 : got 0 = nI n) (hn9 : zFr (nI 1) (nI n) (nI 16) = true) (hn16 : n ≤ 16) (hnw : w < n) : zRun G mX10_does 0 0 [.ref 114] (zHp S X (s, past, aside, pasts, txt, typed, thrown, line, need, left, slits, slB, slF, slT, at9, 702607, got, ans, worst) out) (.inr (some (.int (nI 2)))) (zHp S X (s, past, aside, pasts, txt, typed, thrown, line, need, left, slits, slB, slF, slT, at9, 702607, got, ans, worst) out) := by
  have hM9 := hM
  refine zRun_of (by decide +kernel) rfl rfl (Nat.le_of_ble_eq_true rfl) ?_
  suffices hs : ∀ (o9 : zO) (h9 : zH), (Sum.inr (some (.int (nI 2))) : zO) = o9 → (zHp S X (s, past, aside, pasts, txt, typed, thrown, line, need, left, slits, slB, slF, slT, at9, 702607, got, ans, worst) out) = h9 → zPW G mX10_does 0 0 o9 h9 0 0 0 [(0, .ref 114)] [] (zHp S X (s, past, aside, pasts, txt, typed, thrown, line, need, left, slits, slB, slF, slT, at9, 702607, got, ans, worst) out) from hs _ _ rfl rfl
  intro o9 h9 ho9 hh9
  refine z_aload_n 0 dX10_does_0 rfl rfl ?_
  refine z_get (v := .int 702607) 15 zgo_114 rfl inX10 (by decide) zw_1193 rfl rfl dX10_does_1 ?_
  refine z_lookup (off := 175) (tgt := 179) dX10_does_4 (by decide) (by decide) (by decide) ?_
  refine z_aload_n 0 dX10_does_179 rfl rfl ?_
  refine z_aload_n 0 dX10_does_180 rfl rfl ?_
  refine z_get (v := .ref 125) 16 zgo_114 rfl inX10 (by decide) zw_1194 rfl rfl dX10_does_181 ?_
  refine z_iconst (v := nI 0) dX10_does_184 (by decide) ?_
  refine z_ialdN (f := got) (n := 5) (j := 0) zga_125 (by omega) (by decide) dX10_does_185 ?_
  refine z_top (v2 := .int (nI n)) (by rw [hg0]) ?_
  refine z_callV (N := mX10_unweaves) 1 [.int (nI n)] [] lX10_unweaves ⟨zw_1396, zw_1398, zw_71⟩ rfl zgo_114 rfl rfl (Nat.le_of_ble_eq_true rfl) (by decide) ⟨zlt, zlt⟩ ⟨Nat.zero_le _, Nat.zero_le _⟩ (fun _ => rfl) (m_unweaves_2 hG hM9 n hn9 hn16 hnw) dX10_does_186 ?_
  exact z_iret rfl dX10_does_189 (zo_i ho9 (by rfl)) (zo_h hh9 (by rfl)) (Nat.zero_le _) (Nat.zero_le _)

set_option maxHeartbeats 4000000 in
set_option maxRecDepth 100000 in
theorem m_do_sew {G : zT} {S : zS} {X : zXr} {out : Nat → Int64} {s : (Nat → Int32)} {past : (Nat → Int32)} {aside : (Nat → Int32)} {pasts : Nat} {txt : (Nat → Int32)} {typed : Nat} {thrown : Int32} {line : (Nat → Int32)} {need : (Nat → Int32)} {left : (Nat → Int32)} {slits : Nat} {slB : (Nat → Int32)} {slF : (Nat → Int32)} {slT : (Nat → Int32)} {at9 : Nat} {got : (Nat → Int32)} {ans : Int32} {worst : UInt32} (hG : zAl G = false) {c r w cnt lim : Nat} (hM : zMd s c r w cnt lim) (ix : Nat) (hg0 : got 0 = nI ix) (hi : ix < (rFd s w lim (c - 1) (0, slB, slF, slT)).1) (hse : (s (rSx (rFd s w lim (c - 1) (0, slB, slF, slT)).2.1 (rFd s w lim (c - 1) (0, slB, slF, slT)).2.2.1 ix) == nI 1) = false) : zRun G mX10_does 0 0 [.ref 114] (zHp S X (s, past, aside, pasts, txt, typed, thrown, line, need, left, slits, slB, slF, slT, at9, 19639, got, ans, worst) out) (.inr (some (.int (nI 0)))) (zHp S X ((upd s (rSx (rFd s w lim (c - 1) (0, slB, slF, slT)).2.1 (rFd s w lim (c - 1) (0, slB, slF, slT)).2.2.1 ix) (nI 1)), past, aside, pasts, txt, typed, thrown, line, need, left, (rFd s w lim (c - 1) (0, slB, slF, slT)).1, (rFd s w lim (c - 1) (0, slB, slF, slT)).2.1, (rFd s w lim (c - 1) (0, slB, slF, slT)).2.2.1, (rFd s w lim (c - 1) (0, slB, slF, slT)).2.2.2, at9, 19639, got, (nI (rFd s w lim (c - 1) (0, slB, slF, slT)).1 - nI (zCt (fun k => (upd s (rSx (rFd s w lim (c - 1) (0, slB, slF, slT)).2.1 (rFd s w lim (c - 1) (0, slB, slF, slT)).2.2.1 ix) (nI 1)) (rSx (rFd s w lim (c - 1) (0, slB, slF, slT)).2.1 (rFd s w lim (c - 1) (0, slB, slF, slT)).2.2.1 k) == nI 1) (rFd s w lim (c - 1) (0, slB, slF, slT)).1)), worst) out) := by
  have hM9 := hM
  refine zRun_of (by decide +kernel) rfl rfl (Nat.le_of_ble_eq_true rfl) ?_
  suffices hs : ∀ (o9 : zO) (h9 : zH), (Sum.inr (some (.int (nI 0))) : zO) = o9 → (zHp S X ((upd s (rSx (rFd s w lim (c - 1) (0, slB, slF, slT)).2.1 (rFd s w lim (c - 1) (0, slB, slF, slT)).2.2.1 ix) (nI 1)), past, aside, pasts, txt, typed, thrown, line, need, left, (rFd s w lim (c - 1) (0, slB, slF, slT)).1, (rFd s w lim (c - 1) (0, slB, slF, slT)).2.1, (rFd s w lim (c - 1) (0, slB, slF, slT)).2.2.1, (rFd s w lim (c - 1) (0, slB, slF, slT)).2.2.2, at9, 19639, got, (nI (rFd s w lim (c - 1) (0, slB, slF, slT)).1 - nI (zCt (fun k => (upd s (rSx (rFd s w lim (c - 1) (0, slB, slF, slT)).2.1 (rFd s w lim (c - 1) (0, slB, slF, slT)).2.2.1 ix) (nI 1)) (rSx (rFd s w lim (c - 1) (0, slB, slF, slT)).2.1 (rFd s w lim (c - 1) (0, slB, slF, slT)).2.2.1 k) == nI 1) (rFd s w lim (c - 1) (0, slB, slF, slT)).1)), worst) out) = h9 → zPW G mX10_does 0 0 o9 h9 0 0 0 [(0, .ref 114)] [] (zHp S X (s, past, aside, pasts, txt, typed, thrown, line, need, left, slits, slB, slF, slT, at9, 19639, got, ans, worst) out) from hs _ _ rfl rfl
  intro o9 h9 ho9 hh9
  refine z_aload_n 0 dX10_does_0 rfl rfl ?_
  refine z_get (v := .int 19639) 15 zgo_114 rfl inX10 (by decide) zw_1193 rfl rfl dX10_does_1 ?_
  refine z_lookup (off := 186) (tgt := 190) dX10_does_4 (by decide) (by decide) (by decide) ?_
  refine z_aload_n 0 dX10_does_190 rfl rfl ?_
  refine z_aload_n 0 dX10_does_191 rfl rfl ?_
  refine z_get (v := .ref 125) 16 zgo_114 rfl inX10 (by decide) zw_1194 rfl rfl dX10_does_192 ?_
  refine z_iconst (v := nI 0) dX10_does_195 (by decide) ?_
  refine z_ialdN (f := got) (n := 5) (j := 0) zga_125 (by omega) (by decide) dX10_does_196 ?_
  refine z_top (v2 := .int (nI ix)) (by rw [hg0]) ?_
  refine z_callV (N := mX10_sews) 1 [.int (nI ix)] [] lX10_sews ⟨zw_1408, zw_1410, zw_73⟩ rfl zgo_114 rfl rfl (Nat.le_of_ble_eq_true rfl) (by decide) ⟨zlt, zlt⟩ ⟨Nat.zero_le _, Nat.zero_le _⟩ zal (m_sews hG hM9 ix hi hse) dX10_does_197 ?_
  exact z_iret rfl dX10_does_200 (zo_i ho9 (by rfl)) (zo_h hh9 (by rfl)) (Nat.zero_le _) (Nat.zero_le _)

set_option maxHeartbeats 4000000 in
set_option maxRecDepth 100000 in
theorem m_do_sew_1 {G : zT} {S : zS} {X : zXr} {out : Nat → Int64} {s : (Nat → Int32)} {past : (Nat → Int32)} {aside : (Nat → Int32)} {pasts : Nat} {txt : (Nat → Int32)} {typed : Nat} {thrown : Int32} {line : (Nat → Int32)} {need : (Nat → Int32)} {left : (Nat → Int32)} {slits : Nat} {slB : (Nat → Int32)} {slF : (Nat → Int32)} {slT : (Nat → Int32)} {at9 : Nat} {got : (Nat → Int32)} {ans : Int32} {worst : UInt32} (hG : zAl G = false) {c r w cnt lim : Nat} (hM : zMd s c r w cnt lim) (hi : zIn (got 0) (nI (rFd s w lim (c - 1) (0, slB, slF, slT)).1) = false) : zRun G mX10_does 0 0 [.ref 114] (zHp S X (s, past, aside, pasts, txt, typed, thrown, line, need, left, slits, slB, slF, slT, at9, 19639, got, ans, worst) out) (.inr (some (.int (nI 1)))) (zHp S X (s, past, aside, pasts, txt, typed, thrown, line, need, left, (rFd s w lim (c - 1) (0, slB, slF, slT)).1, (rFd s w lim (c - 1) (0, slB, slF, slT)).2.1, (rFd s w lim (c - 1) (0, slB, slF, slT)).2.2.1, (rFd s w lim (c - 1) (0, slB, slF, slT)).2.2.2, at9, 19639, got, ans, worst) out) := by
  have hM9 := hM
  refine zRun_of (by decide +kernel) rfl rfl (Nat.le_of_ble_eq_true rfl) ?_
  suffices hs : ∀ (o9 : zO) (h9 : zH), (Sum.inr (some (.int (nI 1))) : zO) = o9 → (zHp S X (s, past, aside, pasts, txt, typed, thrown, line, need, left, (rFd s w lim (c - 1) (0, slB, slF, slT)).1, (rFd s w lim (c - 1) (0, slB, slF, slT)).2.1, (rFd s w lim (c - 1) (0, slB, slF, slT)).2.2.1, (rFd s w lim (c - 1) (0, slB, slF, slT)).2.2.2, at9, 19639, got, ans, worst) out) = h9 → zPW G mX10_does 0 0 o9 h9 0 0 0 [(0, .ref 114)] [] (zHp S X (s, past, aside, pasts, txt, typed, thrown, line, need, left, slits, slB, slF, slT, at9, 19639, got, ans, worst) out) from hs _ _ rfl rfl
  intro o9 h9 ho9 hh9
  refine z_aload_n 0 dX10_does_0 rfl rfl ?_
  refine z_get (v := .int 19639) 15 zgo_114 rfl inX10 (by decide) zw_1193 rfl rfl dX10_does_1 ?_
  refine z_lookup (off := 186) (tgt := 190) dX10_does_4 (by decide) (by decide) (by decide) ?_
  refine z_aload_n 0 dX10_does_190 rfl rfl ?_
  refine z_aload_n 0 dX10_does_191 rfl rfl ?_
  refine z_get (v := .ref 125) 16 zgo_114 rfl inX10 (by decide) zw_1194 rfl rfl dX10_does_192 ?_
  refine z_iconst (v := nI 0) dX10_does_195 (by decide) ?_
  refine z_ialdN (f := got) (n := 5) (j := 0) zga_125 (by omega) (by decide) dX10_does_196 ?_
  refine z_callV (N := mX10_sews) 1 [.int (got 0)] [] lX10_sews ⟨zw_1408, zw_1410, zw_73⟩ rfl zgo_114 rfl rfl (Nat.le_of_ble_eq_true rfl) (by decide) ⟨zlt, zlt⟩ ⟨Nat.zero_le _, Nat.zero_le _⟩ zal (m_sews_1 hG hM9 (got 0) hi) dX10_does_197 ?_
  exact z_iret rfl dX10_does_200 (zo_i ho9 (by rfl)) (zo_h hh9 (by rfl)) (Nat.zero_le _) (Nat.zero_le _)

set_option maxHeartbeats 4000000 in
set_option maxRecDepth 100000 in
theorem m_do_sew_2 {G : zT} {S : zS} {X : zXr} {out : Nat → Int64} {s : (Nat → Int32)} {past : (Nat → Int32)} {aside : (Nat → Int32)} {pasts : Nat} {txt : (Nat → Int32)} {typed : Nat} {thrown : Int32} {line : (Nat → Int32)} {need : (Nat → Int32)} {left : (Nat → Int32)} {slits : Nat} {slB : (Nat → Int32)} {slF : (Nat → Int32)} {slT : (Nat → Int32)} {at9 : Nat} {got : (Nat → Int32)} {ans : Int32} {worst : UInt32} (hG : zAl G = false) {c r w cnt lim : Nat} (hM : zMd s c r w cnt lim) (ix : Nat) (hg0 : got 0 = nI ix) (hi : ix < (rFd s w lim (c - 1) (0, slB, slF, slT)).1) (hse : (s (rSx (rFd s w lim (c - 1) (0, slB, slF, slT)).2.1 (rFd s w lim (c - 1) (0, slB, slF, slT)).2.2.1 ix) == nI 1) = true) : zRun G mX10_does 0 0 [.ref 114] (zHp S X (s, past, aside, pasts, txt, typed, thrown, line, need, left, slits, slB, slF, slT, at9, 19639, got, ans, worst) out) (.inr (some (.int (nI 2)))) (zHp S X (s, past, aside, pasts, txt, typed, thrown, line, need, left, (rFd s w lim (c - 1) (0, slB, slF, slT)).1, (rFd s w lim (c - 1) (0, slB, slF, slT)).2.1, (rFd s w lim (c - 1) (0, slB, slF, slT)).2.2.1, (rFd s w lim (c - 1) (0, slB, slF, slT)).2.2.2, at9, 19639, got, ans, worst) out) := by
  have hM9 := hM
  refine zRun_of (by decide +kernel) rfl rfl (Nat.le_of_ble_eq_true rfl) ?_
  suffices hs : ∀ (o9 : zO) (h9 : zH), (Sum.inr (some (.int (nI 2))) : zO) = o9 → (zHp S X (s, past, aside, pasts, txt, typed, thrown, line, need, left, (rFd s w lim (c - 1) (0, slB, slF, slT)).1, (rFd s w lim (c - 1) (0, slB, slF, slT)).2.1, (rFd s w lim (c - 1) (0, slB, slF, slT)).2.2.1, (rFd s w lim (c - 1) (0, slB, slF, slT)).2.2.2, at9, 19639, got, ans, worst) out) = h9 → zPW G mX10_does 0 0 o9 h9 0 0 0 [(0, .ref 114)] [] (zHp S X (s, past, aside, pasts, txt, typed, thrown, line, need, left, slits, slB, slF, slT, at9, 19639, got, ans, worst) out) from hs _ _ rfl rfl
  intro o9 h9 ho9 hh9
  refine z_aload_n 0 dX10_does_0 rfl rfl ?_
  refine z_get (v := .int 19639) 15 zgo_114 rfl inX10 (by decide) zw_1193 rfl rfl dX10_does_1 ?_
  refine z_lookup (off := 186) (tgt := 190) dX10_does_4 (by decide) (by decide) (by decide) ?_
  refine z_aload_n 0 dX10_does_190 rfl rfl ?_
  refine z_aload_n 0 dX10_does_191 rfl rfl ?_
  refine z_get (v := .ref 125) 16 zgo_114 rfl inX10 (by decide) zw_1194 rfl rfl dX10_does_192 ?_
  refine z_iconst (v := nI 0) dX10_does_195 (by decide) ?_
  refine z_ialdN (f := got) (n := 5) (j := 0) zga_125 (by omega) (by decide) dX10_does_196 ?_
  refine z_top (v2 := .int (nI ix)) (by rw [hg0]) ?_
  refine z_callV (N := mX10_sews) 1 [.int (nI ix)] [] lX10_sews ⟨zw_1408, zw_1410, zw_73⟩ rfl zgo_114 rfl rfl (Nat.le_of_ble_eq_true rfl) (by decide) ⟨zlt, zlt⟩ ⟨Nat.zero_le _, Nat.zero_le _⟩ zal (m_sews_2 hG hM9 ix hi hse) dX10_does_197 ?_
  exact z_iret rfl dX10_does_200 (zo_i ho9 (by rfl)) (zo_h hh9 (by rfl)) (Nat.zero_le _) (Nat.zero_le _)

set_option maxHeartbeats 4000000 in
set_option maxRecDepth 100000 in
theorem m_do_limit {G : zT} {S : zS} {X : zXr} {out : Nat → Int64} {s : (Nat → Int32)} {past : (Nat → Int32)} {aside : (Nat → Int32)} {pasts : Nat} {txt : (Nat → Int32)} {typed : Nat} {thrown : Int32} {line : (Nat → Int32)} {need : (Nat → Int32)} {left : (Nat → Int32)} {slits : Nat} {slB : (Nat → Int32)} {slF : (Nat → Int32)} {slT : (Nat → Int32)} {at9 : Nat} {got : (Nat → Int32)} {ans : Int32} {worst : UInt32} (hG : zAl G = false) {c r w cnt lim : Nat} (hM : zMd s c r w cnt lim) (a : Nat) (hg0 : got 0 = nI a) (ha : zFr (nI 1) (nI a) (nI 16) = true) (ha16 : a ≤ 16) : zRun G mX10_does 0 0 [.ref 114] (zHp S X (s, past, aside, pasts, txt, typed, thrown, line, need, left, slits, slB, slF, slT, at9, 12891444, got, ans, worst) out) (.inr (some (.int (nI 0)))) (zHp S X ((rFg (upd s 4 (nI a)) (rFd (upd s 4 (nI a)) w a (c - 1) (0, slB, slF, slT)).2.1 (rFd (upd s 4 (nI a)) w a (c - 1) (0, slB, slF, slT)).2.2.1 (rFd (upd s 4 (nI a)) w a (c - 1) (0, slB, slF, slT)).1), past, aside, pasts, txt, typed, thrown, line, need, left, (rFd (upd s 4 (nI a)) w a (c - 1) (0, slB, slF, slT)).1, (rFd (upd s 4 (nI a)) w a (c - 1) (0, slB, slF, slT)).2.1, (rFd (upd s 4 (nI a)) w a (c - 1) (0, slB, slF, slT)).2.2.1, (rFd (upd s 4 (nI a)) w a (c - 1) (0, slB, slF, slT)).2.2.2, at9, 12891444, got, (nI lim), worst) out) := by
  have hM9 := hM
  refine zRun_of (by decide +kernel) rfl rfl (Nat.le_of_ble_eq_true rfl) ?_
  suffices hs : ∀ (o9 : zO) (h9 : zH), (Sum.inr (some (.int (nI 0))) : zO) = o9 → (zHp S X ((rFg (upd s 4 (nI a)) (rFd (upd s 4 (nI a)) w a (c - 1) (0, slB, slF, slT)).2.1 (rFd (upd s 4 (nI a)) w a (c - 1) (0, slB, slF, slT)).2.2.1 (rFd (upd s 4 (nI a)) w a (c - 1) (0, slB, slF, slT)).1), past, aside, pasts, txt, typed, thrown, line, need, left, (rFd (upd s 4 (nI a)) w a (c - 1) (0, slB, slF, slT)).1, (rFd (upd s 4 (nI a)) w a (c - 1) (0, slB, slF, slT)).2.1, (rFd (upd s 4 (nI a)) w a (c - 1) (0, slB, slF, slT)).2.2.1, (rFd (upd s 4 (nI a)) w a (c - 1) (0, slB, slF, slT)).2.2.2, at9, 12891444, got, (nI lim), worst) out) = h9 → zPW G mX10_does 0 0 o9 h9 0 0 0 [(0, .ref 114)] [] (zHp S X (s, past, aside, pasts, txt, typed, thrown, line, need, left, slits, slB, slF, slT, at9, 12891444, got, ans, worst) out) from hs _ _ rfl rfl
  intro o9 h9 ho9 hh9
  refine z_aload_n 0 dX10_does_0 rfl rfl ?_
  refine z_get (v := .int 12891444) 15 zgo_114 rfl inX10 (by decide) zw_1193 rfl rfl dX10_does_1 ?_
  refine z_lookup (off := 197) (tgt := 201) dX10_does_4 (by decide) (by decide) (by decide) ?_
  refine z_aload_n 0 dX10_does_201 rfl rfl ?_
  refine z_aload_n 0 dX10_does_202 rfl rfl ?_
  refine z_get (v := .ref 125) 16 zgo_114 rfl inX10 (by decide) zw_1194 rfl rfl dX10_does_203 ?_
  refine z_iconst (v := nI 0) dX10_does_206 (by decide) ?_
  refine z_ialdN (f := got) (n := 5) (j := 0) zga_125 (by omega) (by decide) dX10_does_207 ?_
  refine z_top (v2 := .int (nI a)) (by rw [hg0]) ?_
  refine z_callV (N := mX10_limits) 1 [.int (nI a)] [] lX10_limits ⟨zw_1308, zw_1310, zw_52⟩ rfl zgo_114 rfl rfl (Nat.le_of_ble_eq_true rfl) (by decide) ⟨zlt, zlt⟩ ⟨Nat.zero_le _, Nat.zero_le _⟩ zal (m_limits hG hM9 a ha ha16) dX10_does_208 ?_
  exact z_iret rfl dX10_does_211 (zo_i ho9 (by rfl)) (zo_h hh9 (by rfl)) (Nat.zero_le _) (Nat.zero_le _)

set_option maxHeartbeats 4000000 in
set_option maxRecDepth 100000 in
theorem m_do_limit_1 {G : zT} {S : zS} {X : zXr} {out : Nat → Int64} {s : (Nat → Int32)} {past : (Nat → Int32)} {aside : (Nat → Int32)} {pasts : Nat} {txt : (Nat → Int32)} {typed : Nat} {thrown : Int32} {line : (Nat → Int32)} {need : (Nat → Int32)} {left : (Nat → Int32)} {slits : Nat} {slB : (Nat → Int32)} {slF : (Nat → Int32)} {slT : (Nat → Int32)} {at9 : Nat} {got : (Nat → Int32)} {ans : Int32} {worst : UInt32} (hG : zAl G = false) (ha : zFr (nI 1) (got 0) (nI 16) = false) : zRun G mX10_does 0 0 [.ref 114] (zHp S X (s, past, aside, pasts, txt, typed, thrown, line, need, left, slits, slB, slF, slT, at9, 12891444, got, ans, worst) out) (.inr (some (.int (nI 1)))) (zHp S X (s, past, aside, pasts, txt, typed, thrown, line, need, left, slits, slB, slF, slT, at9, 12891444, got, ans, worst) out) := by
  refine zRun_of (by decide +kernel) rfl rfl (Nat.le_of_ble_eq_true rfl) ?_
  suffices hs : ∀ (o9 : zO) (h9 : zH), (Sum.inr (some (.int (nI 1))) : zO) = o9 → (zHp S X (s, past, aside, pasts, txt, typed, thrown, line, need, left, slits, slB, slF, slT, at9, 12891444, got, ans, worst) out) = h9 → zPW G mX10_does 0 0 o9 h9 0 0 0 [(0, .ref 114)] [] (zHp S X (s, past, aside, pasts, txt, typed, thrown, line, need, left, slits, slB, slF, slT, at9, 12891444, got, ans, worst) out) from hs _ _ rfl rfl
  intro o9 h9 ho9 hh9
  refine z_aload_n 0 dX10_does_0 rfl rfl ?_
  refine z_get (v := .int 12891444) 15 zgo_114 rfl inX10 (by decide) zw_1193 rfl rfl dX10_does_1 ?_
  refine z_lookup (off := 197) (tgt := 201) dX10_does_4 (by decide) (by decide) (by decide) ?_
  refine z_aload_n 0 dX10_does_201 rfl rfl ?_
  refine z_aload_n 0 dX10_does_202 rfl rfl ?_
  refine z_get (v := .ref 125) 16 zgo_114 rfl inX10 (by decide) zw_1194 rfl rfl dX10_does_203 ?_
  refine z_iconst (v := nI 0) dX10_does_206 (by decide) ?_
  refine z_ialdN (f := got) (n := 5) (j := 0) zga_125 (by omega) (by decide) dX10_does_207 ?_
  refine z_callV (N := mX10_limits) 1 [.int (got 0)] [] lX10_limits ⟨zw_1308, zw_1310, zw_52⟩ rfl zgo_114 rfl rfl (Nat.le_of_ble_eq_true rfl) (by decide) ⟨zlt, zlt⟩ ⟨Nat.zero_le _, Nat.zero_le _⟩ (fun _ => rfl) (m_limits_x hG (got 0) ha) dX10_does_208 ?_
  exact z_iret rfl dX10_does_211 (zo_i ho9 (by rfl)) (zo_h hh9 (by rfl)) (Nat.zero_le _) (Nat.zero_le _)

/-- a number that was read -/
def gN (g : Nat → Int32) (j : Nat) : Nat := (g j).toNatClampNeg
abbrev zD7 : Type := (Nat → Int32) × (Nat → Int32) × Nat × (Nat → Int32) × (Nat → Int32) × (Nat → Int32) × Int32
def rDo (c r w cnt lim : Nat) (wd : Int32) (g : Nat → Int32) (q : zD7) : Int32 × zD7 :=
  if wd = 3554952 then (if zFr (nI 1) (g 0) (nI 20) && zFr (nI 1) (g 1) (nI 16) then (nI 0, (rCl q.1 (gN g 0) (gN g 1)), q.2.1, q.2.2.1, q.2.2.2.1, q.2.2.2.2.1, q.2.2.2.2.2.1, (nI w)) else (nI 1, q))
  else if wd = 635184 then (if zIn (g 0) (nI c) then (if zFr (nI 0) (g 1) (nI 7) then (nI 0, (upd q.1 (71 + (gN g 0)) (g 1)), q.2.1, q.2.2.1, q.2.2.2.1, q.2.2.2.2.1, q.2.2.2.2.2.1, (nI (zCt (fun b9 => !decide (upd q.1 (71 + (gN g 0)) (g 1) (71 + b9) < 0)) c))) else (nI 2, q)) else (nI 1, q))
  else if wd = 206220 then (if ((zIn (g 0) (nI c) && zIn (g 1) (nI r)) && (zIn (g 2) (nI c) && zIn (g 3) (nI r))) then (if g 2 < g 0 ∨ g 3 < g 1 ∨ zFr (nI 0) (g 4) (nI 7) = false then (nI 2, q) else (nI 0, (rFl (gN g 0) (gN g 1) (gN g 2) (g 4) ((gN g 3) + 1 - (gN g 1)) (q.1, 0)).1, q.2.1, q.2.2.1, q.2.2.2.1, q.2.2.2.2.1, q.2.2.2.2.2.1, (nI (rFl (gN g 0) (gN g 1) (gN g 2) (g 4) ((gN g 3) + 1 - (gN g 1)) (q.1, 0)).2))) else (nI 1, q))
  else if wd = 12788 then (if (zFr (nI 0) (g 0) (nI 7) && (zFr (nI 1) (g 1) (nI 999) && rShd (FP.i2f (g 2)).toInt32)) then (if cnt = 16 then (nI 2, q) else (nI 0, (rAd q.1 cnt (g 0) (g 1) ((FP.i2f (g 2)).toInt32)), q.2.1, q.2.2.1, q.2.2.2.1, q.2.2.2.2.1, q.2.2.2.2.2.1, (nI cnt))) else (nI 1, q))
  else if wd = 24282821 then (if zFr (nI 1) (g 0) (nI 16) then (nI 0, (rWs c r cnt (gN g 0) (q.1, q.2.1, w)).2.1, (rWs c r cnt (gN g 0) (q.1, q.2.1, w)).2.2.1, q.2.2.1, q.2.2.2.1, q.2.2.2.2.1, q.2.2.2.2.2.1, (nI (rWs c r cnt (gN g 0) (q.1, q.2.1, w)).1)) else (nI 1, q))
  else if wd = 702607 then (if zFr (nI 1) (g 0) (nI 16) then (if w < (gN g 0) then (nI 2, q) else (nI 0, (rFg (upd (rUw q.1 c (w - (gN g 0)) (gN g 0) q.1) 2 (nI (w - (gN g 0)))) (rFd (upd (rUw q.1 c (w - (gN g 0)) (gN g 0) q.1) 2 (nI (w - (gN g 0)))) (w - (gN g 0)) lim (c - 1) (0, q.2.2.2.1, q.2.2.2.2.1, q.2.2.2.2.2.1)).2.1 (rFd (upd (rUw q.1 c (w - (gN g 0)) (gN g 0) q.1) 2 (nI (w - (gN g 0)))) (w - (gN g 0)) lim (c - 1) (0, q.2.2.2.1, q.2.2.2.2.1, q.2.2.2.2.2.1)).2.2.1 (rFd (upd (rUw q.1 c (w - (gN g 0)) (gN g 0) q.1) 2 (nI (w - (gN g 0)))) (w - (gN g 0)) lim (c - 1) (0, q.2.2.2.1, q.2.2.2.2.1, q.2.2.2.2.2.1)).1), q.2.1, (rFd (upd (rUw q.1 c (w - (gN g 0)) (gN g 0) q.1) 2 (nI (w - (gN g 0)))) (w - (gN g 0)) lim (c - 1) (0, q.2.2.2.1, q.2.2.2.2.1, q.2.2.2.2.2.1)).1, (rFd (upd (rUw q.1 c (w - (gN g 0)) (gN g 0) q.1) 2 (nI (w - (gN g 0)))) (w - (gN g 0)) lim (c - 1) (0, q.2.2.2.1, q.2.2.2.2.1, q.2.2.2.2.2.1)).2.1, (rFd (upd (rUw q.1 c (w - (gN g 0)) (gN g 0) q.1) 2 (nI (w - (gN g 0)))) (w - (gN g 0)) lim (c - 1) (0, q.2.2.2.1, q.2.2.2.2.1, q.2.2.2.2.2.1)).2.2.1, (rFd (upd (rUw q.1 c (w - (gN g 0)) (gN g 0) q.1) 2 (nI (w - (gN g 0)))) (w - (gN g 0)) lim (c - 1) (0, q.2.2.2.1, q.2.2.2.2.1, q.2.2.2.2.2.1)).2.2.2, (nI ((gN g 0) * c)))) else (nI 1, q))
  else if wd = 19639 then (if zIn (g 0) (nI (rFd q.1 w lim (c - 1) (0, q.2.2.2.1, q.2.2.2.2.1, q.2.2.2.2.2.1)).1) then (if q.1 (rSx (rFd q.1 w lim (c - 1) (0, q.2.2.2.1, q.2.2.2.2.1, q.2.2.2.2.2.1)).2.1 (rFd q.1 w lim (c - 1) (0, q.2.2.2.1, q.2.2.2.2.1, q.2.2.2.2.2.1)).2.2.1 (gN g 0)) == nI 1 then (nI 2, q.1, q.2.1, (rFd q.1 w lim (c - 1) (0, q.2.2.2.1, q.2.2.2.2.1, q.2.2.2.2.2.1)).1, (rFd q.1 w lim (c - 1) (0, q.2.2.2.1, q.2.2.2.2.1, q.2.2.2.2.2.1)).2.1, (rFd q.1 w lim (c - 1) (0, q.2.2.2.1, q.2.2.2.2.1, q.2.2.2.2.2.1)).2.2.1, (rFd q.1 w lim (c - 1) (0, q.2.2.2.1, q.2.2.2.2.1, q.2.2.2.2.2.1)).2.2.2, q.2.2.2.2.2.2) else (nI 0, (upd q.1 (rSx (rFd q.1 w lim (c - 1) (0, q.2.2.2.1, q.2.2.2.2.1, q.2.2.2.2.2.1)).2.1 (rFd q.1 w lim (c - 1) (0, q.2.2.2.1, q.2.2.2.2.1, q.2.2.2.2.2.1)).2.2.1 (gN g 0)) (nI 1)), q.2.1, (rFd q.1 w lim (c - 1) (0, q.2.2.2.1, q.2.2.2.2.1, q.2.2.2.2.2.1)).1, (rFd q.1 w lim (c - 1) (0, q.2.2.2.1, q.2.2.2.2.1, q.2.2.2.2.2.1)).2.1, (rFd q.1 w lim (c - 1) (0, q.2.2.2.1, q.2.2.2.2.1, q.2.2.2.2.2.1)).2.2.1, (rFd q.1 w lim (c - 1) (0, q.2.2.2.1, q.2.2.2.2.1, q.2.2.2.2.2.1)).2.2.2, (nI (rFd q.1 w lim (c - 1) (0, q.2.2.2.1, q.2.2.2.2.1, q.2.2.2.2.2.1)).1 - nI (zCt (fun k => (upd q.1 (rSx (rFd q.1 w lim (c - 1) (0, q.2.2.2.1, q.2.2.2.2.1, q.2.2.2.2.2.1)).2.1 (rFd q.1 w lim (c - 1) (0, q.2.2.2.1, q.2.2.2.2.1, q.2.2.2.2.2.1)).2.2.1 (gN g 0)) (nI 1)) (rSx (rFd q.1 w lim (c - 1) (0, q.2.2.2.1, q.2.2.2.2.1, q.2.2.2.2.2.1)).2.1 (rFd q.1 w lim (c - 1) (0, q.2.2.2.1, q.2.2.2.2.1, q.2.2.2.2.2.1)).2.2.1 k) == nI 1) (rFd q.1 w lim (c - 1) (0, q.2.2.2.1, q.2.2.2.2.1, q.2.2.2.2.2.1)).1)))) else (nI 1, q.1, q.2.1, (rFd q.1 w lim (c - 1) (0, q.2.2.2.1, q.2.2.2.2.1, q.2.2.2.2.2.1)).1, (rFd q.1 w lim (c - 1) (0, q.2.2.2.1, q.2.2.2.2.1, q.2.2.2.2.2.1)).2.1, (rFd q.1 w lim (c - 1) (0, q.2.2.2.1, q.2.2.2.2.1, q.2.2.2.2.2.1)).2.2.1, (rFd q.1 w lim (c - 1) (0, q.2.2.2.1, q.2.2.2.2.1, q.2.2.2.2.2.1)).2.2.2, q.2.2.2.2.2.2))
  else (if zFr (nI 1) (g 0) (nI 16) then (nI 0, (rFg (upd q.1 4 (nI (gN g 0))) (rFd (upd q.1 4 (nI (gN g 0))) w (gN g 0) (c - 1) (0, q.2.2.2.1, q.2.2.2.2.1, q.2.2.2.2.2.1)).2.1 (rFd (upd q.1 4 (nI (gN g 0))) w (gN g 0) (c - 1) (0, q.2.2.2.1, q.2.2.2.2.1, q.2.2.2.2.2.1)).2.2.1 (rFd (upd q.1 4 (nI (gN g 0))) w (gN g 0) (c - 1) (0, q.2.2.2.1, q.2.2.2.2.1, q.2.2.2.2.2.1)).1), q.2.1, (rFd (upd q.1 4 (nI (gN g 0))) w (gN g 0) (c - 1) (0, q.2.2.2.1, q.2.2.2.2.1, q.2.2.2.2.2.1)).1, (rFd (upd q.1 4 (nI (gN g 0))) w (gN g 0) (c - 1) (0, q.2.2.2.1, q.2.2.2.2.1, q.2.2.2.2.2.1)).2.1, (rFd (upd q.1 4 (nI (gN g 0))) w (gN g 0) (c - 1) (0, q.2.2.2.1, q.2.2.2.2.1, q.2.2.2.2.2.1)).2.2.1, (rFd (upd q.1 4 (nI (gN g 0))) w (gN g 0) (c - 1) (0, q.2.2.2.1, q.2.2.2.2.1, q.2.2.2.2.2.1)).2.2.2, (nI lim)) else (nI 1, q))
theorem zFr_n {a n b : Nat} (hn : n < 2 ^ 31) (hb : b < 2 ^ 31) (h : zFr (nI a) (nI n) (nI b) = true) : n ≤ b := by
  unfold zFr at h
  rw [Bool.and_eq_true] at h
  refine Nat.le_of_not_lt fun q => ?_
  rw [decide_eq_true (nI_lt q hn)] at h
  exact absurd h.2 (by decide)

set_option maxHeartbeats 8000000 in
theorem m_does {G : zT} {S : zS} {X : zXr} {out : Nat → Int64} {s : (Nat → Int32)} {past : (Nat → Int32)} {aside : (Nat → Int32)} {pasts : Nat} {txt : (Nat → Int32)} {typed : Nat} {thrown : Int32} {line : (Nat → Int32)} {need : (Nat → Int32)} {left : (Nat → Int32)} {slits : Nat} {slB : (Nat → Int32)} {slF : (Nat → Int32)} {slT : (Nat → Int32)} {at9 : Nat} {wd9 : Int32} {got : (Nat → Int32)} {ans : Int32} {worst : UInt32} (hG : zAl G = false) {c r w cnt lim : Nat} (hM : zMd s c r w cnt lim) (hY : ∀ y b, y < w → b < c → rY s y b = -1 ∨ ∃ j, j < 16 ∧ rY s y b = nI j) (hnum : ∃ n, rNc wd9 = some n) (hg : ∀ j, j < 5 → ∃ n, n ≤ 999 ∧ got j = nI n) : zRun G mX10_does 0 0 [.ref 114] (zHp S X (s, past, aside, pasts, txt, typed, thrown, line, need, left, slits, slB, slF, slT, at9, wd9, got, ans, worst) out) (.inr (some (.int (rDo c r w cnt lim wd9 got (s, line, slits, slB, slF, slT, ans)).1))) (zHp S X ((rDo c r w cnt lim wd9 got (s, line, slits, slB, slF, slT, ans)).2.1, past, aside, pasts, txt, typed, thrown, (rDo c r w cnt lim wd9 got (s, line, slits, slB, slF, slT, ans)).2.2.1, need, left, (rDo c r w cnt lim wd9 got (s, line, slits, slB, slF, slT, ans)).2.2.2.1, (rDo c r w cnt lim wd9 got (s, line, slits, slB, slF, slT, ans)).2.2.2.2.1, (rDo c r w cnt lim wd9 got (s, line, slits, slB, slF, slT, ans)).2.2.2.2.2.1, (rDo c r w cnt lim wd9 got (s, line, slits, slB, slF, slT, ans)).2.2.2.2.2.2.1, at9, wd9, got, (rDo c r w cnt lim wd9 got (s, line, slits, slB, slF, slT, ans)).2.2.2.2.2.2.2, worst) out) := by
  have hgn : ∀ j, j < 5 → got j = nI (gN got j) ∧ gN got j ≤ 999 := fun j hj => by
    obtain ⟨n, h1, h2⟩ := hg j hj
    unfold gN
    rw [h2, nI_clamp (by omega)]
    exact ⟨rfl, h1⟩
  have e0 := (hgn 0 (by decide)).1
  have e1 := (hgn 1 (by decide)).1
  have e2 := (hgn 2 (by decide)).1
  have e3 := (hgn 3 (by decide)).1
  have b0 := (hgn 0 (by decide)).2
  have b1 := (hgn 1 (by decide)).2
  have b2 := (hgn 2 (by decide)).2
  have b3 := (hgn 3 (by decide)).2
  have hM9 := hM
  obtain ⟨h0, h1, h2, h3, h4, hc1, hc, hr1, hr, hw, hn, hl⟩ := hM
  unfold rDo
  by_cases w0 : wd9 = 3554952
  · subst w0
    rw [if_pos rfl]
    by_cases q : (zFr (nI 1) (got 0) (nI 20) && zFr (nI 1) (got 1) (nI 16)) = true
    · rw [if_pos q]
      exact m_do_cloth hG hM9 _ e0 _ e1 (by rw [← e0, ← e1]; exact q)
    · rw [if_neg q]
      exact m_do_cloth_1 hG (Bool.eq_false_iff.mpr q)
  rw [if_neg w0]
  by_cases w1 : wd9 = 635184
  · subst w1
    rw [if_pos rfl]
    by_cases q : zIn (got 0) (nI c) = true
    · rw [if_pos q]
      by_cases q2 : zFr (nI 0) (got 1) (nI 7) = true
      · rw [if_pos q2]
        exact m_do_slip hG hM9 _ e0 (by rw [e0, zIn_n (by omega) (by omega)] at q; exact of_decide_eq_true q) q2
      · rw [if_neg q2]
        exact m_do_slip_2 hG hM9 q (Bool.eq_false_iff.mpr q2)
    · rw [if_neg q]
      exact m_do_slip_1 hG hM9 (Bool.eq_false_iff.mpr q)
  rw [if_neg w1]
  by_cases w2 : wd9 = 206220
  · subst w2
    rw [if_pos rfl]
    by_cases q : ((zIn (got 0) (nI c) && zIn (got 1) (nI r)) && (zIn (got 2) (nI c) && zIn (got 3) (nI r))) = true
    · rw [if_pos q]
      by_cases q2 : got 2 < got 0 ∨ got 3 < got 1 ∨ zFr (nI 0) (got 4) (nI 7) = false
      · rw [if_pos q2]
        exact m_do_fill_2 hG hM9 q q2
      · rw [if_neg q2]
        have q3 := not_or.mp q2
        have q4 := not_or.mp q3.2
        have z := q
        rw [e0, e1, e2, e3, zIn_n (by omega) (by omega), zIn_n (by omega) (by omega), zIn_n (by omega) (by omega), zIn_n (by omega) (by omega), Bool.and_eq_true, Bool.and_eq_true, Bool.and_eq_true] at z
        refine m_do_fill hG hM9 _ e0 _ e1 _ e2 _ e3 (m_nlt (by omega) (by omega) (by rw [← e0, ← e2]; exact q3.1)) (of_decide_eq_true z.2.1) (m_nlt (by omega) (by omega) (by rw [← e1, ← e3]; exact q4.1)) (of_decide_eq_true z.2.2) ?_
        cases q5 : zFr (nI 0) (got 4) (nI 7)
        · exact absurd q5 q4.2
        · rfl
    · rw [if_neg q]
      exact m_do_fill_1 hG hM9 (Bool.eq_false_iff.mpr q)
  rw [if_neg w2]
  by_cases w3 : wd9 = 12788
  · subst w3
    rw [if_pos rfl]
    have hf2 : zPos (FP.i2f (got 2)) := by
      rw [e2]
      exact fp_i2f _ (by omega)
    by_cases q : (zFr (nI 0) (got 0) (nI 7) && (zFr (nI 1) (got 1) (nI 999) && rShd (FP.i2f (got 2)).toInt32)) = true
    · rw [if_pos q]
      by_cases q2 : cnt = 16
      · rw [if_pos q2]
        exact m_do_lot_2 hG hM9 hf2 q q2
      · rw [if_neg q2]
        exact m_do_lot hG hM9 hf2 q (by omega)
    · rw [if_neg q]
      exact m_do_lot_1 hG hM9 hf2 (Bool.eq_false_iff.mpr q)
  rw [if_neg w3]
  by_cases w4 : wd9 = 24282821
  · subst w4
    rw [if_pos rfl]
    by_cases q : zFr (nI 1) (got 0) (nI 16) = true
    · rw [if_pos q]
      have q9 := q
      rw [e0] at q9
      exact m_do_weave hG hM9 _ e0 q9 (zFr_n (by omega) (by decide) q9)
    · rw [if_neg q]
      exact m_do_weave_1 hG (Bool.eq_false_iff.mpr q)
  rw [if_neg w4]
  by_cases w5 : wd9 = 702607
  · subst w5
    rw [if_pos rfl]
    by_cases q : zFr (nI 1) (got 0) (nI 16) = true
    · rw [if_pos q]
      have q9 := q
      rw [e0] at q9
      by_cases q2 : w < gN got 0
      · rw [if_pos q2]
        exact m_do_undo_2 hG hM9 _ e0 q9 (zFr_n (by omega) (by decide) q9) q2
      · rw [if_neg q2]
        exact m_do_undo hG hM9 _ e0 q9 (zFr_n (by omega) (by decide) q9) (by omega) hY
    · rw [if_neg q]
      exact m_do_undo_1 hG (Bool.eq_false_iff.mpr q)
  rw [if_neg w5]
  by_cases w6 : wd9 = 19639
  · subst w6
    rw [if_pos rfl]
    have hq160 := (rFd_sl (s := s) (lm := lim) (B := slB) (F := slF) (T := slT) (show w ≤ 16 by omega) (c - 1) (by omega)).1
    by_cases q : zIn (got 0) (nI (rFd s w lim (c - 1) (0, slB, slF, slT)).1) = true
    · rw [if_pos q]
      have q9 := q
      rw [e0, zIn_n (by omega) (by omega)] at q9
      by_cases q2 : (s (rSx (rFd s w lim (c - 1) (0, slB, slF, slT)).2.1 (rFd s w lim (c - 1) (0, slB, slF, slT)).2.2.1 (gN got 0)) == nI 1) = true
      · rw [if_pos q2]
        exact m_do_sew_2 hG hM9 _ e0 (of_decide_eq_true q9) q2
      · rw [if_neg q2]
        exact m_do_sew hG hM9 _ e0 (of_decide_eq_true q9) (Bool.eq_false_iff.mpr q2)
    · rw [if_neg q]
      exact m_do_sew_1 hG hM9 (Bool.eq_false_iff.mpr q)
  rw [if_neg w6]
  have w7 : wd9 = 12891444 := by
    obtain ⟨n, hn9⟩ := hnum
    unfold rNc at hn9
    rw [if_neg w0, if_neg w1, if_neg w2, if_neg w3, if_neg w4, if_neg w5, if_neg w6] at hn9
    refine Decidable.byContradiction fun z => ?_
    rw [if_neg z] at hn9
    cases hn9
  subst w7
  by_cases q : zFr (nI 1) (got 0) (nI 16) = true
  · rw [if_pos q]
    have q9 := q
    rw [e0] at q9
    exact m_do_limit hG hM9 _ e0 q9 (zFr_n (by omega) (by decide) q9)
  · rw [if_neg q]
    exact m_do_limit_1 hG (Bool.eq_false_iff.mpr q)

