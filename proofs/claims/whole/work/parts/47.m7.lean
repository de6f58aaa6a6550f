abbrev zE6 : Type := (Nat → Int32) × Nat × (Nat → Int32) × (Nat → Int32) × (Nat → Int32) × UInt32
def rFq (s : Nat → Int32) (c w lim : Nat) (q : zE6) : zF4 := rFd s w lim (c - 1) (0, q.2.2.1, q.2.2.2.1, q.2.2.2.2.1)
def rWhV (s : Nat → Int32) (c r w cnt lim typed : Nat) (q : zE6) (t : Nat) : Int32 := match t with
  | 0 => nI c
  | 1 => nI r
  | 2 => nI w
  | 3 => nI cnt
  | 4 => nI (zCt (fun b => !decide (s (71 + b) < 0)) c)
  | 5 => nI (zSN (fun y => zCt (fun b => !(rW s y b == rD s c y b)) c) w)
  | 6 => nI (rFq s c w lim q).1
  | 7 => nI (zCt (fun k => s (rSx (rFq s c w lim q).2.1 (rFq s c w lim q).2.2.1 k) == nI 1) (rFq s c w lim q).1)
  | 8 => rSwR s (rFq s c w lim q).2.1 (rFq s c w lim q).2.2.1 (rFq s c w lim q).2.2.2 (rFq s c w lim q).1
  | 9 => nI (rSy s c w false w (0, FP.fconst0)).1
  | 10 => nI (rSy s c w true w (0, FP.fconst0)).1
  | 11 => nI (zMx (fun y => zCt (rBeg (rW s y)) c) w)
  | 12 => nI (zSN (fun y => rFre s (rW s y) c y) w)
  | 13 => nI lim
  | _ => nI typed
def rWhY (s : Nat → Int32) (c w lim : Nat) (t : Nat) (q : zE6) : zE6 := match t with
  | 6 => (q.1, (rFq s c w lim q).1, (rFq s c w lim q).2.1, (rFq s c w lim q).2.2.1, (rFq s c w lim q).2.2.2, q.2.2.2.2.2)
  | 7 => (q.1, (rFq s c w lim q).1, (rFq s c w lim q).2.1, (rFq s c w lim q).2.2.1, (rFq s c w lim q).2.2.2, q.2.2.2.2.2)
  | 8 => (q.1, (rFq s c w lim q).1, (rFq s c w lim q).2.1, (rFq s c w lim q).2.2.1, (rFq s c w lim q).2.2.2, q.2.2.2.2.2)
  | 9 => (q.1, q.2.1, q.2.2.1, q.2.2.2.1, q.2.2.2.2.1, (rSy s c w false w (0, FP.fconst0)).2)
  | 10 => (q.1, q.2.1, q.2.2.1, q.2.2.2.1, q.2.2.2.2.1, (rSy s c w true w (0, FP.fconst0)).2)
  | 11 => (zIt (fun y L => zFl (rW s y) L c) w q.1, q.2)
  | 12 => (zIt (fun y L => zFl (rW s y) L c) w q.1, q.2)
  | _ => q
def rGa (s : Nat → Int32) (c r w cnt lim typed k : Nat) (p : Int64 × zE6) : Int64 × zE6 := zIt (fun t p => (zMix p.1 (rWhV s c r w cnt lim typed p.2 t), rWhY s c w lim t p.2)) k p
def rGdK (s : Nat → Int32) (c w y x k : Nat) (h : Int64) : Int64 := zIt (fun t h => zMix h (rCe s c w x y t)) k h
def rGdX (s : Nat → Int32) (c w y x : Nat) (h : Int64) : Int64 := zIt (fun x h => rGdK s c w y x 3 h) x h
def rGd (s : Nat → Int32) (c w y : Nat) (h : Int64) : Int64 := zIt (fun y h => rGdX s c w y c h) y h
def rGrK (s : Nat → Int32) (c cnt y k : Nat) (p : Int64 × (Nat → Int32)) : Int64 × (Nat → Int32) := zIt (fun t p => (zMix p.1 (rRo s c cnt y t), rRoL s c y t p.2)) k p
def rGr (s : Nat → Int32) (c cnt y : Nat) (p : Int64 × (Nat → Int32)) : Int64 × (Nat → Int32) := zIt (fun y p => (zMix (rGrK s c cnt y 5 p).1 (rCn s c y).toInt32, (rGrK s c cnt y 5 p).2)) y p
def rGlK (s : Nat → Int32) (c w cnt l k : Nat) (h : Int64) : Int64 := zIt (fun t h => zMix h (rLo s c w cnt l t)) k h
def rGl (s : Nat → Int32) (c w cnt l : Nat) (h : Int64) : Int64 := zIt (fun l h => rGlK s c w cnt l 6 h) l h
def rGcK (s : Nat → Int32) (c r w cnt v k : Nat) (p : Int64 × (Nat → Int32)) : Int64 × (Nat → Int32) := zIt (fun t p => (zMix p.1 (rCo s c r w cnt (nI v) t), rCoL s c r w t p.2)) k p
def rGc (s : Nat → Int32) (c r w cnt v : Nat) (p : Int64 × (Nat → Int32)) : Int64 × (Nat → Int32) := zIt (fun v p => (zMix (rGcK s c r w cnt v 6 p).1 (rMe s c w (nI v)).toInt32, (rGcK s c r w cnt v 6 p).2)) v p
def rGsK (s : Nat → Int32) (q : zF4) (j k : Nat) (h : Int64) : Int64 := zIt (fun t h => zMix h (rSt s q j t)) k h
def rGs (s : Nat → Int32) (q : zF4) (j : Nat) (h : Int64) : Int64 := zIt (fun j h => rGsK s q j 4 h) j h

set_option maxHeartbeats 4000000 in
set_option maxRecDepth 100000 in
theorem m_wholeOf_0 {G : zT} {S : zS} {X : zXr} {out : Nat → Int64} {s : (Nat → Int32)} {past : (Nat → Int32)} {aside : (Nat → Int32)} {pasts : Nat} {txt : (Nat → Int32)} {typed : Nat} {thrown : Int32} {line : (Nat → Int32)} {need : (Nat → Int32)} {left : (Nat → Int32)} {slits : Nat} {slB : (Nat → Int32)} {slF : (Nat → Int32)} {slT : (Nat → Int32)} {at9 : Nat} {wd9 : Int32} {got : (Nat → Int32)} {ans : Int32} {worst : UInt32} (hG : zAl G = false) {c r w cnt lim : Nat} (hM : zMd s c r w cnt lim) (hsh : rShs s) (hY : ∀ y b, y < w → b < c → rY s y b = -1 ∨ ∃ j, j < 16 ∧ rY s y b = nI j) (htl : rShv (s 5)) : zRun G mX10_wholeOf 0 0 [.ref 114, .int (nI 0)] (zHp S X (s, past, aside, pasts, txt, typed, thrown, line, need, left, slits, slB, slF, slT, at9, wd9, got, ans, worst) out) (.inr (some (.int (nI c)))) (zHp S X (s, past, aside, pasts, txt, typed, thrown, line, need, left, slits, slB, slF, slT, at9, wd9, got, ans, worst) out) := by
  have hM9 := hM
  obtain ⟨h0, h1, h2, h3, h4, hc1, hc, hr1, hr, hw, hn, hl⟩ := hM
  refine zRun_of (by decide +kernel) rfl rfl (Nat.le_of_ble_eq_true rfl) ?_
  suffices hs : ∀ (o9 : zO) (h9 : zH), (Sum.inr (some (.int (nI c))) : zO) = o9 → (zHp S X (s, past, aside, pasts, txt, typed, thrown, line, need, left, slits, slB, slF, slT, at9, wd9, got, ans, worst) out) = h9 → zPW G mX10_wholeOf 0 0 o9 h9 0 0 0 [(0, .ref 114), (1, .int (nI 0))] [] (zHp S X (s, past, aside, pasts, txt, typed, thrown, line, need, left, slits, slB, slF, slT, at9, wd9, got, ans, worst) out) from hs _ _ rfl rfl
  intro o9 h9 ho9 hh9
  refine z_iload_n 1 dX10_wholeOf_0 rfl rfl ?_
  refine z_tableIn (off := 75) (tgt := 76) dX10_wholeOf_1 (by decide) (by decide) (by decide +kernel) (by decide) ?_
  refine z_aload_n 0 dX10_wholeOf_76 rfl rfl ?_
  refine z_get (v := .ref 115) 0 zgo_114 rfl inX10 (by decide) zw_1178 rfl rfl dX10_wholeOf_77 ?_
  refine z_iload_n 1 dX10_wholeOf_80 rfl rfl ?_
  refine z_ialdN (f := s) (n := 1371) (j := 0) zga_115 (by omega) (by decide) dX10_wholeOf_81 ?_
  refine z_top (v2 := .int (nI c)) (by rw [h0]) ?_
  exact z_iret rfl dX10_wholeOf_82 (zo_i ho9 (by rfl)) (zo_h hh9 (by rfl)) (Nat.zero_le _) (Nat.zero_le _)

set_option maxHeartbeats 4000000 in
set_option maxRecDepth 100000 in
theorem m_wholeOf_1 {G : zT} {S : zS} {X : zXr} {out : Nat → Int64} {s : (Nat → Int32)} {past : (Nat → Int32)} {aside : (Nat → Int32)} {pasts : Nat} {txt : (Nat → Int32)} {typed : Nat} {thrown : Int32} {line : (Nat → Int32)} {need : (Nat → Int32)} {left : (Nat → Int32)} {slits : Nat} {slB : (Nat → Int32)} {slF : (Nat → Int32)} {slT : (Nat → Int32)} {at9 : Nat} {wd9 : Int32} {got : (Nat → Int32)} {ans : Int32} {worst : UInt32} (hG : zAl G = false) {c r w cnt lim : Nat} (hM : zMd s c r w cnt lim) (hsh : rShs s) (hY : ∀ y b, y < w → b < c → rY s y b = -1 ∨ ∃ j, j < 16 ∧ rY s y b = nI j) (htl : rShv (s 5)) : zRun G mX10_wholeOf 0 0 [.ref 114, .int (nI 1)] (zHp S X (s, past, aside, pasts, txt, typed, thrown, line, need, left, slits, slB, slF, slT, at9, wd9, got, ans, worst) out) (.inr (some (.int (nI r)))) (zHp S X (s, past, aside, pasts, txt, typed, thrown, line, need, left, slits, slB, slF, slT, at9, wd9, got, ans, worst) out) := by
  have hM9 := hM
  obtain ⟨h0, h1, h2, h3, h4, hc1, hc, hr1, hr, hw, hn, hl⟩ := hM
  refine zRun_of (by decide +kernel) rfl rfl (Nat.le_of_ble_eq_true rfl) ?_
  suffices hs : ∀ (o9 : zO) (h9 : zH), (Sum.inr (some (.int (nI r))) : zO) = o9 → (zHp S X (s, past, aside, pasts, txt, typed, thrown, line, need, left, slits, slB, slF, slT, at9, wd9, got, ans, worst) out) = h9 → zPW G mX10_wholeOf 0 0 o9 h9 0 0 0 [(0, .ref 114), (1, .int (nI 1))] [] (zHp S X (s, past, aside, pasts, txt, typed, thrown, line, need, left, slits, slB, slF, slT, at9, wd9, got, ans, worst) out) from hs _ _ rfl rfl
  intro o9 h9 ho9 hh9
  refine z_iload_n 1 dX10_wholeOf_0 rfl rfl ?_
  refine z_tableIn (off := 75) (tgt := 76) dX10_wholeOf_1 (by decide) (by decide) (by decide +kernel) (by decide) ?_
  refine z_aload_n 0 dX10_wholeOf_76 rfl rfl ?_
  refine z_get (v := .ref 115) 0 zgo_114 rfl inX10 (by decide) zw_1178 rfl rfl dX10_wholeOf_77 ?_
  refine z_iload_n 1 dX10_wholeOf_80 rfl rfl ?_
  refine z_ialdN (f := s) (n := 1371) (j := 1) zga_115 (by omega) (by decide) dX10_wholeOf_81 ?_
  refine z_top (v2 := .int (nI r)) (by rw [h1]) ?_
  exact z_iret rfl dX10_wholeOf_82 (zo_i ho9 (by rfl)) (zo_h hh9 (by rfl)) (Nat.zero_le _) (Nat.zero_le _)

set_option maxHeartbeats 4000000 in
set_option maxRecDepth 100000 in
theorem m_wholeOf_2 {G : zT} {S : zS} {X : zXr} {out : Nat → Int64} {s : (Nat → Int32)} {past : (Nat → Int32)} {aside : (Nat → Int32)} {pasts : Nat} {txt : (Nat → Int32)} {typed : Nat} {thrown : Int32} {line : (Nat → Int32)} {need : (Nat → Int32)} {left : (Nat → Int32)} {slits : Nat} {slB : (Nat → Int32)} {slF : (Nat → Int32)} {slT : (Nat → Int32)} {at9 : Nat} {wd9 : Int32} {got : (Nat → Int32)} {ans : Int32} {worst : UInt32} (hG : zAl G = false) {c r w cnt lim : Nat} (hM : zMd s c r w cnt lim) (hsh : rShs s) (hY : ∀ y b, y < w → b < c → rY s y b = -1 ∨ ∃ j, j < 16 ∧ rY s y b = nI j) (htl : rShv (s 5)) : zRun G mX10_wholeOf 0 0 [.ref 114, .int (nI 2)] (zHp S X (s, past, aside, pasts, txt, typed, thrown, line, need, left, slits, slB, slF, slT, at9, wd9, got, ans, worst) out) (.inr (some (.int (nI w)))) (zHp S X (s, past, aside, pasts, txt, typed, thrown, line, need, left, slits, slB, slF, slT, at9, wd9, got, ans, worst) out) := by
  have hM9 := hM
  obtain ⟨h0, h1, h2, h3, h4, hc1, hc, hr1, hr, hw, hn, hl⟩ := hM
  refine zRun_of (by decide +kernel) rfl rfl (Nat.le_of_ble_eq_true rfl) ?_
  suffices hs : ∀ (o9 : zO) (h9 : zH), (Sum.inr (some (.int (nI w))) : zO) = o9 → (zHp S X (s, past, aside, pasts, txt, typed, thrown, line, need, left, slits, slB, slF, slT, at9, wd9, got, ans, worst) out) = h9 → zPW G mX10_wholeOf 0 0 o9 h9 0 0 0 [(0, .ref 114), (1, .int (nI 2))] [] (zHp S X (s, past, aside, pasts, txt, typed, thrown, line, need, left, slits, slB, slF, slT, at9, wd9, got, ans, worst) out) from hs _ _ rfl rfl
  intro o9 h9 ho9 hh9
  refine z_iload_n 1 dX10_wholeOf_0 rfl rfl ?_
  refine z_tableIn (off := 75) (tgt := 76) dX10_wholeOf_1 (by decide) (by decide) (by decide +kernel) (by decide) ?_
  refine z_aload_n 0 dX10_wholeOf_76 rfl rfl ?_
  refine z_get (v := .ref 115) 0 zgo_114 rfl inX10 (by decide) zw_1178 rfl rfl dX10_wholeOf_77 ?_
  refine z_iload_n 1 dX10_wholeOf_80 rfl rfl ?_
  refine z_ialdN (f := s) (n := 1371) (j := 2) zga_115 (by omega) (by decide) dX10_wholeOf_81 ?_
  refine z_top (v2 := .int (nI w)) (by rw [h2]) ?_
  exact z_iret rfl dX10_wholeOf_82 (zo_i ho9 (by rfl)) (zo_h hh9 (by rfl)) (Nat.zero_le _) (Nat.zero_le _)

set_option maxHeartbeats 4000000 in
set_option maxRecDepth 100000 in
theorem m_wholeOf_3 {G : zT} {S : zS} {X : zXr} {out : Nat → Int64} {s : (Nat → Int32)} {past : (Nat → Int32)} {aside : (Nat → Int32)} {pasts : Nat} {txt : (Nat → Int32)} {typed : Nat} {thrown : Int32} {line : (Nat → Int32)} {need : (Nat → Int32)} {left : (Nat → Int32)} {slits : Nat} {slB : (Nat → Int32)} {slF : (Nat → Int32)} {slT : (Nat → Int32)} {at9 : Nat} {wd9 : Int32} {got : (Nat → Int32)} {ans : Int32} {worst : UInt32} (hG : zAl G = false) {c r w cnt lim : Nat} (hM : zMd s c r w cnt lim) (hsh : rShs s) (hY : ∀ y b, y < w → b < c → rY s y b = -1 ∨ ∃ j, j < 16 ∧ rY s y b = nI j) (htl : rShv (s 5)) : zRun G mX10_wholeOf 0 0 [.ref 114, .int (nI 3)] (zHp S X (s, past, aside, pasts, txt, typed, thrown, line, need, left, slits, slB, slF, slT, at9, wd9, got, ans, worst) out) (.inr (some (.int (nI cnt)))) (zHp S X (s, past, aside, pasts, txt, typed, thrown, line, need, left, slits, slB, slF, slT, at9, wd9, got, ans, worst) out) := by
  have hM9 := hM
  obtain ⟨h0, h1, h2, h3, h4, hc1, hc, hr1, hr, hw, hn, hl⟩ := hM
  refine zRun_of (by decide +kernel) rfl rfl (Nat.le_of_ble_eq_true rfl) ?_
  suffices hs : ∀ (o9 : zO) (h9 : zH), (Sum.inr (some (.int (nI cnt))) : zO) = o9 → (zHp S X (s, past, aside, pasts, txt, typed, thrown, line, need, left, slits, slB, slF, slT, at9, wd9, got, ans, worst) out) = h9 → zPW G mX10_wholeOf 0 0 o9 h9 0 0 0 [(0, .ref 114), (1, .int (nI 3))] [] (zHp S X (s, past, aside, pasts, txt, typed, thrown, line, need, left, slits, slB, slF, slT, at9, wd9, got, ans, worst) out) from hs _ _ rfl rfl
  intro o9 h9 ho9 hh9
  refine z_iload_n 1 dX10_wholeOf_0 rfl rfl ?_
  refine z_tableIn (off := 75) (tgt := 76) dX10_wholeOf_1 (by decide) (by decide) (by decide +kernel) (by decide) ?_
  refine z_aload_n 0 dX10_wholeOf_76 rfl rfl ?_
  refine z_get (v := .ref 115) 0 zgo_114 rfl inX10 (by decide) zw_1178 rfl rfl dX10_wholeOf_77 ?_
  refine z_iload_n 1 dX10_wholeOf_80 rfl rfl ?_
  refine z_ialdN (f := s) (n := 1371) (j := 3) zga_115 (by omega) (by decide) dX10_wholeOf_81 ?_
  refine z_top (v2 := .int (nI cnt)) (by rw [h3]) ?_
  exact z_iret rfl dX10_wholeOf_82 (zo_i ho9 (by rfl)) (zo_h hh9 (by rfl)) (Nat.zero_le _) (Nat.zero_le _)

set_option maxHeartbeats 4000000 in
set_option maxRecDepth 100000 in
theorem m_wholeOf_4 {G : zT} {S : zS} {X : zXr} {out : Nat → Int64} {s : (Nat → Int32)} {past : (Nat → Int32)} {aside : (Nat → Int32)} {pasts : Nat} {txt : (Nat → Int32)} {typed : Nat} {thrown : Int32} {line : (Nat → Int32)} {need : (Nat → Int32)} {left : (Nat → Int32)} {slits : Nat} {slB : (Nat → Int32)} {slF : (Nat → Int32)} {slT : (Nat → Int32)} {at9 : Nat} {wd9 : Int32} {got : (Nat → Int32)} {ans : Int32} {worst : UInt32} (hG : zAl G = false) {c r w cnt lim : Nat} (hM : zMd s c r w cnt lim) (hsh : rShs s) (hY : ∀ y b, y < w → b < c → rY s y b = -1 ∨ ∃ j, j < 16 ∧ rY s y b = nI j) (htl : rShv (s 5)) : zRun G mX10_wholeOf 0 0 [.ref 114, .int (nI 4)] (zHp S X (s, past, aside, pasts, txt, typed, thrown, line, need, left, slits, slB, slF, slT, at9, wd9, got, ans, worst) out) (.inr (some (.int (nI (zCt (fun b => !decide (s (71 + b) < 0)) c))))) (zHp S X (s, past, aside, pasts, txt, typed, thrown, line, need, left, slits, slB, slF, slT, at9, wd9, got, ans, worst) out) := by
  have hM9 := hM
  obtain ⟨h0, h1, h2, h3, h4, hc1, hc, hr1, hr, hw, hn, hl⟩ := hM
  refine zRun_of (by decide +kernel) rfl rfl (Nat.le_of_ble_eq_true rfl) ?_
  suffices hs : ∀ (o9 : zO) (h9 : zH), (Sum.inr (some (.int (nI (zCt (fun b => !decide (s (71 + b) < 0)) c)))) : zO) = o9 → (zHp S X (s, past, aside, pasts, txt, typed, thrown, line, need, left, slits, slB, slF, slT, at9, wd9, got, ans, worst) out) = h9 → zPW G mX10_wholeOf 0 0 o9 h9 0 0 0 [(0, .ref 114), (1, .int (nI 4))] [] (zHp S X (s, past, aside, pasts, txt, typed, thrown, line, need, left, slits, slB, slF, slT, at9, wd9, got, ans, worst) out) from hs _ _ rfl rfl
  intro o9 h9 ho9 hh9
  refine z_iload_n 1 dX10_wholeOf_0 rfl rfl ?_
  refine z_tableIn (off := 82) (tgt := 83) dX10_wholeOf_1 (by decide) (by decide) (by decide +kernel) (by decide) ?_
  refine z_aload_n 0 dX10_wholeOf_83 rfl rfl ?_
  refine z_callV (N := mX10_planted) 0 [] [] lX10_planted ⟨zw_1340, zw_1342, zw_59⟩ rfl zgo_114 rfl rfl (Nat.le_of_ble_eq_true rfl) (by decide) ⟨zlt, zlt⟩ ⟨Nat.zero_le _, Nat.zero_le _⟩ (fun _ => rfl) (m_planted hG hM9) dX10_wholeOf_84 ?_
  exact z_iret rfl dX10_wholeOf_87 (zo_i ho9 (by rfl)) (zo_h hh9 (by rfl)) (Nat.zero_le _) (Nat.zero_le _)

set_option maxHeartbeats 4000000 in
set_option maxRecDepth 100000 in
theorem m_wholeOf_5 {G : zT} {S : zS} {X : zXr} {out : Nat → Int64} {s : (Nat → Int32)} {past : (Nat → Int32)} {aside : (Nat → Int32)} {pasts : Nat} {txt : (Nat → Int32)} {typed : Nat} {thrown : Int32} {line : (Nat → Int32)} {need : (Nat → Int32)} {left : (Nat → Int32)} {slits : Nat} {slB : (Nat → Int32)} {slF : (Nat → Int32)} {slT : (Nat → Int32)} {at9 : Nat} {wd9 : Int32} {got : (Nat → Int32)} {ans : Int32} {worst : UInt32} (hG : zAl G = false) {c r w cnt lim : Nat} (hM : zMd s c r w cnt lim) (hsh : rShs s) (hY : ∀ y b, y < w → b < c → rY s y b = -1 ∨ ∃ j, j < 16 ∧ rY s y b = nI j) (htl : rShv (s 5)) : zRun G mX10_wholeOf 0 0 [.ref 114, .int (nI 5)] (zHp S X (s, past, aside, pasts, txt, typed, thrown, line, need, left, slits, slB, slF, slT, at9, wd9, got, ans, worst) out) (.inr (some (.int (nI (zSN (fun y => zCt (fun b => !(rW s y b == rD s c y b)) c) w))))) (zHp S X (s, past, aside, pasts, txt, typed, thrown, line, need, left, slits, slB, slF, slT, at9, wd9, got, ans, worst) out) := by
  have hM9 := hM
  obtain ⟨h0, h1, h2, h3, h4, hc1, hc, hr1, hr, hw, hn, hl⟩ := hM
  refine zRun_of (by decide +kernel) rfl rfl (Nat.le_of_ble_eq_true rfl) ?_
  suffices hs : ∀ (o9 : zO) (h9 : zH), (Sum.inr (some (.int (nI (zSN (fun y => zCt (fun b => !(rW s y b == rD s c y b)) c) w)))) : zO) = o9 → (zHp S X (s, past, aside, pasts, txt, typed, thrown, line, need, left, slits, slB, slF, slT, at9, wd9, got, ans, worst) out) = h9 → zPW G mX10_wholeOf 0 0 o9 h9 0 0 0 [(0, .ref 114), (1, .int (nI 5))] [] (zHp S X (s, past, aside, pasts, txt, typed, thrown, line, need, left, slits, slB, slF, slT, at9, wd9, got, ans, worst) out) from hs _ _ rfl rfl
  intro o9 h9 ho9 hh9
  refine z_iload_n 1 dX10_wholeOf_0 rfl rfl ?_
  refine z_tableIn (off := 156) (tgt := 157) dX10_wholeOf_1 (by decide) (by decide) (by decide +kernel) (by decide) ?_
  refine z_aload_n 0 dX10_wholeOf_157 rfl rfl ?_
  refine z_iload_n 1 dX10_wholeOf_158 rfl rfl ?_
  refine z_callV (N := mX10_over) 1 [.int (nI 5)] [] lX10_over ⟨zw_1527, zw_1529, zw_96⟩ rfl zgo_114 rfl rfl (Nat.le_of_ble_eq_true rfl) (by decide) ⟨zlt, zlt⟩ ⟨Nat.zero_le _, Nat.zero_le _⟩ (fun _ => rfl) (m_over_5 hG hM9) dX10_wholeOf_159 ?_
  exact z_iret rfl dX10_wholeOf_162 (zo_i ho9 (by rfl)) (zo_h hh9 (by rfl)) (Nat.zero_le _) (Nat.zero_le _)

set_option maxHeartbeats 4000000 in
set_option maxRecDepth 100000 in
theorem m_wholeOf_6 {G : zT} {S : zS} {X : zXr} {out : Nat → Int64} {s : (Nat → Int32)} {past : (Nat → Int32)} {aside : (Nat → Int32)} {pasts : Nat} {txt : (Nat → Int32)} {typed : Nat} {thrown : Int32} {line : (Nat → Int32)} {need : (Nat → Int32)} {left : (Nat → Int32)} {slits : Nat} {slB : (Nat → Int32)} {slF : (Nat → Int32)} {slT : (Nat → Int32)} {at9 : Nat} {wd9 : Int32} {got : (Nat → Int32)} {ans : Int32} {worst : UInt32} (hG : zAl G = false) {c r w cnt lim : Nat} (hM : zMd s c r w cnt lim) (hsh : rShs s) (hY : ∀ y b, y < w → b < c → rY s y b = -1 ∨ ∃ j, j < 16 ∧ rY s y b = nI j) (htl : rShv (s 5)) : zRun G mX10_wholeOf 0 0 [.ref 114, .int (nI 6)] (zHp S X (s, past, aside, pasts, txt, typed, thrown, line, need, left, slits, slB, slF, slT, at9, wd9, got, ans, worst) out) (.inr (some (.int (nI (rFd s w lim (c - 1) (0, slB, slF, slT)).1)))) (zHp S X (s, past, aside, pasts, txt, typed, thrown, line, need, left, (rFd s w lim (c - 1) (0, slB, slF, slT)).1, (rFd s w lim (c - 1) (0, slB, slF, slT)).2.1, (rFd s w lim (c - 1) (0, slB, slF, slT)).2.2.1, (rFd s w lim (c - 1) (0, slB, slF, slT)).2.2.2, at9, wd9, got, ans, worst) out) := by
  have hM9 := hM
  obtain ⟨h0, h1, h2, h3, h4, hc1, hc, hr1, hr, hw, hn, hl⟩ := hM
  have hsl := rFd_sl (s := s) (lm := lim) (B := slB) (F := slF) (T := slT) (show w ≤ 16 by omega) (c - 1) (by omega)
  have hs160 : (rFd s w lim (c - 1) (0, slB, slF, slT)).1 ≤ 160 := hsl.1
  refine zRun_of (by decide +kernel) rfl rfl (Nat.le_of_ble_eq_true rfl) ?_
  suffices hs : ∀ (o9 : zO) (h9 : zH), (Sum.inr (some (.int (nI (rFd s w lim (c - 1) (0, slB, slF, slT)).1))) : zO) = o9 → (zHp S X (s, past, aside, pasts, txt, typed, thrown, line, need, left, (rFd s w lim (c - 1) (0, slB, slF, slT)).1, (rFd s w lim (c - 1) (0, slB, slF, slT)).2.1, (rFd s w lim (c - 1) (0, slB, slF, slT)).2.2.1, (rFd s w lim (c - 1) (0, slB, slF, slT)).2.2.2, at9, wd9, got, ans, worst) out) = h9 → zPW G mX10_wholeOf 0 0 o9 h9 0 0 0 [(0, .ref 114), (1, .int (nI 6))] [] (zHp S X (s, past, aside, pasts, txt, typed, thrown, line, need, left, slits, slB, slF, slT, at9, wd9, got, ans, worst) out) from hs _ _ rfl rfl
  intro o9 h9 ho9 hh9
  refine z_iload_n 1 dX10_wholeOf_0 rfl rfl ?_
  refine z_tableIn (off := 87) (tgt := 88) dX10_wholeOf_1 (by decide) (by decide) (by decide +kernel) (by decide) ?_
  refine z_aload_n 0 dX10_wholeOf_88 rfl rfl ?_
  refine z_aload_n 0 dX10_wholeOf_89 rfl rfl ?_
  refine z_get (v := .ref 115) 0 zgo_114 rfl inX10 (by decide) zw_1178 rfl rfl dX10_wholeOf_90 ?_
  refine z_iconst (v := nI 4) dX10_wholeOf_93 (by decide) ?_
  refine z_ialdN (f := s) (n := 1371) (j := 4) zga_115 (by omega) (by decide) dX10_wholeOf_94 ?_
  refine z_top (v2 := .int (nI lim)) (by rw [h4]) ?_
  refine z_callV (N := mX10_finds) 1 [.int (nI lim)] [] lX10_finds ⟨zw_1316, zw_1318, zw_54⟩ rfl zgo_114 rfl rfl (Nat.le_of_ble_eq_true rfl) (by decide) ⟨zlt, zlt⟩ ⟨Nat.zero_le _, Nat.zero_le _⟩ zal (m_finds hG hM9 lim (by omega)) dX10_wholeOf_95 ?_
  refine z_iload_n 1 dX10_wholeOf_98 rfl rfl ?_
  refine z_bipush (v := nI 6) dX10_wholeOf_99 (by decide) ?_
  refine z_icmp_ne (tgt := 111) dX10_wholeOf_101 (by decide) (fun c_101 => ?_) (fun c_101 => ?_)
  · exfalso; revert c_101; decide
  · skip
    refine z_aload_n 0 dX10_wholeOf_104 rfl rfl ?_
    refine z_get (v := .int (nI ((rFd s w lim (c - 1) (0, slB, slF, slT)).1))) 10 zgo_114 rfl inX10 (by decide) zw_1188 rfl rfl dX10_wholeOf_105 ?_
    refine z_goto (tgt := 128) dX10_wholeOf_108 (by decide) ?_
    exact z_iret rfl dX10_wholeOf_128 (zo_i ho9 (by rfl)) (zo_h hh9 (by rfl)) (Nat.zero_le _) (Nat.zero_le _)

set_option maxHeartbeats 4000000 in
set_option maxRecDepth 100000 in
theorem m_wholeOf_7 {G : zT} {S : zS} {X : zXr} {out : Nat → Int64} {s : (Nat → Int32)} {past : (Nat → Int32)} {aside : (Nat → Int32)} {pasts : Nat} {txt : (Nat → Int32)} {typed : Nat} {thrown : Int32} {line : (Nat → Int32)} {need : (Nat → Int32)} {left : (Nat → Int32)} {slits : Nat} {slB : (Nat → Int32)} {slF : (Nat → Int32)} {slT : (Nat → Int32)} {at9 : Nat} {wd9 : Int32} {got : (Nat → Int32)} {ans : Int32} {worst : UInt32} (hG : zAl G = false) {c r w cnt lim : Nat} (hM : zMd s c r w cnt lim) (hsh : rShs s) (hY : ∀ y b, y < w → b < c → rY s y b = -1 ∨ ∃ j, j < 16 ∧ rY s y b = nI j) (htl : rShv (s 5)) : zRun G mX10_wholeOf 0 0 [.ref 114, .int (nI 7)] (zHp S X (s, past, aside, pasts, txt, typed, thrown, line, need, left, slits, slB, slF, slT, at9, wd9, got, ans, worst) out) (.inr (some (.int (nI (zCt (fun k => s (rSx (rFd s w lim (c - 1) (0, slB, slF, slT)).2.1 (rFd s w lim (c - 1) (0, slB, slF, slT)).2.2.1 k) == nI 1) (rFd s w lim (c - 1) (0, slB, slF, slT)).1))))) (zHp S X (s, past, aside, pasts, txt, typed, thrown, line, need, left, (rFd s w lim (c - 1) (0, slB, slF, slT)).1, (rFd s w lim (c - 1) (0, slB, slF, slT)).2.1, (rFd s w lim (c - 1) (0, slB, slF, slT)).2.2.1, (rFd s w lim (c - 1) (0, slB, slF, slT)).2.2.2, at9, wd9, got, ans, worst) out) := by
  have hM9 := hM
  obtain ⟨h0, h1, h2, h3, h4, hc1, hc, hr1, hr, hw, hn, hl⟩ := hM
  have hsl := rFd_sl (s := s) (lm := lim) (B := slB) (F := slF) (T := slT) (show w ≤ 16 by omega) (c - 1) (by omega)
  have hs160 : (rFd s w lim (c - 1) (0, slB, slF, slT)).1 ≤ 160 := hsl.1
  refine zRun_of (by decide +kernel) rfl rfl (Nat.le_of_ble_eq_true rfl) ?_
  suffices hs : ∀ (o9 : zO) (h9 : zH), (Sum.inr (some (.int (nI (zCt (fun k => s (rSx (rFd s w lim (c - 1) (0, slB, slF, slT)).2.1 (rFd s w lim (c - 1) (0, slB, slF, slT)).2.2.1 k) == nI 1) (rFd s w lim (c - 1) (0, slB, slF, slT)).1)))) : zO) = o9 → (zHp S X (s, past, aside, pasts, txt, typed, thrown, line, need, left, (rFd s w lim (c - 1) (0, slB, slF, slT)).1, (rFd s w lim (c - 1) (0, slB, slF, slT)).2.1, (rFd s w lim (c - 1) (0, slB, slF, slT)).2.2.1, (rFd s w lim (c - 1) (0, slB, slF, slT)).2.2.2, at9, wd9, got, ans, worst) out) = h9 → zPW G mX10_wholeOf 0 0 o9 h9 0 0 0 [(0, .ref 114), (1, .int (nI 7))] [] (zHp S X (s, past, aside, pasts, txt, typed, thrown, line, need, left, slits, slB, slF, slT, at9, wd9, got, ans, worst) out) from hs _ _ rfl rfl
  intro o9 h9 ho9 hh9
  refine z_iload_n 1 dX10_wholeOf_0 rfl rfl ?_
  refine z_tableIn (off := 87) (tgt := 88) dX10_wholeOf_1 (by decide) (by decide) (by decide +kernel) (by decide) ?_
  refine z_aload_n 0 dX10_wholeOf_88 rfl rfl ?_
  refine z_aload_n 0 dX10_wholeOf_89 rfl rfl ?_
  refine z_get (v := .ref 115) 0 zgo_114 rfl inX10 (by decide) zw_1178 rfl rfl dX10_wholeOf_90 ?_
  refine z_iconst (v := nI 4) dX10_wholeOf_93 (by decide) ?_
  refine z_ialdN (f := s) (n := 1371) (j := 4) zga_115 (by omega) (by decide) dX10_wholeOf_94 ?_
  refine z_top (v2 := .int (nI lim)) (by rw [h4]) ?_
  refine z_callV (N := mX10_finds) 1 [.int (nI lim)] [] lX10_finds ⟨zw_1316, zw_1318, zw_54⟩ rfl zgo_114 rfl rfl (Nat.le_of_ble_eq_true rfl) (by decide) ⟨zlt, zlt⟩ ⟨Nat.zero_le _, Nat.zero_le _⟩ zal (m_finds hG hM9 lim (by omega)) dX10_wholeOf_95 ?_
  refine z_iload_n 1 dX10_wholeOf_98 rfl rfl ?_
  refine z_bipush (v := nI 6) dX10_wholeOf_99 (by decide) ?_
  refine z_icmp_ne (tgt := 111) dX10_wholeOf_101 (by decide) (fun c_101 => ?_) (fun c_101 => ?_)
  · skip
    refine z_iload_n 1 dX10_wholeOf_111 rfl rfl ?_
    refine z_bipush (v := nI 7) dX10_wholeOf_112 (by decide) ?_
    refine z_icmp_ne (tgt := 124) dX10_wholeOf_114 (by decide) (fun c_114 => ?_) (fun c_114 => ?_)
    · exfalso; revert c_114; decide
    · skip
      refine z_aload_n 0 dX10_wholeOf_117 rfl rfl ?_
      refine z_callV (N := mX10_sewn) 0 [] [] lX10_sewn ⟨zw_1416, zw_1418, zw_75⟩ rfl zgo_114 rfl rfl (Nat.le_of_ble_eq_true rfl) (by decide) ⟨zlt, zlt⟩ ⟨Nat.zero_le _, Nat.zero_le _⟩ (fun _ => rfl) (m_sewn hG hsl) dX10_wholeOf_118 ?_
      refine z_goto (tgt := 128) dX10_wholeOf_121 (by decide) ?_
      exact z_iret rfl dX10_wholeOf_128 (zo_i ho9 (by rfl)) (zo_h hh9 (by rfl)) (Nat.zero_le _) (Nat.zero_le _)
  · exfalso; revert c_101; decide

set_option maxHeartbeats 4000000 in
set_option maxRecDepth 100000 in
theorem m_wholeOf_8 {G : zT} {S : zS} {X : zXr} {out : Nat → Int64} {s : (Nat → Int32)} {past : (Nat → Int32)} {aside : (Nat → Int32)} {pasts : Nat} {txt : (Nat → Int32)} {typed : Nat} {thrown : Int32} {line : (Nat → Int32)} {need : (Nat → Int32)} {left : (Nat → Int32)} {slits : Nat} {slB : (Nat → Int32)} {slF : (Nat → Int32)} {slT : (Nat → Int32)} {at9 : Nat} {wd9 : Int32} {got : (Nat → Int32)} {ans : Int32} {worst : UInt32} (hG : zAl G = false) {c r w cnt lim : Nat} (hM : zMd s c r w cnt lim) (hsh : rShs s) (hY : ∀ y b, y < w → b < c → rY s y b = -1 ∨ ∃ j, j < 16 ∧ rY s y b = nI j) (htl : rShv (s 5)) : zRun G mX10_wholeOf 0 0 [.ref 114, .int (nI 8)] (zHp S X (s, past, aside, pasts, txt, typed, thrown, line, need, left, slits, slB, slF, slT, at9, wd9, got, ans, worst) out) (.inr (some (.int (rSwR s (rFd s w lim (c - 1) (0, slB, slF, slT)).2.1 (rFd s w lim (c - 1) (0, slB, slF, slT)).2.2.1 (rFd s w lim (c - 1) (0, slB, slF, slT)).2.2.2 (rFd s w lim (c - 1) (0, slB, slF, slT)).1)))) (zHp S X (s, past, aside, pasts, txt, typed, thrown, line, need, left, (rFd s w lim (c - 1) (0, slB, slF, slT)).1, (rFd s w lim (c - 1) (0, slB, slF, slT)).2.1, (rFd s w lim (c - 1) (0, slB, slF, slT)).2.2.1, (rFd s w lim (c - 1) (0, slB, slF, slT)).2.2.2, at9, wd9, got, ans, worst) out) := by
  have hM9 := hM
  obtain ⟨h0, h1, h2, h3, h4, hc1, hc, hr1, hr, hw, hn, hl⟩ := hM
  have hsl := rFd_sl (s := s) (lm := lim) (B := slB) (F := slF) (T := slT) (show w ≤ 16 by omega) (c - 1) (by omega)
  have hs160 : (rFd s w lim (c - 1) (0, slB, slF, slT)).1 ≤ 160 := hsl.1
  refine zRun_of (by decide +kernel) rfl rfl (Nat.le_of_ble_eq_true rfl) ?_
  suffices hs : ∀ (o9 : zO) (h9 : zH), (Sum.inr (some (.int (rSwR s (rFd s w lim (c - 1) (0, slB, slF, slT)).2.1 (rFd s w lim (c - 1) (0, slB, slF, slT)).2.2.1 (rFd s w lim (c - 1) (0, slB, slF, slT)).2.2.2 (rFd s w lim (c - 1) (0, slB, slF, slT)).1))) : zO) = o9 → (zHp S X (s, past, aside, pasts, txt, typed, thrown, line, need, left, (rFd s w lim (c - 1) (0, slB, slF, slT)).1, (rFd s w lim (c - 1) (0, slB, slF, slT)).2.1, (rFd s w lim (c - 1) (0, slB, slF, slT)).2.2.1, (rFd s w lim (c - 1) (0, slB, slF, slT)).2.2.2, at9, wd9, got, ans, worst) out) = h9 → zPW G mX10_wholeOf 0 0 o9 h9 0 0 0 [(0, .ref 114), (1, .int (nI 8))] [] (zHp S X (s, past, aside, pasts, txt, typed, thrown, line, need, left, slits, slB, slF, slT, at9, wd9, got, ans, worst) out) from hs _ _ rfl rfl
  intro o9 h9 ho9 hh9
  refine z_iload_n 1 dX10_wholeOf_0 rfl rfl ?_
  refine z_tableIn (off := 87) (tgt := 88) dX10_wholeOf_1 (by decide) (by decide) (by decide +kernel) (by decide) ?_
  refine z_aload_n 0 dX10_wholeOf_88 rfl rfl ?_
  refine z_aload_n 0 dX10_wholeOf_89 rfl rfl ?_
  refine z_get (v := .ref 115) 0 zgo_114 rfl inX10 (by decide) zw_1178 rfl rfl dX10_wholeOf_90 ?_
  refine z_iconst (v := nI 4) dX10_wholeOf_93 (by decide) ?_
  refine z_ialdN (f := s) (n := 1371) (j := 4) zga_115 (by omega) (by decide) dX10_wholeOf_94 ?_
  refine z_top (v2 := .int (nI lim)) (by rw [h4]) ?_
  refine z_callV (N := mX10_finds) 1 [.int (nI lim)] [] lX10_finds ⟨zw_1316, zw_1318, zw_54⟩ rfl zgo_114 rfl rfl (Nat.le_of_ble_eq_true rfl) (by decide) ⟨zlt, zlt⟩ ⟨Nat.zero_le _, Nat.zero_le _⟩ zal (m_finds hG hM9 lim (by omega)) dX10_wholeOf_95 ?_
  refine z_iload_n 1 dX10_wholeOf_98 rfl rfl ?_
  refine z_bipush (v := nI 6) dX10_wholeOf_99 (by decide) ?_
  refine z_icmp_ne (tgt := 111) dX10_wholeOf_101 (by decide) (fun c_101 => ?_) (fun c_101 => ?_)
  · skip
    refine z_iload_n 1 dX10_wholeOf_111 rfl rfl ?_
    refine z_bipush (v := nI 7) dX10_wholeOf_112 (by decide) ?_
    refine z_icmp_ne (tgt := 124) dX10_wholeOf_114 (by decide) (fun c_114 => ?_) (fun c_114 => ?_)
    · skip
      refine z_aload_n 0 dX10_wholeOf_124 rfl rfl ?_
      refine z_callV (N := mX10_sewnRows) 0 [] [] lX10_sewnRows ⟨zw_1504, zw_1506, zw_91⟩ rfl zgo_114 rfl rfl (Nat.le_of_ble_eq_true rfl) (by decide) ⟨zlt, zlt⟩ ⟨Nat.zero_le _, Nat.zero_le _⟩ (fun _ => rfl) (m_sewnRows hG hsl) dX10_wholeOf_125 ?_
      exact z_iret rfl dX10_wholeOf_128 (zo_i ho9 (by rfl)) (zo_h hh9 (by rfl)) (Nat.zero_le _) (Nat.zero_le _)
    · exfalso; revert c_114; decide
  · exfalso; revert c_101; decide

set_option maxHeartbeats 4000000 in
set_option maxRecDepth 100000 in
theorem m_wholeOf_9 {G : zT} {S : zS} {X : zXr} {out : Nat → Int64} {s : (Nat → Int32)} {past : (Nat → Int32)} {aside : (Nat → Int32)} {pasts : Nat} {txt : (Nat → Int32)} {typed : Nat} {thrown : Int32} {line : (Nat → Int32)} {need : (Nat → Int32)} {left : (Nat → Int32)} {slits : Nat} {slB : (Nat → Int32)} {slF : (Nat → Int32)} {slT : (Nat → Int32)} {at9 : Nat} {wd9 : Int32} {got : (Nat → Int32)} {ans : Int32} {worst : UInt32} (hG : zAl G = false) {c r w cnt lim : Nat} (hM : zMd s c r w cnt lim) (hsh : rShs s) (hY : ∀ y b, y < w → b < c → rY s y b = -1 ∨ ∃ j, j < 16 ∧ rY s y b = nI j) (htl : rShv (s 5)) : zRun G mX10_wholeOf 0 0 [.ref 114, .int (nI 9)] (zHp S X (s, past, aside, pasts, txt, typed, thrown, line, need, left, slits, slB, slF, slT, at9, wd9, got, ans, worst) out) (.inr (some (.int (nI (rSy s c w false w (0, FP.fconst0)).1)))) (zHp S X (s, past, aside, pasts, txt, typed, thrown, line, need, left, slits, slB, slF, slT, at9, wd9, got, ans, (rSy s c w false w (0, FP.fconst0)).2) out) := by
  have hM9 := hM
  obtain ⟨h0, h1, h2, h3, h4, hc1, hc, hr1, hr, hw, hn, hl⟩ := hM
  refine zRun_of (by decide +kernel) rfl rfl (Nat.le_of_ble_eq_true rfl) ?_
  suffices hs : ∀ (o9 : zO) (h9 : zH), (Sum.inr (some (.int (nI (rSy s c w false w (0, FP.fconst0)).1))) : zO) = o9 → (zHp S X (s, past, aside, pasts, txt, typed, thrown, line, need, left, slits, slB, slF, slT, at9, wd9, got, ans, (rSy s c w false w (0, FP.fconst0)).2) out) = h9 → zPW G mX10_wholeOf 0 0 o9 h9 0 0 0 [(0, .ref 114), (1, .int (nI 9))] [] (zHp S X (s, past, aside, pasts, txt, typed, thrown, line, need, left, slits, slB, slF, slT, at9, wd9, got, ans, worst) out) from hs _ _ rfl rfl
  intro o9 h9 ho9 hh9
  refine z_iload_n 1 dX10_wholeOf_0 rfl rfl ?_
  refine z_tableIn (off := 128) (tgt := 129) dX10_wholeOf_1 (by decide) (by decide) (by decide +kernel) (by decide) ?_
  refine z_aload_n 0 dX10_wholeOf_129 rfl rfl ?_
  refine z_iload_n 1 dX10_wholeOf_130 rfl rfl ?_
  refine z_bipush (v := nI 10) dX10_wholeOf_131 (by decide) ?_
  refine z_icmp_ne (tgt := 140) dX10_wholeOf_133 (by decide) (fun c_133 => ?_) (fun c_133 => ?_)
  · skip
    refine z_iconst (v := nI 0) dX10_wholeOf_140 (by decide) ?_
    refine z_callV (N := mX10_seamsIn) 1 [.int (nI 0)] [] lX10_seamsIn ⟨zw_1508, zw_1510, zw_92⟩ rfl zgo_114 rfl rfl (Nat.le_of_ble_eq_true rfl) (by decide) ⟨zlt, zlt⟩ ⟨Nat.zero_le _, Nat.zero_le _⟩ zal (m_seamsIn0 hG hM9 hsh hY htl) dX10_wholeOf_141 ?_
    exact z_iret rfl dX10_wholeOf_144 (zo_i ho9 (by rfl)) (zo_h hh9 (by rfl)) (Nat.zero_le _) (Nat.zero_le _)
  · exfalso; revert c_133; decide

set_option maxHeartbeats 4000000 in
set_option maxRecDepth 100000 in
theorem m_wholeOf_10 {G : zT} {S : zS} {X : zXr} {out : Nat → Int64} {s : (Nat → Int32)} {past : (Nat → Int32)} {aside : (Nat → Int32)} {pasts : Nat} {txt : (Nat → Int32)} {typed : Nat} {thrown : Int32} {line : (Nat → Int32)} {need : (Nat → Int32)} {left : (Nat → Int32)} {slits : Nat} {slB : (Nat → Int32)} {slF : (Nat → Int32)} {slT : (Nat → Int32)} {at9 : Nat} {wd9 : Int32} {got : (Nat → Int32)} {ans : Int32} {worst : UInt32} (hG : zAl G = false) {c r w cnt lim : Nat} (hM : zMd s c r w cnt lim) (hsh : rShs s) (hY : ∀ y b, y < w → b < c → rY s y b = -1 ∨ ∃ j, j < 16 ∧ rY s y b = nI j) (htl : rShv (s 5)) : zRun G mX10_wholeOf 0 0 [.ref 114, .int (nI 10)] (zHp S X (s, past, aside, pasts, txt, typed, thrown, line, need, left, slits, slB, slF, slT, at9, wd9, got, ans, worst) out) (.inr (some (.int (nI (rSy s c w true w (0, FP.fconst0)).1)))) (zHp S X (s, past, aside, pasts, txt, typed, thrown, line, need, left, slits, slB, slF, slT, at9, wd9, got, ans, (rSy s c w true w (0, FP.fconst0)).2) out) := by
  have hM9 := hM
  obtain ⟨h0, h1, h2, h3, h4, hc1, hc, hr1, hr, hw, hn, hl⟩ := hM
  refine zRun_of (by decide +kernel) rfl rfl (Nat.le_of_ble_eq_true rfl) ?_
  suffices hs : ∀ (o9 : zO) (h9 : zH), (Sum.inr (some (.int (nI (rSy s c w true w (0, FP.fconst0)).1))) : zO) = o9 → (zHp S X (s, past, aside, pasts, txt, typed, thrown, line, need, left, slits, slB, slF, slT, at9, wd9, got, ans, (rSy s c w true w (0, FP.fconst0)).2) out) = h9 → zPW G mX10_wholeOf 0 0 o9 h9 0 0 0 [(0, .ref 114), (1, .int (nI 10))] [] (zHp S X (s, past, aside, pasts, txt, typed, thrown, line, need, left, slits, slB, slF, slT, at9, wd9, got, ans, worst) out) from hs _ _ rfl rfl
  intro o9 h9 ho9 hh9
  refine z_iload_n 1 dX10_wholeOf_0 rfl rfl ?_
  refine z_tableIn (off := 128) (tgt := 129) dX10_wholeOf_1 (by decide) (by decide) (by decide +kernel) (by decide) ?_
  refine z_aload_n 0 dX10_wholeOf_129 rfl rfl ?_
  refine z_iload_n 1 dX10_wholeOf_130 rfl rfl ?_
  refine z_bipush (v := nI 10) dX10_wholeOf_131 (by decide) ?_
  refine z_icmp_ne (tgt := 140) dX10_wholeOf_133 (by decide) (fun c_133 => ?_) (fun c_133 => ?_)
  · exfalso; revert c_133; decide
  · skip
    refine z_iconst (v := nI 1) dX10_wholeOf_136 (by decide) ?_
    refine z_goto (tgt := 141) dX10_wholeOf_137 (by decide) ?_
    refine z_callV (N := mX10_seamsIn) 1 [.int (nI 1)] [] lX10_seamsIn ⟨zw_1508, zw_1510, zw_92⟩ rfl zgo_114 rfl rfl (Nat.le_of_ble_eq_true rfl) (by decide) ⟨zlt, zlt⟩ ⟨Nat.zero_le _, Nat.zero_le _⟩ zal (m_seamsIn1 hG hM9 hsh hY htl) dX10_wholeOf_141 ?_
    exact z_iret rfl dX10_wholeOf_144 (zo_i ho9 (by rfl)) (zo_h hh9 (by rfl)) (Nat.zero_le _) (Nat.zero_le _)

set_option maxHeartbeats 4000000 in
set_option maxRecDepth 100000 in
theorem m_wholeOf_11 {G : zT} {S : zS} {X : zXr} {out : Nat → Int64} {s : (Nat → Int32)} {past : (Nat → Int32)} {aside : (Nat → Int32)} {pasts : Nat} {txt : (Nat → Int32)} {typed : Nat} {thrown : Int32} {line : (Nat → Int32)} {need : (Nat → Int32)} {left : (Nat → Int32)} {slits : Nat} {slB : (Nat → Int32)} {slF : (Nat → Int32)} {slT : (Nat → Int32)} {at9 : Nat} {wd9 : Int32} {got : (Nat → Int32)} {ans : Int32} {worst : UInt32} (hG : zAl G = false) {c r w cnt lim : Nat} (hM : zMd s c r w cnt lim) (hsh : rShs s) (hY : ∀ y b, y < w → b < c → rY s y b = -1 ∨ ∃ j, j < 16 ∧ rY s y b = nI j) (htl : rShv (s 5)) : zRun G mX10_wholeOf 0 0 [.ref 114, .int (nI 11)] (zHp S X (s, past, aside, pasts, txt, typed, thrown, line, need, left, slits, slB, slF, slT, at9, wd9, got, ans, worst) out) (.inr (some (.int (nI (zMx (fun y => zCt (rBeg (rW s y)) c) w))))) (zHp S X (s, past, aside, pasts, txt, typed, thrown, (zIt (fun y L => zFl (rW s y) L c) w line), need, left, slits, slB, slF, slT, at9, wd9, got, ans, worst) out) := by
  have hM9 := hM
  obtain ⟨h0, h1, h2, h3, h4, hc1, hc, hr1, hr, hw, hn, hl⟩ := hM
  refine zRun_of (by decide +kernel) rfl rfl (Nat.le_of_ble_eq_true rfl) ?_
  suffices hs : ∀ (o9 : zO) (h9 : zH), (Sum.inr (some (.int (nI (zMx (fun y => zCt (rBeg (rW s y)) c) w)))) : zO) = o9 → (zHp S X (s, past, aside, pasts, txt, typed, thrown, (zIt (fun y L => zFl (rW s y) L c) w line), need, left, slits, slB, slF, slT, at9, wd9, got, ans, worst) out) = h9 → zPW G mX10_wholeOf 0 0 o9 h9 0 0 0 [(0, .ref 114), (1, .int (nI 11))] [] (zHp S X (s, past, aside, pasts, txt, typed, thrown, line, need, left, slits, slB, slF, slT, at9, wd9, got, ans, worst) out) from hs _ _ rfl rfl
  intro o9 h9 ho9 hh9
  refine z_iload_n 1 dX10_wholeOf_0 rfl rfl ?_
  refine z_tableIn (off := 156) (tgt := 157) dX10_wholeOf_1 (by decide) (by decide) (by decide +kernel) (by decide) ?_
  refine z_aload_n 0 dX10_wholeOf_157 rfl rfl ?_
  refine z_iload_n 1 dX10_wholeOf_158 rfl rfl ?_
  refine z_callV (N := mX10_over) 1 [.int (nI 11)] [] lX10_over ⟨zw_1527, zw_1529, zw_96⟩ rfl zgo_114 rfl rfl (Nat.le_of_ble_eq_true rfl) (by decide) ⟨zlt, zlt⟩ ⟨Nat.zero_le _, Nat.zero_le _⟩ zal (m_over_11 hG hM9) dX10_wholeOf_159 ?_
  exact z_iret rfl dX10_wholeOf_162 (zo_i ho9 (by rfl)) (zo_h hh9 (by rfl)) (Nat.zero_le _) (Nat.zero_le _)

set_option maxHeartbeats 4000000 in
set_option maxRecDepth 100000 in
theorem m_wholeOf_12 {G : zT} {S : zS} {X : zXr} {out : Nat → Int64} {s : (Nat → Int32)} {past : (Nat → Int32)} {aside : (Nat → Int32)} {pasts : Nat} {txt : (Nat → Int32)} {typed : Nat} {thrown : Int32} {line : (Nat → Int32)} {need : (Nat → Int32)} {left : (Nat → Int32)} {slits : Nat} {slB : (Nat → Int32)} {slF : (Nat → Int32)} {slT : (Nat → Int32)} {at9 : Nat} {wd9 : Int32} {got : (Nat → Int32)} {ans : Int32} {worst : UInt32} (hG : zAl G = false) {c r w cnt lim : Nat} (hM : zMd s c r w cnt lim) (hsh : rShs s) (hY : ∀ y b, y < w → b < c → rY s y b = -1 ∨ ∃ j, j < 16 ∧ rY s y b = nI j) (htl : rShv (s 5)) : zRun G mX10_wholeOf 0 0 [.ref 114, .int (nI 12)] (zHp S X (s, past, aside, pasts, txt, typed, thrown, line, need, left, slits, slB, slF, slT, at9, wd9, got, ans, worst) out) (.inr (some (.int (nI (zSN (fun y => rFre s (rW s y) c y) w))))) (zHp S X (s, past, aside, pasts, txt, typed, thrown, (zIt (fun y L => zFl (rW s y) L c) w line), need, left, slits, slB, slF, slT, at9, wd9, got, ans, worst) out) := by
  have hM9 := hM
  obtain ⟨h0, h1, h2, h3, h4, hc1, hc, hr1, hr, hw, hn, hl⟩ := hM
  refine zRun_of (by decide +kernel) rfl rfl (Nat.le_of_ble_eq_true rfl) ?_
  suffices hs : ∀ (o9 : zO) (h9 : zH), (Sum.inr (some (.int (nI (zSN (fun y => rFre s (rW s y) c y) w)))) : zO) = o9 → (zHp S X (s, past, aside, pasts, txt, typed, thrown, (zIt (fun y L => zFl (rW s y) L c) w line), need, left, slits, slB, slF, slT, at9, wd9, got, ans, worst) out) = h9 → zPW G mX10_wholeOf 0 0 o9 h9 0 0 0 [(0, .ref 114), (1, .int (nI 12))] [] (zHp S X (s, past, aside, pasts, txt, typed, thrown, line, need, left, slits, slB, slF, slT, at9, wd9, got, ans, worst) out) from hs _ _ rfl rfl
  intro o9 h9 ho9 hh9
  refine z_iload_n 1 dX10_wholeOf_0 rfl rfl ?_
  refine z_tableIn (off := 156) (tgt := 157) dX10_wholeOf_1 (by decide) (by decide) (by decide +kernel) (by decide) ?_
  refine z_aload_n 0 dX10_wholeOf_157 rfl rfl ?_
  refine z_iload_n 1 dX10_wholeOf_158 rfl rfl ?_
  refine z_callV (N := mX10_over) 1 [.int (nI 12)] [] lX10_over ⟨zw_1527, zw_1529, zw_96⟩ rfl zgo_114 rfl rfl (Nat.le_of_ble_eq_true rfl) (by decide) ⟨zlt, zlt⟩ ⟨Nat.zero_le _, Nat.zero_le _⟩ zal (m_over_12 hG hM9) dX10_wholeOf_159 ?_
  exact z_iret rfl dX10_wholeOf_162 (zo_i ho9 (by rfl)) (zo_h hh9 (by rfl)) (Nat.zero_le _) (Nat.zero_le _)

set_option maxHeartbeats 4000000 in
set_option maxRecDepth 100000 in
theorem m_wholeOf_13 {G : zT} {S : zS} {X : zXr} {out : Nat → Int64} {s : (Nat → Int32)} {past : (Nat → Int32)} {aside : (Nat → Int32)} {pasts : Nat} {txt : (Nat → Int32)} {typed : Nat} {thrown : Int32} {line : (Nat → Int32)} {need : (Nat → Int32)} {left : (Nat → Int32)} {slits : Nat} {slB : (Nat → Int32)} {slF : (Nat → Int32)} {slT : (Nat → Int32)} {at9 : Nat} {wd9 : Int32} {got : (Nat → Int32)} {ans : Int32} {worst : UInt32} (hG : zAl G = false) {c r w cnt lim : Nat} (hM : zMd s c r w cnt lim) (hsh : rShs s) (hY : ∀ y b, y < w → b < c → rY s y b = -1 ∨ ∃ j, j < 16 ∧ rY s y b = nI j) (htl : rShv (s 5)) : zRun G mX10_wholeOf 0 0 [.ref 114, .int (nI 13)] (zHp S X (s, past, aside, pasts, txt, typed, thrown, line, need, left, slits, slB, slF, slT, at9, wd9, got, ans, worst) out) (.inr (some (.int (nI lim)))) (zHp S X (s, past, aside, pasts, txt, typed, thrown, line, need, left, slits, slB, slF, slT, at9, wd9, got, ans, worst) out) := by
  have hM9 := hM
  obtain ⟨h0, h1, h2, h3, h4, hc1, hc, hr1, hr, hw, hn, hl⟩ := hM
  refine zRun_of (by decide +kernel) rfl rfl (Nat.le_of_ble_eq_true rfl) ?_
  suffices hs : ∀ (o9 : zO) (h9 : zH), (Sum.inr (some (.int (nI lim))) : zO) = o9 → (zHp S X (s, past, aside, pasts, txt, typed, thrown, line, need, left, slits, slB, slF, slT, at9, wd9, got, ans, worst) out) = h9 → zPW G mX10_wholeOf 0 0 o9 h9 0 0 0 [(0, .ref 114), (1, .int (nI 13))] [] (zHp S X (s, past, aside, pasts, txt, typed, thrown, line, need, left, slits, slB, slF, slT, at9, wd9, got, ans, worst) out) from hs _ _ rfl rfl
  intro o9 h9 ho9 hh9
  refine z_iload_n 1 dX10_wholeOf_0 rfl rfl ?_
  refine z_tableIn (off := 144) (tgt := 145) dX10_wholeOf_1 (by decide) (by decide) (by decide +kernel) (by decide) ?_
  refine z_aload_n 0 dX10_wholeOf_145 rfl rfl ?_
  refine z_get (v := .ref 115) 0 zgo_114 rfl inX10 (by decide) zw_1178 rfl rfl dX10_wholeOf_146 ?_
  refine z_iconst (v := nI 4) dX10_wholeOf_149 (by decide) ?_
  refine z_ialdN (f := s) (n := 1371) (j := 4) zga_115 (by omega) (by decide) dX10_wholeOf_150 ?_
  refine z_top (v2 := .int (nI lim)) (by rw [h4]) ?_
  exact z_iret rfl dX10_wholeOf_151 (zo_i ho9 (by rfl)) (zo_h hh9 (by rfl)) (Nat.zero_le _) (Nat.zero_le _)

set_option maxHeartbeats 4000000 in
set_option maxRecDepth 100000 in
theorem m_wholeOf_14 {G : zT} {S : zS} {X : zXr} {out : Nat → Int64} {s : (Nat → Int32)} {past : (Nat → Int32)} {aside : (Nat → Int32)} {pasts : Nat} {txt : (Nat → Int32)} {typed : Nat} {thrown : Int32} {line : (Nat → Int32)} {need : (Nat → Int32)} {left : (Nat → Int32)} {slits : Nat} {slB : (Nat → Int32)} {slF : (Nat → Int32)} {slT : (Nat → Int32)} {at9 : Nat} {wd9 : Int32} {got : (Nat → Int32)} {ans : Int32} {worst : UInt32} (hG : zAl G = false) {c r w cnt lim : Nat} (hM : zMd s c r w cnt lim) (hsh : rShs s) (hY : ∀ y b, y < w → b < c → rY s y b = -1 ∨ ∃ j, j < 16 ∧ rY s y b = nI j) (htl : rShv (s 5)) : zRun G mX10_wholeOf 0 0 [.ref 114, .int (nI 14)] (zHp S X (s, past, aside, pasts, txt, typed, thrown, line, need, left, slits, slB, slF, slT, at9, wd9, got, ans, worst) out) (.inr (some (.int (nI typed)))) (zHp S X (s, past, aside, pasts, txt, typed, thrown, line, need, left, slits, slB, slF, slT, at9, wd9, got, ans, worst) out) := by
  have hM9 := hM
  obtain ⟨h0, h1, h2, h3, h4, hc1, hc, hr1, hr, hw, hn, hl⟩ := hM
  refine zRun_of (by decide +kernel) rfl rfl (Nat.le_of_ble_eq_true rfl) ?_
  suffices hs : ∀ (o9 : zO) (h9 : zH), (Sum.inr (some (.int (nI typed))) : zO) = o9 → (zHp S X (s, past, aside, pasts, txt, typed, thrown, line, need, left, slits, slB, slF, slT, at9, wd9, got, ans, worst) out) = h9 → zPW G mX10_wholeOf 0 0 o9 h9 0 0 0 [(0, .ref 114), (1, .int (nI 14))] [] (zHp S X (s, past, aside, pasts, txt, typed, thrown, line, need, left, slits, slB, slF, slT, at9, wd9, got, ans, worst) out) from hs _ _ rfl rfl
  intro o9 h9 ho9 hh9
  refine z_iload_n 1 dX10_wholeOf_0 rfl rfl ?_
  refine z_tableIn (off := 151) (tgt := 152) dX10_wholeOf_1 (by decide) (by decide) (by decide +kernel) (by decide) ?_
  refine z_aload_n 0 dX10_wholeOf_152 rfl rfl ?_
  refine z_get (v := .int (nI typed)) 5 zgo_114 rfl inX10 (by decide) zw_1183 rfl rfl dX10_wholeOf_153 ?_
  exact z_iret rfl dX10_wholeOf_156 (zo_i ho9 (by rfl)) (zo_h hh9 (by rfl)) (Nat.zero_le _) (Nat.zero_le _)

theorem m_wholeOf {G : zT} {S : zS} {X : zXr} {out : Nat → Int64} {s : (Nat → Int32)} {past : (Nat → Int32)} {aside : (Nat → Int32)} {pasts : Nat} {txt : (Nat → Int32)} {typed : Nat} {thrown : Int32} {line : (Nat → Int32)} {need : (Nat → Int32)} {left : (Nat → Int32)} {slits : Nat} {slB : (Nat → Int32)} {slF : (Nat → Int32)} {slT : (Nat → Int32)} {at9 : Nat} {wd9 : Int32} {got : (Nat → Int32)} {ans : Int32} {worst : UInt32} (hG : zAl G = false) {c r w cnt lim : Nat} (hM : zMd s c r w cnt lim) (hsh : rShs s) (hY : ∀ y b, y < w → b < c → rY s y b = -1 ∨ ∃ j, j < 16 ∧ rY s y b = nI j) (htl : rShv (s 5)) (t : Nat) (ht : t ≤ 14) : zRun G mX10_wholeOf 0 0 [.ref 114, .int (nI t)] (zHp S X (s, past, aside, pasts, txt, typed, thrown, line, need, left, slits, slB, slF, slT, at9, wd9, got, ans, worst) out) (.inr (some (.int (rWhV s c r w cnt lim typed (line, slits, slB, slF, slT, worst) t)))) (zHp S X (s, past, aside, pasts, txt, typed, thrown, (rWhY s c w lim t (line, slits, slB, slF, slT, worst)).1, need, left, (rWhY s c w lim t (line, slits, slB, slF, slT, worst)).2.1, (rWhY s c w lim t (line, slits, slB, slF, slT, worst)).2.2.1, (rWhY s c w lim t (line, slits, slB, slF, slT, worst)).2.2.2.1, (rWhY s c w lim t (line, slits, slB, slF, slT, worst)).2.2.2.2.1, at9, wd9, got, ans, (rWhY s c w lim t (line, slits, slB, slF, slT, worst)).2.2.2.2.2) out) := by
  rcases (show t = 0 ∨ t = 1 ∨ t = 2 ∨ t = 3 ∨ t = 4 ∨ t = 5 ∨ t = 6 ∨ t = 7 ∨ t = 8 ∨ t = 9 ∨ t = 10 ∨ t = 11 ∨ t = 12 ∨ t = 13 ∨ t = 14 by omega) with rfl | rfl | rfl | rfl | rfl | rfl | rfl | rfl | rfl | rfl | rfl | rfl | rfl | rfl | rfl
  · exact m_wholeOf_0 hG hM hsh hY htl
  · exact m_wholeOf_1 hG hM hsh hY htl
  · exact m_wholeOf_2 hG hM hsh hY htl
  · exact m_wholeOf_3 hG hM hsh hY htl
  · exact m_wholeOf_4 hG hM hsh hY htl
  · exact m_wholeOf_5 hG hM hsh hY htl
  · exact m_wholeOf_6 hG hM hsh hY htl
  · exact m_wholeOf_7 hG hM hsh hY htl
  · exact m_wholeOf_8 hG hM hsh hY htl
  · exact m_wholeOf_9 hG hM hsh hY htl
  · exact m_wholeOf_10 hG hM hsh hY htl
  · exact m_wholeOf_11 hG hM hsh hY htl
  · exact m_wholeOf_12 hG hM hsh hY htl
  · exact m_wholeOf_13 hG hM hsh hY htl
  · exact m_wholeOf_14 hG hM hsh hY htl

set_option maxHeartbeats 4000000 in
set_option maxRecDepth 100000 in
theorem m_whole {G : zT} {S : zS} {X : zXr} {out : Nat → Int64} {s : (Nat → Int32)} {past : (Nat → Int32)} {aside : (Nat → Int32)} {pasts : Nat} {txt : (Nat → Int32)} {typed : Nat} {thrown : Int32} {line : (Nat → Int32)} {need : (Nat → Int32)} {left : (Nat → Int32)} {slits : Nat} {slB : (Nat → Int32)} {slF : (Nat → Int32)} {slT : (Nat → Int32)} {at9 : Nat} {wd9 : Int32} {got : (Nat → Int32)} {ans : Int32} {worst : UInt32} (hG : zAl G = false) {c r w cnt lim : Nat} (hM : zMd s c r w cnt lim) (hsh : rShs s) (hY : ∀ y b, y < w → b < c → rY s y b = -1 ∨ ∃ j, j < 16 ∧ rY s y b = nI j) (htl : rShv (s 5)) (t : Nat) (ht : zFr (nI 0) (nI t) (nI 14) = true) (ht14 : t ≤ 14) : zRun G mX10_whole 0 0 [.ref 114, .int (nI t)] (zHp S X (s, past, aside, pasts, txt, typed, thrown, line, need, left, slits, slB, slF, slT, at9, wd9, got, ans, worst) out) (.inr (some (.int (rWhV s c r w cnt lim typed (line, slits, slB, slF, slT, worst) t)))) (zHp S X (s, past, aside, pasts, txt, typed, (nI 0), (rWhY s c w lim t (line, slits, slB, slF, slT, worst)).1, need, left, (rWhY s c w lim t (line, slits, slB, slF, slT, worst)).2.1, (rWhY s c w lim t (line, slits, slB, slF, slT, worst)).2.2.1, (rWhY s c w lim t (line, slits, slB, slF, slT, worst)).2.2.2.1, (rWhY s c w lim t (line, slits, slB, slF, slT, worst)).2.2.2.2.1, at9, wd9, got, ans, (rWhY s c w lim t (line, slits, slB, slF, slT, worst)).2.2.2.2.2) out) := by
  have hM9 := hM
  refine zRun_of (by decide +kernel) rfl rfl (Nat.le_of_ble_eq_true rfl) ?_
  suffices hs : ∀ (o9 : zO) (h9 : zH), (Sum.inr (some (.int (rWhV s c r w cnt lim typed (line, slits, slB, slF, slT, worst) t))) : zO) = o9 → (zHp S X (s, past, aside, pasts, txt, typed, (nI 0), (rWhY s c w lim t (line, slits, slB, slF, slT, worst)).1, need, left, (rWhY s c w lim t (line, slits, slB, slF, slT, worst)).2.1, (rWhY s c w lim t (line, slits, slB, slF, slT, worst)).2.2.1, (rWhY s c w lim t (line, slits, slB, slF, slT, worst)).2.2.2.1, (rWhY s c w lim t (line, slits, slB, slF, slT, worst)).2.2.2.2.1, at9, wd9, got, ans, (rWhY s c w lim t (line, slits, slB, slF, slT, worst)).2.2.2.2.2) out) = h9 → zPW G mX10_whole 0 0 o9 h9 0 0 0 [(0, .ref 114), (1, .int (nI t))] [] (zHp S X (s, past, aside, pasts, txt, typed, thrown, line, need, left, slits, slB, slF, slT, at9, wd9, got, ans, worst) out) from hs _ _ rfl rfl
  intro o9 h9 ho9 hh9
  refine z_iload_n 1 dX10_whole_0 rfl rfl ?_
  refine z_iconst (v := nI 0) dX10_whole_1 (by decide) ?_
  refine z_bipush (v := nI 14) dX10_whole_2 (by decide) ?_
  refine z_callS (N := mX10_in) 3 [.int (nI t), .int (nI 0), .int (nI 14)] [] lX10_in ⟨zw_1252, zw_1253⟩ rfl rfl rfl (Nat.le_of_ble_eq_true rfl) (by decide) ⟨zlt, zlt⟩ hG ⟨Nat.zero_le _, Nat.zero_le _⟩ (m_in hG (nI t) (nI 0) (nI 14)) dX10_whole_4 ?_
  refine z_if_eq (tgt := 22) dX10_whole_7 (by decide) (fun c_7 => ?_) (fun c_7 => ?_)
  · exfalso; rw [ht] at c_7; exact absurd c_7 (by decide)
  · skip
    have b_7 := zB_tt c_7
    refine z_aload_n 0 dX10_whole_10 rfl rfl ?_
    refine z_aload_n 0 dX10_whole_11 rfl rfl ?_
    refine z_iload_n 1 dX10_whole_12 rfl rfl ?_
    refine z_callV (N := mX10_wholeOf) 1 [.int (nI t)] [.ref 114] lX10_wholeOf ⟨zw_1500, zw_1502, zw_90⟩ rfl zgo_114 rfl rfl (Nat.le_of_ble_eq_true rfl) (by decide) ⟨zlt, zlt⟩ ⟨Nat.zero_le _, Nat.zero_le _⟩ zal (m_wholeOf hG hM9 hsh hY htl t (by omega)) dX10_whole_13 ?_
    refine z_callV (N := mX10_tells) 1 [.int (rWhV s c r w cnt lim typed (line, slits, slB, slF, slT, worst) t)] [] lX10_tells ⟨zw_1267, zw_1269, zw_48⟩ rfl zgo_114 rfl rfl (Nat.le_of_ble_eq_true rfl) (by decide) ⟨zlt, zlt⟩ ⟨Nat.zero_le _, Nat.zero_le _⟩ zal (m_tells hG (rWhV s c r w cnt lim typed (line, slits, slB, slF, slT, worst) t)) dX10_whole_16 ?_
    refine z_goto (tgt := 27) dX10_whole_19 (by decide) ?_
    exact z_iret rfl dX10_whole_27 (zo_i ho9 (by rfl)) (zo_h hh9 (by rfl)) (Nat.zero_le _) (Nat.zero_le _)

set_option maxHeartbeats 4000000 in
set_option maxRecDepth 100000 in
theorem m_whole_1 {G : zT} {S : zS} {X : zXr} {out : Nat → Int64} {s : (Nat → Int32)} {past : (Nat → Int32)} {aside : (Nat → Int32)} {pasts : Nat} {txt : (Nat → Int32)} {typed : Nat} {thrown : Int32} {line : (Nat → Int32)} {need : (Nat → Int32)} {left : (Nat → Int32)} {slits : Nat} {slB : (Nat → Int32)} {slF : (Nat → Int32)} {slT : (Nat → Int32)} {at9 : Nat} {wd9 : Int32} {got : (Nat → Int32)} {ans : Int32} {worst : UInt32} (hG : zAl G = false) (t : Int32) (ht : zFr (nI 0) t (nI 14) = false) : zRun G mX10_whole 0 0 [.ref 114, .int t] (zHp S X (s, past, aside, pasts, txt, typed, thrown, line, need, left, slits, slB, slF, slT, at9, wd9, got, ans, worst) out) (.inr (some (.int (nI 0)))) (zHp S X (s, past, aside, pasts, txt, typed, (nI 1), line, need, left, slits, slB, slF, slT, at9, wd9, got, ans, worst) out) := by
  refine zRun_of (by decide +kernel) rfl rfl (Nat.le_of_ble_eq_true rfl) ?_
  suffices hs : ∀ (o9 : zO) (h9 : zH), (Sum.inr (some (.int (nI 0))) : zO) = o9 → (zHp S X (s, past, aside, pasts, txt, typed, (nI 1), line, need, left, slits, slB, slF, slT, at9, wd9, got, ans, worst) out) = h9 → zPW G mX10_whole 0 0 o9 h9 0 0 0 [(0, .ref 114), (1, .int t)] [] (zHp S X (s, past, aside, pasts, txt, typed, thrown, line, need, left, slits, slB, slF, slT, at9, wd9, got, ans, worst) out) from hs _ _ rfl rfl
  intro o9 h9 ho9 hh9
  refine z_iload_n 1 dX10_whole_0 rfl rfl ?_
  refine z_iconst (v := nI 0) dX10_whole_1 (by decide) ?_
  refine z_bipush (v := nI 14) dX10_whole_2 (by decide) ?_
  refine z_callS (N := mX10_in) 3 [.int t, .int (nI 0), .int (nI 14)] [] lX10_in ⟨zw_1252, zw_1253⟩ rfl rfl rfl (Nat.le_of_ble_eq_true rfl) (by decide) ⟨zlt, zlt⟩ hG ⟨Nat.zero_le _, Nat.zero_le _⟩ (m_in hG t (nI 0) (nI 14)) dX10_whole_4 ?_
  refine z_if_eq (tgt := 22) dX10_whole_7 (by decide) (fun c_7 => ?_) (fun c_7 => ?_)
  · skip
    have b_7 := zB_0.mp c_7
    refine z_aload_n 0 dX10_whole_22 rfl rfl ?_
    refine z_iconst (v := nI 1) dX10_whole_23 (by decide) ?_
    refine z_callV (N := mX10_fails) 1 [.int (nI 1)] [] lX10_fails ⟨zw_1259, zw_1261, zw_46⟩ rfl zgo_114 rfl rfl (Nat.le_of_ble_eq_true rfl) (by decide) ⟨zlt, zlt⟩ ⟨Nat.zero_le _, Nat.zero_le _⟩ zal (m_fails hG (nI 1)) dX10_whole_24 ?_
    exact z_iret rfl dX10_whole_27 (zo_i ho9 (by rfl)) (zo_h hh9 (by rfl)) (Nat.zero_le _) (Nat.zero_le _)
  · exfalso; rw [ht] at c_7; exact c_7 rfl

def rRpU (s : Nat → Int32) (c y v : Nat) : Nat := zCt (fun b => rD s c y b == nI v) c + zCt (fun b => rD s c y b == nI v && rBeg (rD s c y) b) c
def rRpI (s : Nat → Int32) (c y k : Nat) (q : Bool × (Nat → Int32)) : Bool × (Nat → Int32) := zIt (fun v q => (q.1 && decide (¬ q.2 v - nI (rRpU s c y v) < 0), upd q.2 v (q.2 v - nI (rRpU s c y v)))) k q
theorem rRpI_s {s : Nat → Int32} {c y k : Nat} {q : Bool × (Nat → Int32)} : (rRpI s c y (k + 1) q).1 = ((rRpI s c y k q).1 && decide (¬ (rRpI s c y k q).2 k - nI (rRpU s c y k) < 0)) := rfl
theorem rRpA {s : Nat → Int32} {c y k : Nat} {q : Bool × (Nat → Int32)} (hb : (rRpI s c y k q).1 = false) : nI 0 = zB (rRpI s c y (k + 1) q).1 := by
  rw [rRpI_s, hb]
  rfl
theorem rRpB {s : Nat → Int32} {c y k : Nat} {q : Bool × (Nat → Int32)} (hb : (rRpI s c y k q).1 = true) (h : (rRpI s c y k q).2 k - nI (rRpU s c y k) < 0) : nI 0 = zB (rRpI s c y (k + 1) q).1 := by
  rw [rRpI_s, hb, decide_eq_false (fun z => z h)]
  rfl
theorem rRpC {s : Nat → Int32} {c y k : Nat} {q : Bool × (Nat → Int32)} (hb : (rRpI s c y k q).1 = true) (h : ¬ (rRpI s c y k q).2 k - nI (rRpU s c y k) < 0) : nI 1 = zB (rRpI s c y (k + 1) q).1 := by
  rw [rRpI_s, hb, decide_eq_true h]
  rfl
abbrev zRp : Type := Bool × Nat × (Nat → Int32) × (Nat → Int32)
def rRpS (s : Nat → Int32) (c y : Nat) (q : zRp) : zRp := ((rRpI s c y 8 (q.1, q.2.2.1)).1, q.2.1 + (if (rRpI s c y 8 (q.1, q.2.2.1)).1 then 1 else 0), (rRpI s c y 8 (q.1, q.2.2.1)).2, zFl (rD s c y) q.2.2.2 c)
def rRp (s : Nat → Int32) (c : Nat) : Nat → Nat → zRp → zRp
  | 0, _, q => q
  | d + 1, y, q => if q.1 then rRp s c d (y + 1) (rRpS s c y q) else q
theorem rRp_t {s : Nat → Int32} {c d y : Nat} {q : zRp} (h : q.1 = true) : rRp s c (d + 1) y q = rRp s c d (y + 1) (rRpS s c y q) := if_pos h
theorem rRp_f {s : Nat → Int32} {c y : Nat} {q : zRp} (h : q.1 = false) : ∀ d, rRp s c d y q = q
  | 0 => rfl
  | d + 1 => if_neg (by rw [h]; decide)
theorem rRp_n {s : Nat → Int32} {c : Nat} : ∀ d y (q : zRp), (rRp s c d y q).2.1 ≤ q.2.1 + d
  | 0, _, _ => Nat.le_refl _
  | d + 1, y, q => by
    unfold rRp
    split
    · have h := rRp_n (s := s) (c := c) d (y + 1) (rRpS s c y q)
      have h2 : (rRpS s c y q).2.1 ≤ q.2.1 + 1 := by
        show q.2.1 + (if _ then 1 else 0) ≤ _
        split <;> omega
      omega
    · omega

set_option maxHeartbeats 4000000 in
set_option maxRecDepth 100000 in
theorem m_rowsPossible {G : zT} {S : zS} {X : zXr} {out : Nat → Int64} {s : (Nat → Int32)} {past : (Nat → Int32)} {aside : (Nat → Int32)} {pasts : Nat} {txt : (Nat → Int32)} {typed : Nat} {thrown : Int32} {line : (Nat → Int32)} {need : (Nat → Int32)} {left : (Nat → Int32)} {slits : Nat} {slB : (Nat → Int32)} {slF : (Nat → Int32)} {slT : (Nat → Int32)} {at9 : Nat} {wd9 : Int32} {got : (Nat → Int32)} {ans : Int32} {worst : UInt32} (hG : zAl G = false) {c r w cnt lim : Nat} (hM : zMd s c r w cnt lim) : zRun G mX10_rowsPossible 0 0 [.ref 114] (zHp S X (s, past, aside, pasts, txt, typed, thrown, line, need, left, slits, slB, slF, slT, at9, wd9, got, ans, worst) out) (.inr (some (.int (nI (rRp s c (r - w) w (true, 0, zFl (fun v => rUn s (nI v) cnt) left 8, line)).2.1)))) (zHp S X (s, past, aside, pasts, txt, typed, (nI 0), (rRp s c (r - w) w (true, 0, zFl (fun v => rUn s (nI v) cnt) left 8, line)).2.2.2, need, (rRp s c (r - w) w (true, 0, zFl (fun v => rUn s (nI v) cnt) left 8, line)).2.2.1, slits, slB, slF, slT, at9, wd9, got, ans, worst) out) := by
  have hM9 := hM
  obtain ⟨h0, h1, h2, h3, h4, hc1, hc, hr1, hr, hw, hn, hl⟩ := hM
  refine zRun_of (by decide +kernel) rfl rfl (Nat.le_of_ble_eq_true rfl) ?_
  suffices hs : ∀ (o9 : zO) (h9 : zH), (Sum.inr (some (.int (nI (rRp s c (r - w) w (true, 0, zFl (fun v => rUn s (nI v) cnt) left 8, line)).2.1))) : zO) = o9 → (zHp S X (s, past, aside, pasts, txt, typed, (nI 0), (rRp s c (r - w) w (true, 0, zFl (fun v => rUn s (nI v) cnt) left 8, line)).2.2.2, need, (rRp s c (r - w) w (true, 0, zFl (fun v => rUn s (nI v) cnt) left 8, line)).2.2.1, slits, slB, slF, slT, at9, wd9, got, ans, worst) out) = h9 → zPW G mX10_rowsPossible 0 0 o9 h9 0 0 0 [(0, .ref 114)] [] (zHp S X (s, past, aside, pasts, txt, typed, thrown, line, need, left, slits, slB, slF, slT, at9, wd9, got, ans, worst) out) from hs _ _ rfl rfl
  intro o9 h9 ho9 hh9
  refine z_iconst (v := nI 0) dX10_rowsPossible_0 (by decide) ?_
  refine z_istore_n (lv' := [(1, .int (nI 0)), (0, .ref 114)]) dX10_rowsPossible_1 rfl (by decide) rfl ?_
  have L2_1 : ∀ (d i : Nat), i ≤ 8 → 8 + 1 ≤ i + d → zPW G mX10_rowsPossible 0 0 o9 h9 0 0 2 [(1, .int (nI i)), (0, .ref 114)] [] (zHp S X (s, past, aside, pasts, txt, typed, thrown, line, need, (zFl (fun v => rUn s (nI v) cnt) left i), slits, slB, slF, slT, at9, wd9, got, ans, worst) out) := by
    intro d
    induction d with
    | zero => intro i hk hd; exact absurd hd (by omega)
    | succ d ih =>
      intro i hk_i hd_i
      have ih2 := ih
      clear ih
      refine z_iload_n 0 dX10_rowsPossible_2 rfl rfl ?_
      refine z_bipush (v := nI 8) dX10_rowsPossible_3 (by decide) ?_
      refine z_icmp_ge (tgt := 25) dX10_rowsPossible_5 (by decide) (fun c_5 => ?_) (fun c_5 => ?_)
      · skip
        have f_5 := m_le (by omega) (by omega) c_5
        have e_i : i = 8 := by omega
        rw [e_i]
        refine z_iconst (v := nI 0) dX10_rowsPossible_25 (by decide) ?_
        refine z_istore_n (lv' := [(1, .int (nI 0)), (0, .ref 114)]) dX10_rowsPossible_26 rfl (by decide) rfl ?_
        refine z_iconst (v := nI 1) dX10_rowsPossible_27 (by decide) ?_
        refine z_istore_n (lv' := [(2, .int (nI 1)), (1, .int (nI 0)), (0, .ref 114)]) dX10_rowsPossible_28 rfl (by decide) rfl ?_
        refine z_aload_n 2 dX10_rowsPossible_29 rfl rfl ?_
        refine z_get (v := .ref 115) 0 zgo_114 rfl inX10 (by decide) zw_1178 rfl rfl dX10_rowsPossible_30 ?_
        refine z_iconst (v := nI 2) dX10_rowsPossible_33 (by decide) ?_
        refine z_ialdN (f := s) (n := 1371) (j := 2) zga_115 (by omega) (by decide) dX10_rowsPossible_34 ?_
        refine z_top (v2 := .int (nI w)) (by rw [h2]) ?_
        refine z_istore_n (lv' := [(3, .int (nI w)), (2, .int (nI 1)), (1, .int (nI 0)), (0, .ref 114)]) dX10_rowsPossible_35 rfl (by decide) rfl ?_
        have L36_2 : ∀ (d k : Nat) (q : zRp), k ≤ r - w → r - w + 1 ≤ k + d → rRp s c (r - w) w (true, 0, zFl (fun v => rUn s (nI v) cnt) left 8, line) = rRp s c (r - w - k) (w + k) q → zPW G mX10_rowsPossible 0 0 o9 h9 0 0 36 [(3, .int (nI (w + k))), (2, .int (zB q.1)), (1, .int (nI (q.2.1))), (0, .ref 114)] [] (zHp S X (s, past, aside, pasts, txt, typed, thrown, (q.2.2.2), need, (q.2.2.1), slits, slB, slF, slT, at9, wd9, got, ans, worst) out) := by
          intro d
          induction d with
          | zero => intro k q hk hd; exact absurd hd (by omega)
          | succ d ih =>
            intro k q hk_k hd_k he_k
            have ih36 := ih
            clear ih
            refine z_iload_n 0 dX10_rowsPossible_36 rfl rfl ?_
            refine z_aload_n 3 dX10_rowsPossible_37 rfl rfl ?_
            refine z_get (v := .ref 115) 0 zgo_114 rfl inX10 (by decide) zw_1178 rfl rfl dX10_rowsPossible_38 ?_
            refine z_iconst (v := nI 1) dX10_rowsPossible_41 (by decide) ?_
            refine z_ialdN (f := s) (n := 1371) (j := 1) zga_115 (by omega) (by decide) dX10_rowsPossible_42 ?_
            refine z_top (v2 := .int (nI r)) (by rw [h1]) ?_
            refine z_icmp_ge (tgt := 133) dX10_rowsPossible_43 (by decide) (fun c_43 => ?_) (fun c_43 => ?_)
            · skip
              have f_43 := m_le (by omega) (by omega) c_43
              have heN : rRp s c (r - w) w (true, 0, zFl (fun v => rUn s (nI v) cnt) left 8, line) = q := by
                rw [he_k, show r - w - k = 0 by omega]
                rfl
              refine z_aload_n 3 dX10_rowsPossible_133 rfl rfl ?_
              refine z_iload_n 2 dX10_rowsPossible_134 rfl rfl ?_
              refine z_callV (N := mX10_tells) 1 [.int (nI (q.2.1))] [] lX10_tells ⟨zw_1267, zw_1269, zw_48⟩ rfl zgo_114 rfl rfl (Nat.le_of_ble_eq_true rfl) (by decide) ⟨zlt, zlt⟩ ⟨Nat.zero_le _, Nat.zero_le _⟩ zal (m_tells hG (nI (q.2.1))) dX10_rowsPossible_135 ?_
              exact z_iret rfl dX10_rowsPossible_138 (zo_i ho9 (by rw [heN])) (zo_h hh9 (by rw [heN])) (Nat.zero_le _) (Nat.zero_le _)
            · skip
              have f_43 := m_nle (by omega) (by omega) c_43
              refine z_iload_n 1 dX10_rowsPossible_46 rfl rfl ?_
              refine z_if_eq (tgt := 133) dX10_rowsPossible_47 (by decide) (fun c_47 => ?_) (fun c_47 => ?_)
              · skip
                have b_47 := zB_0.mp c_47
                have heN : rRp s c (r - w) w (true, 0, zFl (fun v => rUn s (nI v) cnt) left 8, line) = q := he_k.trans (rRp_f b_47 _)
                refine z_aload_n 3 dX10_rowsPossible_133 rfl rfl ?_
                refine z_iload_n 2 dX10_rowsPossible_134 rfl rfl ?_
                refine z_callV (N := mX10_tells) 1 [.int (nI (q.2.1))] [] lX10_tells ⟨zw_1267, zw_1269, zw_48⟩ rfl zgo_114 rfl rfl (Nat.le_of_ble_eq_true rfl) (by decide) ⟨zlt, zlt⟩ ⟨Nat.zero_le _, Nat.zero_le _⟩ zal (m_tells hG (nI (q.2.1))) dX10_rowsPossible_135 ?_
                exact z_iret rfl dX10_rowsPossible_138 (zo_i ho9 (by rw [heN])) (zo_h hh9 (by rw [heN])) (Nat.zero_le _) (Nat.zero_le _)
              · skip
                have b_47 := zB_tt c_47
                have he2 : rRp s c (r - w) w (true, 0, zFl (fun v => rUn s (nI v) cnt) left 8, line) = rRp s c (r - w - (k + 1)) (w + k + 1) (rRpS s c (w + k) (q.1, q.2.1, q.2.2.1, q.2.2.2)) := by
                  rw [he_k, show r - w - k = r - w - (k + 1) + 1 by omega]
                  exact rRp_t (q := q) b_47
                refine z_aload_n 3 dX10_rowsPossible_50 rfl rfl ?_
                refine z_iload_n 0 dX10_rowsPossible_51 rfl rfl ?_
                refine z_iconst (v := nI 0) dX10_rowsPossible_52 (by decide) ?_
                refine z_callV (N := mX10_draws) 2 [.int (nI (w + k)), .int (nI 0)] [] lX10_draws ⟨zw_1356, zw_1358, zw_62⟩ rfl zgo_114 rfl rfl (Nat.le_of_ble_eq_true rfl) (by decide) ⟨zlt, zlt⟩ ⟨Nat.zero_le _, Nat.zero_le _⟩ zal (m_draws0 hG hM9 (w + k) (by omega)) dX10_rowsPossible_53 ?_
                refine z_iconst (v := nI 0) dX10_rowsPossible_56 (by decide) ?_
                refine z_istore (lv' := [(4, .int (nI 0)), (3, .int (nI (w + k))), (2, .int (zB q.1)), (1, .int (nI (q.2.1))), (0, .ref 114)]) dX10_rowsPossible_57 (by decide) rfl ?_
                have L59_3 : ∀ (d j : Nat), j ≤ 8 → 8 + 1 ≤ j + d → zPW G mX10_rowsPossible 0 0 o9 h9 0 0 59 [(4, .int (nI j)), (3, .int (nI (w + k))), (2, .int (zB (rRpI s c (w + k) j (q.1, q.2.2.1)).1)), (1, .int (nI (q.2.1))), (0, .ref 114)] [] (zHp S X (s, past, aside, pasts, txt, typed, thrown, (zFl (rD s c (w + k)) (q.2.2.2) c), need, ((rRpI s c (w + k) j (q.1, q.2.2.1)).2), slits, slB, slF, slT, at9, wd9, got, ans, worst) out) := by
                  intro d
                  induction d with
                  | zero => intro j hk hd; exact absurd hd (by omega)
                  | succ d ih =>
                    intro j hk_j hd_j
                    have ih59 := ih
                    clear ih
                    refine z_iload 0 dX10_rowsPossible_59 rfl ?_
                    refine z_bipush (v := nI 8) dX10_rowsPossible_61 (by decide) ?_
                    refine z_icmp_ge (tgt := 115) dX10_rowsPossible_63 (by decide) (fun c_63 => ?_) (fun c_63 => ?_)
                    · skip
                      have f_63 := m_le (by omega) (by omega) c_63
                      have e_j : j = 8 := by omega
                      rw [e_j]
                      refine z_iload_n 3 dX10_rowsPossible_115 rfl rfl ?_
                      refine z_iload_n 2 dX10_rowsPossible_116 rfl rfl ?_
                      refine z_if_eq (tgt := 124) dX10_rowsPossible_117 (by decide) (fun c_117 => ?_) (fun c_117 => ?_)
                      · skip
                        have b_117 := zB_0.mp c_117
                        refine z_iconst (v := nI 0) dX10_rowsPossible_124 (by decide) ?_
                        refine z_iaddN (a := q.2.1) (b := 0) dX10_rowsPossible_125 ?_
                        refine z_istore_n (lv' := [(1, .int (nI (q.2.1 + 0))), (4, .int (nI 8)), (3, .int (nI (w + k))), (2, .int (zB (rRpI s c (w + k) 8 (q.1, q.2.2.1)).1)), (0, .ref 114)]) dX10_rowsPossible_126 rfl (by decide) rfl ?_
                        refine z_iinc (v := nI (w + k + 1)) (lv' := [(3, .int (nI (w + k + 1))), (1, .int (nI (q.2.1 + 0))), (4, .int (nI 8)), (2, .int (zB (rRpI s c (w + k) 8 (q.1, q.2.2.1)).1)), (0, .ref 114)]) 2 dX10_rowsPossible_127 rfl (nI_1 _) (by decide) rfl ?_
                        refine z_goto (tgt := 36) dX10_rowsPossible_130 (by decide) ?_
                        refine z_sub [0, 3, 1, 4] (lv' := [(3, .int (nI (w + k + 1))), (2, .int (zB (rRpI s c (w + k) 8 (q.1, q.2.2.1)).1)), (1, .int (nI (q.2.1 + 0))), (0, .ref 114)]) rfl ?_
                        refine z_eqs (lv2 := [(3, .int (nI (w + (k + 1)))), (2, .int (zB (rRpS s c (w + k) (q.1, q.2.1, q.2.2.1, q.2.2.2)).1)), (1, .int (nI ((rRpS s c (w + k) (q.1, q.2.1, q.2.2.1, q.2.2.2)).2.1))), (0, .ref 114)]) (h2 := (zHp S X (s, past, aside, pasts, txt, typed, thrown, ((rRpS s c (w + k) (q.1, q.2.1, q.2.2.1, q.2.2.2)).2.2.2), need, ((rRpS s c (w + k) (q.1, q.2.1, q.2.2.1, q.2.2.2)).2.2.1), slits, slB, slF, slT, at9, wd9, got, ans, worst) out)) (by first | (rw [show (rRpS s c (w + k) (q.1, q.2.1, q.2.2.1, q.2.2.2)).1 = (rRpI s c (w + k) 8 (q.1, q.2.2.1)).1 from rfl, show (rRpS s c (w + k) (q.1, q.2.1, q.2.2.1, q.2.2.2)).2.1 = q.2.1 + (if (rRpI s c (w + k) 8 (q.1, q.2.2.1)).1 then 1 else 0) from rfl, b_117] <;> rfl)) (by rfl) ?_
                        exact ih36 (k + 1) (rRpS s c (w + k) (q.1, q.2.1, q.2.2.1, q.2.2.2)) (by omega) (by omega) he2
                      · skip
                        have b_117 := zB_tt c_117
                        refine z_iconst (v := nI 1) dX10_rowsPossible_120 (by decide) ?_
                        refine z_goto (tgt := 125) dX10_rowsPossible_121 (by decide) ?_
                        refine z_iaddN (a := q.2.1) (b := 1) dX10_rowsPossible_125 ?_
                        refine z_istore_n (lv' := [(1, .int (nI (q.2.1 + 1))), (4, .int (nI 8)), (3, .int (nI (w + k))), (2, .int (zB (rRpI s c (w + k) 8 (q.1, q.2.2.1)).1)), (0, .ref 114)]) dX10_rowsPossible_126 rfl (by decide) rfl ?_
                        refine z_iinc (v := nI (w + k + 1)) (lv' := [(3, .int (nI (w + k + 1))), (1, .int (nI (q.2.1 + 1))), (4, .int (nI 8)), (2, .int (zB (rRpI s c (w + k) 8 (q.1, q.2.2.1)).1)), (0, .ref 114)]) 2 dX10_rowsPossible_127 rfl (nI_1 _) (by decide) rfl ?_
                        refine z_goto (tgt := 36) dX10_rowsPossible_130 (by decide) ?_
                        refine z_sub [0, 3, 1, 4] (lv' := [(3, .int (nI (w + k + 1))), (2, .int (zB (rRpI s c (w + k) 8 (q.1, q.2.2.1)).1)), (1, .int (nI (q.2.1 + 1))), (0, .ref 114)]) rfl ?_
                        refine z_eqs (lv2 := [(3, .int (nI (w + (k + 1)))), (2, .int (zB (rRpS s c (w + k) (q.1, q.2.1, q.2.2.1, q.2.2.2)).1)), (1, .int (nI ((rRpS s c (w + k) (q.1, q.2.1, q.2.2.1, q.2.2.2)).2.1))), (0, .ref 114)]) (h2 := (zHp S X (s, past, aside, pasts, txt, typed, thrown, ((rRpS s c (w + k) (q.1, q.2.1, q.2.2.1, q.2.2.2)).2.2.2), need, ((rRpS s c (w + k) (q.1, q.2.1, q.2.2.1, q.2.2.2)).2.2.1), slits, slB, slF, slT, at9, wd9, got, ans, worst) out)) (by first | (rw [show (rRpS s c (w + k) (q.1, q.2.1, q.2.2.1, q.2.2.2)).1 = (rRpI s c (w + k) 8 (q.1, q.2.2.1)).1 from rfl, show (rRpS s c (w + k) (q.1, q.2.1, q.2.2.1, q.2.2.2)).2.1 = q.2.1 + (if (rRpI s c (w + k) 8 (q.1, q.2.2.1)).1 then 1 else 0) from rfl, b_117] <;> rfl)) (by rfl) ?_
                        exact ih36 (k + 1) (rRpS s c (w + k) (q.1, q.2.1, q.2.2.1, q.2.2.2)) (by omega) (by omega) he2
                    · skip
                      have f_63 := m_nle (by omega) (by omega) c_63
                      refine z_aload_n 4 dX10_rowsPossible_66 rfl rfl ?_
                      refine z_get (v := .ref 121) 9 zgo_114 rfl inX10 (by decide) zw_1187 rfl rfl dX10_rowsPossible_67 ?_
                      refine z_iload 0 dX10_rowsPossible_70 rfl ?_
                      refine z_dup2 dX10_rowsPossible_72 rfl rfl ?_
                      refine z_ialdN (f := ((rRpI s c (w + k) j (q.1, q.2.2.1)).2)) (n := 8) (j := j) zga_121 (by omega) (by decide) dX10_rowsPossible_73 ?_
                      refine z_aload_n 4 dX10_rowsPossible_74 rfl rfl ?_
                      refine z_iload 0 dX10_rowsPossible_75 rfl ?_
                      refine z_callV (N := mX10_cellsOf) 1 [.int (nI j)] [.int (((rRpI s c (w + k) j (q.1, q.2.2.1)).2) j), .int (nI j), .ref 121] lX10_cellsOf ⟨zw_1372, zw_1374, zw_66⟩ rfl zgo_114 rfl rfl (Nat.le_of_ble_eq_true rfl) (by decide) ⟨zlt, zlt⟩ ⟨Nat.zero_le _, Nat.zero_le _⟩ (fun _ => rfl) (m_cellsOf hG hM9 (nI j)) dX10_rowsPossible_77 ?_
                      refine z_top (v2 := .int (nI (zCt (fun b => (rD s c (w + k)) b == nI j) c))) (by exact congrArg (fun n => Value.int (nI n)) (zCt_cg (fun b hb => by simp only [zFl_in hb]))) ?_
                      refine z_aload_n 4 dX10_rowsPossible_80 rfl rfl ?_
                      refine z_iload 0 dX10_rowsPossible_81 rfl ?_
                      refine z_callV (N := mX10_runsOf) 1 [.int (nI j)] [.int (nI (zCt (fun b => (rD s c (w + k)) b == nI j) c)), .int (((rRpI s c (w + k) j (q.1, q.2.2.1)).2) j), .int (nI j), .ref 121] lX10_runsOf ⟨zw_1364, zw_1366, zw_64⟩ rfl zgo_114 rfl rfl (Nat.le_of_ble_eq_true rfl) (by decide) ⟨zlt, zlt⟩ ⟨Nat.zero_le _, Nat.zero_le _⟩ (fun _ => rfl) (m_runsOf hG hM9 (nI j)) dX10_rowsPossible_83 ?_
                      refine z_top (v2 := .int (nI (zCt (fun b => (rD s c (w + k)) b == nI j && rBeg (rD s c (w + k)) b) c))) (by exact congrArg (fun n => Value.int (nI n)) (zCt_cg (fun b hb => by simp only [zFl_in hb, rBeg_fl hb]))) ?_
                      refine z_iaddN (a := zCt (fun b => (rD s c (w + k)) b == nI j) c) (b := zCt (fun b => (rD s c (w + k)) b == nI j && rBeg (rD s c (w + k)) b) c) dX10_rowsPossible_86 ?_
                      refine z_isub dX10_rowsPossible_87 ?_
                      refine z_iastN (f := ((rRpI s c (w + k) j (q.1, q.2.2.1)).2)) (n := 8) (j := j) zga_121 (by omega) (by decide) dX10_rowsPossible_88 ?_
                      refine z_eqh (h2 := (zHp S X (s, past, aside, pasts, txt, typed, thrown, (zFl (rD s c (w + k)) (q.2.2.2) c), need, (upd ((rRpI s c (w + k) j (q.1, q.2.2.1)).2) j ((((rRpI s c (w + k) j (q.1, q.2.2.1)).2) j) - (nI ((zCt (fun b => (rD s c (w + k)) b == nI j) c) + (zCt (fun b => (rD s c (w + k)) b == nI j && rBeg (rD s c (w + k)) b) c))))), slits, slB, slF, slT, at9, wd9, got, ans, worst) out)) zsa_121 ?_
                      have J108_139 : zPW G mX10_rowsPossible 0 0 o9 h9 0 0 108 [(4, .int (nI j)), (3, .int (nI (w + k))), (2, .int (zB (rRpI s c (w + k) j (q.1, q.2.2.1)).1)), (1, .int (nI (q.2.1))), (0, .ref 114)] [.int (zB (rRpI s c (w + k) (j + 1) (q.1, q.2.2.1)).1)] (zHp S X (s, past, aside, pasts, txt, typed, thrown, (zFl (rD s c (w + k)) (q.2.2.2) c), need, (upd ((rRpI s c (w + k) j (q.1, q.2.2.1)).2) j ((((rRpI s c (w + k) j (q.1, q.2.2.1)).2) j) - (nI ((zCt (fun b => (rD s c (w + k)) b == nI j) c) + (zCt (fun b => (rD s c (w + k)) b == nI j && rBeg (rD s c (w + k)) b) c))))), slits, slB, slF, slT, at9, wd9, got, ans, worst) out) := by
                        refine z_istore_n (lv' := [(2, .int (zB (rRpI s c (w + k) (j + 1) (q.1, q.2.2.1)).1)), (4, .int (nI j)), (3, .int (nI (w + k))), (1, .int (nI (q.2.1))), (0, .ref 114)]) dX10_rowsPossible_108 rfl (by decide) rfl ?_
                        refine z_iinc (v := nI (j + 1)) (lv' := [(4, .int (nI (j + 1))), (2, .int (zB (rRpI s c (w + k) (j + 1) (q.1, q.2.2.1)).1)), (3, .int (nI (w + k))), (1, .int (nI (q.2.1))), (0, .ref 114)]) 1 dX10_rowsPossible_109 rfl (nI_1 _) (by decide) rfl ?_
                        refine z_goto (tgt := 59) dX10_rowsPossible_112 (by decide) ?_
                        refine z_sub [0, 2, 1, 3, 4] (lv' := [(4, .int (nI (j + 1))), (3, .int (nI (w + k))), (2, .int (zB (rRpI s c (w + k) (j + 1) (q.1, q.2.2.1)).1)), (1, .int (nI (q.2.1))), (0, .ref 114)]) rfl ?_
                        refine z_eqs (lv2 := [(4, .int (nI ((j + 1)))), (3, .int (nI (w + k))), (2, .int (zB (rRpI s c (w + k) (j + 1) (q.1, q.2.2.1)).1)), (1, .int (nI (q.2.1))), (0, .ref 114)]) (h2 := (zHp S X (s, past, aside, pasts, txt, typed, thrown, (zFl (rD s c (w + k)) (q.2.2.2) c), need, ((rRpI s c (w + k) (j + 1) (q.1, q.2.2.1)).2), slits, slB, slF, slT, at9, wd9, got, ans, worst) out)) (by rfl) (by rfl) ?_
                        exact ih59 (j + 1) (by omega) (by omega)
                      refine z_iload_n 2 dX10_rowsPossible_89 rfl rfl ?_
                      refine z_if_eq (tgt := 107) dX10_rowsPossible_90 (by decide) (fun c_90 => ?_) (fun c_90 => ?_)
                      · skip
                        have b_90 := zB_0.mp c_90
                        refine z_iconst (v := nI 0) dX10_rowsPossible_107 (by decide) ?_
                        refine z_top (v2 := .int (zB (rRpI s c (w + k) (j + 1) (q.1, q.2.2.1)).1)) (by first | exact congrArg Value.int (rRpC b_90 c_100) | exact congrArg Value.int (rRpB b_90 c_100) | exact congrArg Value.int (rRpA b_90)) ?_
                        exact J108_139
                      · skip
                        have b_90 := zB_tt c_90
                        refine z_aload_n 4 dX10_rowsPossible_93 rfl rfl ?_
                        refine z_get (v := .ref 121) 9 zgo_114 rfl inX10 (by decide) zw_1187 rfl rfl dX10_rowsPossible_94 ?_
                        refine z_iload 0 dX10_rowsPossible_97 rfl ?_
                        refine z_ialdN (f := (upd ((rRpI s c (w + k) j (q.1, q.2.2.1)).2) j ((((rRpI s c (w + k) j (q.1, q.2.2.1)).2) j) - (nI ((zCt (fun b => (rD s c (w + k)) b == nI j) c) + (zCt (fun b => (rD s c (w + k)) b == nI j && rBeg (rD s c (w + k)) b) c)))))) (n := 8) (j := j) zga_121 (by omega) (by decide) dX10_rowsPossible_99 ?_
                        refine z_top (v2 := .int ((rRpI s c (w + k) j (q.1, q.2.2.1)).2 j - nI (rRpU s c (w + k) j))) (by exact congrArg Value.int (if_pos rfl)) ?_
                        refine z_if_lt (tgt := 107) dX10_rowsPossible_100 (by decide) (fun c_100 => ?_) (fun c_100 => ?_)
                        · skip
                          refine z_iconst (v := nI 0) dX10_rowsPossible_107 (by decide) ?_
                          refine z_top (v2 := .int (zB (rRpI s c (w + k) (j + 1) (q.1, q.2.2.1)).1)) (by first | exact congrArg Value.int (rRpC b_90 c_100) | exact congrArg Value.int (rRpB b_90 c_100) | exact congrArg Value.int (rRpA b_90)) ?_
                          exact J108_139
                        · skip
                          refine z_iconst (v := nI 1) dX10_rowsPossible_103 (by decide) ?_
                          refine z_goto (tgt := 108) dX10_rowsPossible_104 (by decide) ?_
                          refine z_top (v2 := .int (zB (rRpI s c (w + k) (j + 1) (q.1, q.2.2.1)).1)) (by first | exact congrArg Value.int (rRpC b_90 c_100) | exact congrArg Value.int (rRpB b_90 c_100) | exact congrArg Value.int (rRpA b_90)) ?_
                          exact J108_139
                refine z_sub [0, 1, 2, 3, 4] (lv' := [(4, .int (nI 0)), (3, .int (nI (w + k))), (2, .int (zB q.1)), (1, .int (nI (q.2.1))), (0, .ref 114)]) rfl ?_
                refine z_eqs (lv2 := [(4, .int (nI 0)), (3, .int (nI (w + k))), (2, .int (zB (rRpI s c (w + k) 0 (q.1, q.2.2.1)).1)), (1, .int (nI (q.2.1))), (0, .ref 114)]) (h2 := (zHp S X (s, past, aside, pasts, txt, typed, thrown, (zFl (rD s c (w + k)) (q.2.2.2) c), need, ((rRpI s c (w + k) 0 (q.1, q.2.2.1)).2), slits, slB, slF, slT, at9, wd9, got, ans, worst) out)) (by rfl) (by rfl) ?_
                exact L59_3 (8 + 1) 0 (by omega) (by omega)
        refine z_sub [0, 1, 2, 3] (lv' := [(3, .int (nI w)), (2, .int (nI 1)), (1, .int (nI 0)), (0, .ref 114)]) rfl ?_
        refine z_eqs (lv2 := [(3, .int (nI (w + 0))), (2, .int (zB (true, 0, zFl (fun v => rUn s (nI v) cnt) left 8, line).1)), (1, .int (nI ((true, 0, zFl (fun v => rUn s (nI v) cnt) left 8, line).2.1))), (0, .ref 114)]) (h2 := (zHp S X (s, past, aside, pasts, txt, typed, thrown, ((true, 0, zFl (fun v => rUn s (nI v) cnt) left 8, line).2.2.2), need, ((true, 0, zFl (fun v => rUn s (nI v) cnt) left 8, line).2.2.1), slits, slB, slF, slT, at9, wd9, got, ans, worst) out)) (by rfl) (by rfl) ?_
        exact L36_2 (r - w + 1) 0 (true, 0, zFl (fun v => rUn s (nI v) cnt) left 8, line) (by omega) (by omega) rfl
      · skip
        have f_5 := m_nle (by omega) (by omega) c_5
        refine z_aload_n 1 dX10_rowsPossible_8 rfl rfl ?_
        refine z_get (v := .ref 121) 9 zgo_114 rfl inX10 (by decide) zw_1187 rfl rfl dX10_rowsPossible_9 ?_
        refine z_iload_n 0 dX10_rowsPossible_12 rfl rfl ?_
        refine z_aload_n 1 dX10_rowsPossible_13 rfl rfl ?_
        refine z_iload_n 0 dX10_rowsPossible_14 rfl rfl ?_
        refine z_callV (N := mX10_unitsOf) 1 [.int (nI i)] [.int (nI i), .ref 121] lX10_unitsOf ⟨zw_1376, zw_1378, zw_67⟩ rfl zgo_114 rfl rfl (Nat.le_of_ble_eq_true rfl) (by decide) ⟨zlt, zlt⟩ ⟨Nat.zero_le _, Nat.zero_le _⟩ (fun _ => rfl) (m_unitsOf hG hM9 (nI i)) dX10_rowsPossible_15 ?_
        refine z_iastN (f := (zFl (fun v => rUn s (nI v) cnt) left i)) (n := 8) (j := i) zga_121 (by omega) (by decide) dX10_rowsPossible_18 ?_
        refine z_eqh (h2 := (zHp S X (s, past, aside, pasts, txt, typed, thrown, line, need, (upd (zFl (fun v => rUn s (nI v) cnt) left i) i (rUn s (nI i) cnt)), slits, slB, slF, slT, at9, wd9, got, ans, worst) out)) zsa_121 ?_
        refine z_iinc (v := nI (i + 1)) (lv' := [(1, .int (nI (i + 1))), (0, .ref 114)]) 0 dX10_rowsPossible_19 rfl (nI_1 _) (by decide) rfl ?_
        refine z_goto (tgt := 2) dX10_rowsPossible_22 (by decide) ?_
        refine z_sub [0, 1] (lv' := [(1, .int (nI (i + 1))), (0, .ref 114)]) rfl ?_
        refine z_eqs (lv2 := [(1, .int (nI ((i + 1)))), (0, .ref 114)]) (h2 := (zHp S X (s, past, aside, pasts, txt, typed, thrown, line, need, (zFl (fun v => rUn s (nI v) cnt) left (i + 1)), slits, slB, slF, slT, at9, wd9, got, ans, worst) out)) (by rfl) (by rw [zFl_S rfl]) ?_
        exact ih2 (i + 1) (by omega) (by omega)
  refine z_sub [0, 1] (lv' := [(1, .int (nI 0)), (0, .ref 114)]) rfl ?_
  refine z_eqs (lv2 := [(1, .int (nI 0)), (0, .ref 114)]) (h2 := (zHp S X (s, past, aside, pasts, txt, typed, thrown, line, need, (zFl (fun v => rUn s (nI v) cnt) left 0), slits, slB, slF, slT, at9, wd9, got, ans, worst) out)) (by rfl) (by rw [zFl_0]) ?_
  exact L2_1 (8 + 1) 0 (by omega) (by omega)

set_option maxHeartbeats 4000000 in
set_option maxRecDepth 100000 in
theorem m_digest {G : zT} {S : zS} {X : zXr} {out : Nat → Int64} {s : (Nat → Int32)} {past : (Nat → Int32)} {aside : (Nat → Int32)} {pasts : Nat} {txt : (Nat → Int32)} {typed : Nat} {thrown : Int32} {line : (Nat → Int32)} {need : (Nat → Int32)} {left : (Nat → Int32)} {slits : Nat} {slB : (Nat → Int32)} {slF : (Nat → Int32)} {slT : (Nat → Int32)} {at9 : Nat} {wd9 : Int32} {got : (Nat → Int32)} {ans : Int32} {worst : UInt32} (hG : zAl G = false) {c r w cnt lim : Nat} (hM : zMd s c r w cnt lim) (hsh : rShs s) (hY : ∀ y b, y < w → b < c → rY s y b = -1 ∨ ∃ j, j < 16 ∧ rY s y b = nI j) (htl : rShv (s 5)) : zRun G mX10_digest 0 0 [.ref 114] (zHp S X (s, past, aside, pasts, txt, typed, thrown, line, need, left, slits, slB, slF, slT, at9, wd9, got, ans, worst) out) (.inr (some (.long (31 * (rGs s ((rFd s w lim (c - 1) (0, (rGa s c r w cnt lim typed 15 (31 * 43346 + (nI pasts).toInt64, line, slits, slB, slF, slT, worst)).2.2.2.1, (rGa s c r w cnt lim typed 15 (31 * 43346 + (nI pasts).toInt64, line, slits, slB, slF, slT, worst)).2.2.2.2.1, (rGa s c r w cnt lim typed 15 (31 * 43346 + (nI pasts).toInt64, line, slits, slB, slF, slT, worst)).2.2.2.2.2.1)).1, (rFd s w lim (c - 1) (0, (rGa s c r w cnt lim typed 15 (31 * 43346 + (nI pasts).toInt64, line, slits, slB, slF, slT, worst)).2.2.2.1, (rGa s c r w cnt lim typed 15 (31 * 43346 + (nI pasts).toInt64, line, slits, slB, slF, slT, worst)).2.2.2.2.1, (rGa s c r w cnt lim typed 15 (31 * 43346 + (nI pasts).toInt64, line, slits, slB, slF, slT, worst)).2.2.2.2.2.1)).2.1, (rFd s w lim (c - 1) (0, (rGa s c r w cnt lim typed 15 (31 * 43346 + (nI pasts).toInt64, line, slits, slB, slF, slT, worst)).2.2.2.1, (rGa s c r w cnt lim typed 15 (31 * 43346 + (nI pasts).toInt64, line, slits, slB, slF, slT, worst)).2.2.2.2.1, (rGa s c r w cnt lim typed 15 (31 * 43346 + (nI pasts).toInt64, line, slits, slB, slF, slT, worst)).2.2.2.2.2.1)).2.2.1, (rFd s w lim (c - 1) (0, (rGa s c r w cnt lim typed 15 (31 * 43346 + (nI pasts).toInt64, line, slits, slB, slF, slT, worst)).2.2.2.1, (rGa s c r w cnt lim typed 15 (31 * 43346 + (nI pasts).toInt64, line, slits, slB, slF, slT, worst)).2.2.2.2.1, (rGa s c r w cnt lim typed 15 (31 * 43346 + (nI pasts).toInt64, line, slits, slB, slF, slT, worst)).2.2.2.2.2.1)).2.2.2) ((rFd s w lim (c - 1) (0, (rGa s c r w cnt lim typed 15 (31 * 43346 + (nI pasts).toInt64, line, slits, slB, slF, slT, worst)).2.2.2.1, (rGa s c r w cnt lim typed 15 (31 * 43346 + (nI pasts).toInt64, line, slits, slB, slF, slT, worst)).2.2.2.2.1, (rGa s c r w cnt lim typed 15 (31 * 43346 + (nI pasts).toInt64, line, slits, slB, slF, slT, worst)).2.2.2.2.2.1)).1) (rGc s c r w cnt 8 ((rGl s c w cnt cnt (rGr s c cnt w ((rGd s c w r (rGa s c r w cnt lim typed 15 (31 * 43346 + (nI pasts).toInt64, line, slits, slB, slF, slT, worst)).1), (rGa s c r w cnt lim typed 15 (31 * 43346 + (nI pasts).toInt64, line, slits, slB, slF, slT, worst)).2.1)).1), (rGr s c cnt w ((rGd s c w r (rGa s c r w cnt lim typed 15 (31 * 43346 + (nI pasts).toInt64, line, slits, slB, slF, slT, worst)).1), (rGa s c r w cnt lim typed 15 (31 * 43346 + (nI pasts).toInt64, line, slits, slB, slF, slT, worst)).2.1)).2)).1) + (rSy s c w false w (0, FP.fconst0)).2.toInt32.toInt64)))) (zHp S X (s, past, aside, pasts, txt, typed, (nI 0), (rGc s c r w cnt 8 ((rGl s c w cnt cnt (rGr s c cnt w ((rGd s c w r (rGa s c r w cnt lim typed 15 (31 * 43346 + (nI pasts).toInt64, line, slits, slB, slF, slT, worst)).1), (rGa s c r w cnt lim typed 15 (31 * 43346 + (nI pasts).toInt64, line, slits, slB, slF, slT, worst)).2.1)).1), (rGr s c cnt w ((rGd s c w r (rGa s c r w cnt lim typed 15 (31 * 43346 + (nI pasts).toInt64, line, slits, slB, slF, slT, worst)).1), (rGa s c r w cnt lim typed 15 (31 * 43346 + (nI pasts).toInt64, line, slits, slB, slF, slT, worst)).2.1)).2)).2, need, left, (rFd s w lim (c - 1) (0, (rGa s c r w cnt lim typed 15 (31 * 43346 + (nI pasts).toInt64, line, slits, slB, slF, slT, worst)).2.2.2.1, (rGa s c r w cnt lim typed 15 (31 * 43346 + (nI pasts).toInt64, line, slits, slB, slF, slT, worst)).2.2.2.2.1, (rGa s c r w cnt lim typed 15 (31 * 43346 + (nI pasts).toInt64, line, slits, slB, slF, slT, worst)).2.2.2.2.2.1)).1, (rFd s w lim (c - 1) (0, (rGa s c r w cnt lim typed 15 (31 * 43346 + (nI pasts).toInt64, line, slits, slB, slF, slT, worst)).2.2.2.1, (rGa s c r w cnt lim typed 15 (31 * 43346 + (nI pasts).toInt64, line, slits, slB, slF, slT, worst)).2.2.2.2.1, (rGa s c r w cnt lim typed 15 (31 * 43346 + (nI pasts).toInt64, line, slits, slB, slF, slT, worst)).2.2.2.2.2.1)).2.1, (rFd s w lim (c - 1) (0, (rGa s c r w cnt lim typed 15 (31 * 43346 + (nI pasts).toInt64, line, slits, slB, slF, slT, worst)).2.2.2.1, (rGa s c r w cnt lim typed 15 (31 * 43346 + (nI pasts).toInt64, line, slits, slB, slF, slT, worst)).2.2.2.2.1, (rGa s c r w cnt lim typed 15 (31 * 43346 + (nI pasts).toInt64, line, slits, slB, slF, slT, worst)).2.2.2.2.2.1)).2.2.1, (rFd s w lim (c - 1) (0, (rGa s c r w cnt lim typed 15 (31 * 43346 + (nI pasts).toInt64, line, slits, slB, slF, slT, worst)).2.2.2.1, (rGa s c r w cnt lim typed 15 (31 * 43346 + (nI pasts).toInt64, line, slits, slB, slF, slT, worst)).2.2.2.2.1, (rGa s c r w cnt lim typed 15 (31 * 43346 + (nI pasts).toInt64, line, slits, slB, slF, slT, worst)).2.2.2.2.2.1)).2.2.2, at9, wd9, got, ans, (rSy s c w false w (0, FP.fconst0)).2) out) := by
  have hM9 := hM
  obtain ⟨h0, h1, h2, h3, h4, hc1, hc, hr1, hr, hw, hn, hl⟩ := hM
  have hsl := rFd_sl (s := s) (lm := lim) (B := (rGa s c r w cnt lim typed 15 (31 * 43346 + (nI pasts).toInt64, line, slits, slB, slF, slT, worst)).2.2.2.1) (F := (rGa s c r w cnt lim typed 15 (31 * 43346 + (nI pasts).toInt64, line, slits, slB, slF, slT, worst)).2.2.2.2.1) (T := (rGa s c r w cnt lim typed 15 (31 * 43346 + (nI pasts).toInt64, line, slits, slB, slF, slT, worst)).2.2.2.2.2.1) (show w ≤ 16 by omega) (c - 1) (by omega)
  have hs160 : (rFd s w lim (c - 1) (0, (rGa s c r w cnt lim typed 15 (31 * 43346 + (nI pasts).toInt64, line, slits, slB, slF, slT, worst)).2.2.2.1, (rGa s c r w cnt lim typed 15 (31 * 43346 + (nI pasts).toInt64, line, slits, slB, slF, slT, worst)).2.2.2.2.1, (rGa s c r w cnt lim typed 15 (31 * 43346 + (nI pasts).toInt64, line, slits, slB, slF, slT, worst)).2.2.2.2.2.1)).1 ≤ 160 := hsl.1
  refine zRun_of (by decide +kernel) rfl rfl (Nat.le_of_ble_eq_true rfl) ?_
  suffices hs : ∀ (o9 : zO) (h9 : zH), (Sum.inr (some (.long (31 * (rGs s ((rFd s w lim (c - 1) (0, (rGa s c r w cnt lim typed 15 (31 * 43346 + (nI pasts).toInt64, line, slits, slB, slF, slT, worst)).2.2.2.1, (rGa s c r w cnt lim typed 15 (31 * 43346 + (nI pasts).toInt64, line, slits, slB, slF, slT, worst)).2.2.2.2.1, (rGa s c r w cnt lim typed 15 (31 * 43346 + (nI pasts).toInt64, line, slits, slB, slF, slT, worst)).2.2.2.2.2.1)).1, (rFd s w lim (c - 1) (0, (rGa s c r w cnt lim typed 15 (31 * 43346 + (nI pasts).toInt64, line, slits, slB, slF, slT, worst)).2.2.2.1, (rGa s c r w cnt lim typed 15 (31 * 43346 + (nI pasts).toInt64, line, slits, slB, slF, slT, worst)).2.2.2.2.1, (rGa s c r w cnt lim typed 15 (31 * 43346 + (nI pasts).toInt64, line, slits, slB, slF, slT, worst)).2.2.2.2.2.1)).2.1, (rFd s w lim (c - 1) (0, (rGa s c r w cnt lim typed 15 (31 * 43346 + (nI pasts).toInt64, line, slits, slB, slF, slT, worst)).2.2.2.1, (rGa s c r w cnt lim typed 15 (31 * 43346 + (nI pasts).toInt64, line, slits, slB, slF, slT, worst)).2.2.2.2.1, (rGa s c r w cnt lim typed 15 (31 * 43346 + (nI pasts).toInt64, line, slits, slB, slF, slT, worst)).2.2.2.2.2.1)).2.2.1, (rFd s w lim (c - 1) (0, (rGa s c r w cnt lim typed 15 (31 * 43346 + (nI pasts).toInt64, line, slits, slB, slF, slT, worst)).2.2.2.1, (rGa s c r w cnt lim typed 15 (31 * 43346 + (nI pasts).toInt64, line, slits, slB, slF, slT, worst)).2.2.2.2.1, (rGa s c r w cnt lim typed 15 (31 * 43346 + (nI pasts).toInt64, line, slits, slB, slF, slT, worst)).2.2.2.2.2.1)).2.2.2) ((rFd s w lim (c - 1) (0, (rGa s c r w cnt lim typed 15 (31 * 43346 + (nI pasts).toInt64, line, slits, slB, slF, slT, worst)).2.2.2.1, (rGa s c r w cnt lim typed 15 (31 * 43346 + (nI pasts).toInt64, line, slits, slB, slF, slT, worst)).2.2.2.2.1, (rGa s c r w cnt lim typed 15 (31 * 43346 + (nI pasts).toInt64, line, slits, slB, slF, slT, worst)).2.2.2.2.2.1)).1) (rGc s c r w cnt 8 ((rGl s c w cnt cnt (rGr s c cnt w ((rGd s c w r (rGa s c r w cnt lim typed 15 (31 * 43346 + (nI pasts).toInt64, line, slits, slB, slF, slT, worst)).1), (rGa s c r w cnt lim typed 15 (31 * 43346 + (nI pasts).toInt64, line, slits, slB, slF, slT, worst)).2.1)).1), (rGr s c cnt w ((rGd s c w r (rGa s c r w cnt lim typed 15 (31 * 43346 + (nI pasts).toInt64, line, slits, slB, slF, slT, worst)).1), (rGa s c r w cnt lim typed 15 (31 * 43346 + (nI pasts).toInt64, line, slits, slB, slF, slT, worst)).2.1)).2)).1) + (rSy s c w false w (0, FP.fconst0)).2.toInt32.toInt64))) : zO) = o9 → (zHp S X (s, past, aside, pasts, txt, typed, (nI 0), (rGc s c r w cnt 8 ((rGl s c w cnt cnt (rGr s c cnt w ((rGd s c w r (rGa s c r w cnt lim typed 15 (31 * 43346 + (nI pasts).toInt64, line, slits, slB, slF, slT, worst)).1), (rGa s c r w cnt lim typed 15 (31 * 43346 + (nI pasts).toInt64, line, slits, slB, slF, slT, worst)).2.1)).1), (rGr s c cnt w ((rGd s c w r (rGa s c r w cnt lim typed 15 (31 * 43346 + (nI pasts).toInt64, line, slits, slB, slF, slT, worst)).1), (rGa s c r w cnt lim typed 15 (31 * 43346 + (nI pasts).toInt64, line, slits, slB, slF, slT, worst)).2.1)).2)).2, need, left, (rFd s w lim (c - 1) (0, (rGa s c r w cnt lim typed 15 (31 * 43346 + (nI pasts).toInt64, line, slits, slB, slF, slT, worst)).2.2.2.1, (rGa s c r w cnt lim typed 15 (31 * 43346 + (nI pasts).toInt64, line, slits, slB, slF, slT, worst)).2.2.2.2.1, (rGa s c r w cnt lim typed 15 (31 * 43346 + (nI pasts).toInt64, line, slits, slB, slF, slT, worst)).2.2.2.2.2.1)).1, (rFd s w lim (c - 1) (0, (rGa s c r w cnt lim typed 15 (31 * 43346 + (nI pasts).toInt64, line, slits, slB, slF, slT, worst)).2.2.2.1, (rGa s c r w cnt lim typed 15 (31 * 43346 + (nI pasts).toInt64, line, slits, slB, slF, slT, worst)).2.2.2.2.1, (rGa s c r w cnt lim typed 15 (31 * 43346 + (nI pasts).toInt64, line, slits, slB, slF, slT, worst)).2.2.2.2.2.1)).2.1, (rFd s w lim (c - 1) (0, (rGa s c r w cnt lim typed 15 (31 * 43346 + (nI pasts).toInt64, line, slits, slB, slF, slT, worst)).2.2.2.1, (rGa s c r w cnt lim typed 15 (31 * 43346 + (nI pasts).toInt64, line, slits, slB, slF, slT, worst)).2.2.2.2.1, (rGa s c r w cnt lim typed 15 (31 * 43346 + (nI pasts).toInt64, line, slits, slB, slF, slT, worst)).2.2.2.2.2.1)).2.2.1, (rFd s w lim (c - 1) (0, (rGa s c r w cnt lim typed 15 (31 * 43346 + (nI pasts).toInt64, line, slits, slB, slF, slT, worst)).2.2.2.1, (rGa s c r w cnt lim typed 15 (31 * 43346 + (nI pasts).toInt64, line, slits, slB, slF, slT, worst)).2.2.2.2.1, (rGa s c r w cnt lim typed 15 (31 * 43346 + (nI pasts).toInt64, line, slits, slB, slF, slT, worst)).2.2.2.2.2.1)).2.2.2, at9, wd9, got, ans, (rSy s c w false w (0, FP.fconst0)).2) out) = h9 → zPW G mX10_digest 0 0 o9 h9 0 0 0 [(0, .ref 114)] [] (zHp S X (s, past, aside, pasts, txt, typed, thrown, line, need, left, slits, slB, slF, slT, at9, wd9, got, ans, worst) out) from hs _ _ rfl rfl
  intro o9 h9 ho9 hh9
  refine z_ldc2 zw_1618 dX10_digest_0 ?_
  refine z_aload_n 0 dX10_digest_3 rfl rfl ?_
  refine z_get (v := .int (nI pasts)) 3 zgo_114 rfl inX10 (by decide) zw_1181 rfl rfl dX10_digest_4 ?_
  refine z_i2l dX10_digest_7 ?_
  refine z_ladd dX10_digest_8 ?_
  refine z_lstore_n (lv' := [(1, .long (1343726 + ((nI pasts).toInt64))), (0, .ref 114)]) dX10_digest_9 rfl (by decide) rfl ?_
  refine z_iconst (v := nI 0) dX10_digest_10 (by decide) ?_
  refine z_istore_n (lv' := [(3, .int (nI 0)), (1, .long (1343726 + ((nI pasts).toInt64))), (0, .ref 114)]) dX10_digest_11 rfl (by decide) rfl ?_
  have L12_1 : ∀ (d i : Nat), i ≤ 15 → 15 + 1 ≤ i + d → zPW G mX10_digest 0 0 o9 h9 0 0 12 [(3, .int (nI i)), (1, .long ((rGa s c r w cnt lim typed i (31 * 43346 + (nI pasts).toInt64, line, slits, slB, slF, slT, worst)).1)), (0, .ref 114)] [] (zHp S X (s, past, aside, pasts, txt, typed, thrown, (rGa s c r w cnt lim typed i (31 * 43346 + (nI pasts).toInt64, line, slits, slB, slF, slT, worst)).2.1, need, left, (rGa s c r w cnt lim typed i (31 * 43346 + (nI pasts).toInt64, line, slits, slB, slF, slT, worst)).2.2.1, (rGa s c r w cnt lim typed i (31 * 43346 + (nI pasts).toInt64, line, slits, slB, slF, slT, worst)).2.2.2.1, (rGa s c r w cnt lim typed i (31 * 43346 + (nI pasts).toInt64, line, slits, slB, slF, slT, worst)).2.2.2.2.1, (rGa s c r w cnt lim typed i (31 * 43346 + (nI pasts).toInt64, line, slits, slB, slF, slT, worst)).2.2.2.2.2.1, at9, wd9, got, ans, (rGa s c r w cnt lim typed i (31 * 43346 + (nI pasts).toInt64, line, slits, slB, slF, slT, worst)).2.2.2.2.2.2) out) := by
    intro d
    induction d with
    | zero => intro i hk hd; exact absurd hd (by omega)
    | succ d ih =>
      intro i hk_i hd_i
      have ih12 := ih
      clear ih
      refine z_iload_n 0 dX10_digest_12 rfl rfl ?_
      refine z_bipush (v := nI 15) dX10_digest_13 (by decide) ?_
      refine z_icmp_ge (tgt := 37) dX10_digest_15 (by decide) (fun c_15 => ?_) (fun c_15 => ?_)
      · skip
        have f_15 := m_le (by omega) (by omega) c_15
        have e_i : i = 15 := by omega
        rw [e_i]
        generalize (rGa s c r w cnt lim typed 15 (31 * 43346 + (nI pasts).toInt64, line, slits, slB, slF, slT, worst)) = PA at hsl hs160 ho9 hh9 ⊢
        refine z_iconst (v := nI 0) dX10_digest_37 (by decide) ?_
        refine z_istore_n (lv' := [(3, .int (nI 0)), (1, .long (PA.1)), (0, .ref 114)]) dX10_digest_38 rfl (by decide) rfl ?_
        have L39_2 : ∀ (d j : Nat), j ≤ r → r + 1 ≤ j + d → zPW G mX10_digest 0 0 o9 h9 0 0 39 [(3, .int (nI j)), (1, .long ((rGd s c w j PA.1))), (0, .ref 114)] [] (zHp S X (s, past, aside, pasts, txt, typed, thrown, PA.2.1, need, left, PA.2.2.1, PA.2.2.2.1, PA.2.2.2.2.1, PA.2.2.2.2.2.1, at9, wd9, got, ans, PA.2.2.2.2.2.2) out) := by
          intro d
          induction d with
          | zero => intro j hk hd; exact absurd hd (by omega)
          | succ d ih =>
            intro j hk_j hd_j
            have ih39 := ih
            clear ih
            refine z_iload_n 0 dX10_digest_39 rfl rfl ?_
            refine z_aload_n 2 dX10_digest_40 rfl rfl ?_
            refine z_get (v := .ref 115) 0 zgo_114 rfl inX10 (by decide) zw_1178 rfl rfl dX10_digest_41 ?_
            refine z_iconst (v := nI 1) dX10_digest_44 (by decide) ?_
            refine z_ialdN (f := s) (n := 1371) (j := 1) zga_115 (by omega) (by decide) dX10_digest_45 ?_
            refine z_top (v2 := .int (nI r)) (by rw [h1]) ?_
            refine z_icmp_ge (tgt := 107) dX10_digest_46 (by decide) (fun c_46 => ?_) (fun c_46 => ?_)
            · skip
              have f_46 := m_le (by omega) (by omega) c_46
              have e_j : j = r := by omega
              rw [e_j]
              generalize (rGd s c w r PA.1) = HB at ho9 hh9 ⊢
              refine z_iconst (v := nI 0) dX10_digest_107 (by decide) ?_
              refine z_istore_n (lv' := [(3, .int (nI 0)), (1, .long HB), (0, .ref 114)]) dX10_digest_108 rfl (by decide) rfl ?_
              have L109_3 : ∀ (d j : Nat), j ≤ w → w + 1 ≤ j + d → zPW G mX10_digest 0 0 o9 h9 0 0 109 [(3, .int (nI j)), (1, .long ((rGr s c cnt j (HB, PA.2.1)).1)), (0, .ref 114)] [] (zHp S X (s, past, aside, pasts, txt, typed, thrown, (rGr s c cnt j (HB, PA.2.1)).2, need, left, PA.2.2.1, PA.2.2.2.1, PA.2.2.2.2.1, PA.2.2.2.2.2.1, at9, wd9, got, ans, PA.2.2.2.2.2.2) out) := by
                intro d
                induction d with
                | zero => intro j hk hd; exact absurd hd (by omega)
                | succ d ih =>
                  intro j hk_j hd_j
                  have ih109 := ih
                  clear ih
                  refine z_iload_n 0 dX10_digest_109 rfl rfl ?_
                  refine z_aload_n 2 dX10_digest_110 rfl rfl ?_
                  refine z_get (v := .ref 115) 0 zgo_114 rfl inX10 (by decide) zw_1178 rfl rfl dX10_digest_111 ?_
                  refine z_iconst (v := nI 2) dX10_digest_114 (by decide) ?_
                  refine z_ialdN (f := s) (n := 1371) (j := 2) zga_115 (by omega) (by decide) dX10_digest_115 ?_
                  refine z_top (v2 := .int (nI w)) (by rw [h2]) ?_
                  refine z_icmp_ge (tgt := 168) dX10_digest_116 (by decide) (fun c_116 => ?_) (fun c_116 => ?_)
                  · skip
                    have f_116 := m_le (by omega) (by omega) c_116
                    have e_j : j = w := by omega
                    rw [e_j]
                    generalize (rGr s c cnt w (HB, PA.2.1)) = PR at ho9 hh9 ⊢
                    refine z_iconst (v := nI 0) dX10_digest_168 (by decide) ?_
                    refine z_istore_n (lv' := [(3, .int (nI 0)), (1, .long (PR.1)), (0, .ref 114)]) dX10_digest_169 rfl (by decide) rfl ?_
                    have L170_4 : ∀ (d j : Nat), j ≤ cnt → cnt + 1 ≤ j + d → zPW G mX10_digest 0 0 o9 h9 0 0 170 [(3, .int (nI j)), (1, .long ((rGl s c w cnt j PR.1))), (0, .ref 114)] [] (zHp S X (s, past, aside, pasts, txt, typed, thrown, PR.2, need, left, PA.2.2.1, PA.2.2.2.1, PA.2.2.2.2.1, PA.2.2.2.2.2.1, at9, wd9, got, ans, PA.2.2.2.2.2.2) out) := by
                      intro d
                      induction d with
                      | zero => intro j hk hd; exact absurd hd (by omega)
                      | succ d ih =>
                        intro j hk_j hd_j
                        have ih170 := ih
                        clear ih
                        refine z_iload_n 0 dX10_digest_170 rfl rfl ?_
                        refine z_aload_n 2 dX10_digest_171 rfl rfl ?_
                        refine z_get (v := .ref 115) 0 zgo_114 rfl inX10 (by decide) zw_1178 rfl rfl dX10_digest_172 ?_
                        refine z_iconst (v := nI 3) dX10_digest_175 (by decide) ?_
                        refine z_ialdN (f := s) (n := 1371) (j := 3) zga_115 (by omega) (by decide) dX10_digest_176 ?_
                        refine z_top (v2 := .int (nI cnt)) (by rw [h3]) ?_
                        refine z_icmp_ge (tgt := 217) dX10_digest_177 (by decide) (fun c_177 => ?_) (fun c_177 => ?_)
                        · skip
                          have f_177 := m_le (by omega) (by omega) c_177
                          have e_j : j = cnt := by omega
                          rw [e_j]
                          generalize (rGl s c w cnt cnt PR.1) = HLo at ho9 hh9 ⊢
                          refine z_iconst (v := nI 0) dX10_digest_217 (by decide) ?_
                          refine z_istore_n (lv' := [(3, .int (nI 0)), (1, .long HLo), (0, .ref 114)]) dX10_digest_218 rfl (by decide) rfl ?_
                          have L219_5 : ∀ (d j : Nat), j ≤ 8 → 8 + 1 ≤ j + d → zPW G mX10_digest 0 0 o9 h9 0 0 219 [(3, .int (nI j)), (1, .long ((rGc s c r w cnt j (HLo, PR.2)).1)), (0, .ref 114)] [] (zHp S X (s, past, aside, pasts, txt, typed, thrown, (rGc s c r w cnt j (HLo, PR.2)).2, need, left, PA.2.2.1, PA.2.2.2.1, PA.2.2.2.2.1, PA.2.2.2.2.2.1, at9, wd9, got, ans, PA.2.2.2.2.2.2) out) := by
                            intro d
                            induction d with
                            | zero => intro j hk hd; exact absurd hd (by omega)
                            | succ d ih =>
                              intro j hk_j hd_j
                              have ih219 := ih
                              clear ih
                              refine z_iload_n 0 dX10_digest_219 rfl rfl ?_
                              refine z_bipush (v := nI 8) dX10_digest_220 (by decide) ?_
                              refine z_icmp_ge (tgt := 275) dX10_digest_222 (by decide) (fun c_222 => ?_) (fun c_222 => ?_)
                              · skip
                                have f_222 := m_le (by omega) (by omega) c_222
                                have e_j : j = 8 := by omega
                                rw [e_j]
                                generalize (rGc s c r w cnt 8 (HLo, PR.2)) = PC at ho9 hh9 ⊢
                                refine z_aload_n 2 dX10_digest_275 rfl rfl ?_
                                refine z_aload_n 2 dX10_digest_276 rfl rfl ?_
                                refine z_get (v := .ref 115) 0 zgo_114 rfl inX10 (by decide) zw_1178 rfl rfl dX10_digest_277 ?_
                                refine z_iconst (v := nI 4) dX10_digest_280 (by decide) ?_
                                refine z_ialdN (f := s) (n := 1371) (j := 4) zga_115 (by omega) (by decide) dX10_digest_281 ?_
                                refine z_top (v2 := .int (nI lim)) (by rw [h4]) ?_
                                refine z_callV (N := mX10_finds) 1 [.int (nI lim)] [] lX10_finds ⟨zw_1316, zw_1318, zw_54⟩ rfl zgo_114 rfl rfl (Nat.le_of_ble_eq_true rfl) (by decide) ⟨zlt, zlt⟩ ⟨Nat.zero_le _, Nat.zero_le _⟩ zal (m_finds hG hM9 lim (by omega)) dX10_digest_282 ?_
                                refine z_iconst (v := nI 0) dX10_digest_285 (by decide) ?_
                                refine z_istore_n (lv' := [(3, .int (nI 0)), (1, .long (PC.1)), (0, .ref 114)]) dX10_digest_286 rfl (by decide) rfl ?_
                                have L287_6 : ∀ (d j : Nat), j ≤ (rFd s w lim (c - 1) (0, PA.2.2.2.1, PA.2.2.2.2.1, PA.2.2.2.2.2.1)).1 → (rFd s w lim (c - 1) (0, PA.2.2.2.1, PA.2.2.2.2.1, PA.2.2.2.2.2.1)).1 + 1 ≤ j + d → zPW G mX10_digest 0 0 o9 h9 0 0 287 [(3, .int (nI j)), (1, .long ((rGs s ((rFd s w lim (c - 1) (0, PA.2.2.2.1, PA.2.2.2.2.1, PA.2.2.2.2.2.1)).1, (rFd s w lim (c - 1) (0, PA.2.2.2.1, PA.2.2.2.2.1, PA.2.2.2.2.2.1)).2.1, (rFd s w lim (c - 1) (0, PA.2.2.2.1, PA.2.2.2.2.1, PA.2.2.2.2.2.1)).2.2.1, (rFd s w lim (c - 1) (0, PA.2.2.2.1, PA.2.2.2.2.1, PA.2.2.2.2.2.1)).2.2.2) j PC.1))), (0, .ref 114)] [] (zHp S X (s, past, aside, pasts, txt, typed, thrown, PC.2, need, left, (rFd s w lim (c - 1) (0, PA.2.2.2.1, PA.2.2.2.2.1, PA.2.2.2.2.2.1)).1, (rFd s w lim (c - 1) (0, PA.2.2.2.1, PA.2.2.2.2.1, PA.2.2.2.2.2.1)).2.1, (rFd s w lim (c - 1) (0, PA.2.2.2.1, PA.2.2.2.2.1, PA.2.2.2.2.2.1)).2.2.1, (rFd s w lim (c - 1) (0, PA.2.2.2.1, PA.2.2.2.2.1, PA.2.2.2.2.2.1)).2.2.2, at9, wd9, got, ans, PA.2.2.2.2.2.2) out) := by
                                  intro d
                                  induction d with
                                  | zero => intro j hk hd; exact absurd hd (by omega)
                                  | succ d ih =>
                                    intro j hk_j hd_j
                                    have ih287 := ih
                                    clear ih
                                    refine z_iload_n 0 dX10_digest_287 rfl rfl ?_
                                    refine z_aload_n 2 dX10_digest_288 rfl rfl ?_
                                    refine z_get (v := .int (nI ((rFd s w lim (c - 1) (0, PA.2.2.2.1, PA.2.2.2.2.1, PA.2.2.2.2.2.1)).1))) 10 zgo_114 rfl inX10 (by decide) zw_1188 rfl rfl dX10_digest_289 ?_
                                    refine z_icmp_ge (tgt := 331) dX10_digest_292 (by decide) (fun c_292 => ?_) (fun c_292 => ?_)
                                    · skip
                                      have f_292 := m_le (by omega) (by omega) c_292
                                      have e_j : j = (rFd s w lim (c - 1) (0, PA.2.2.2.1, PA.2.2.2.2.1, PA.2.2.2.2.2.1)).1 := by omega
                                      rw [e_j]
                                      refine z_aload_n 2 dX10_digest_331 rfl rfl ?_
                                      refine z_iconst (v := nI 0) dX10_digest_332 (by decide) ?_
                                      refine z_puti 6 tyX10 zgo_114 rfl inX10 tyX10_ok nmX10 (by decide) zw_1184 rfl rfl (by decide +kernel) (Nat.le_of_ble_eq_true rfl) dX10_digest_333 ?_
                                      refine z_eqh (h2 := (zHp S X (s, past, aside, pasts, txt, typed, (nI 0), PC.2, need, left, (rFd s w lim (c - 1) (0, PA.2.2.2.1, PA.2.2.2.2.1, PA.2.2.2.2.2.1)).1, (rFd s w lim (c - 1) (0, PA.2.2.2.1, PA.2.2.2.2.1, PA.2.2.2.2.2.1)).2.1, (rFd s w lim (c - 1) (0, PA.2.2.2.1, PA.2.2.2.2.1, PA.2.2.2.2.2.1)).2.2.1, (rFd s w lim (c - 1) (0, PA.2.2.2.1, PA.2.2.2.2.1, PA.2.2.2.2.2.1)).2.2.2, at9, wd9, got, ans, PA.2.2.2.2.2.2) out)) zsf_114_6 ?_
                                      refine z_ldc2 zw_1619 dX10_digest_336 ?_
                                      refine z_lload_n 1 dX10_digest_339 rfl rfl ?_
                                      refine z_lmul dX10_digest_340 ?_
                                      refine z_aload_n 2 dX10_digest_341 rfl rfl ?_
                                      refine z_callV (N := mX10_worstOf) 0 [] [.long (31 * (rGs s ((rFd s w lim (c - 1) (0, PA.2.2.2.1, PA.2.2.2.2.1, PA.2.2.2.2.2.1)).1, (rFd s w lim (c - 1) (0, PA.2.2.2.1, PA.2.2.2.2.1, PA.2.2.2.2.2.1)).2.1, (rFd s w lim (c - 1) (0, PA.2.2.2.1, PA.2.2.2.2.1, PA.2.2.2.2.2.1)).2.2.1, (rFd s w lim (c - 1) (0, PA.2.2.2.1, PA.2.2.2.2.1, PA.2.2.2.2.2.1)).2.2.2) ((rFd s w lim (c - 1) (0, PA.2.2.2.1, PA.2.2.2.2.1, PA.2.2.2.2.2.1)).1) PC.1))] lX10_worstOf ⟨zw_1551, zw_1553, zw_99⟩ rfl zgo_114 rfl rfl (Nat.le_of_ble_eq_true rfl) (by decide) ⟨zlt, zlt⟩ ⟨Nat.zero_le _, Nat.zero_le _⟩ zal (m_worstOf hG hM9 hsh hY htl) dX10_digest_342 ?_
                                      refine z_i2l dX10_digest_345 ?_
                                      refine z_ladd dX10_digest_346 ?_
                                      exact z_lret rfl dX10_digest_347 (zo_l ho9 (by rfl)) (zo_h hh9 (by rfl)) (Nat.zero_le _) (Nat.zero_le _)
                                    · skip
                                      have f_292 := m_nle (by omega) (by omega) c_292
                                      refine z_iconst (v := nI 0) dX10_digest_295 (by decide) ?_
                                      refine z_istore (lv' := [(4, .int (nI 0)), (3, .int (nI j)), (1, .long ((rGs s ((rFd s w lim (c - 1) (0, PA.2.2.2.1, PA.2.2.2.2.1, PA.2.2.2.2.2.1)).1, (rFd s w lim (c - 1) (0, PA.2.2.2.1, PA.2.2.2.2.1, PA.2.2.2.2.2.1)).2.1, (rFd s w lim (c - 1) (0, PA.2.2.2.1, PA.2.2.2.2.1, PA.2.2.2.2.2.1)).2.2.1, (rFd s w lim (c - 1) (0, PA.2.2.2.1, PA.2.2.2.2.1, PA.2.2.2.2.2.1)).2.2.2) j PC.1))), (0, .ref 114)]) dX10_digest_296 (by decide) rfl ?_
                                      have L298_7 : ∀ (d k : Nat), k ≤ 4 → 4 + 1 ≤ k + d → zPW G mX10_digest 0 0 o9 h9 0 0 298 [(4, .int (nI k)), (3, .int (nI j)), (1, .long ((rGsK s ((rFd s w lim (c - 1) (0, PA.2.2.2.1, PA.2.2.2.2.1, PA.2.2.2.2.2.1)).1, (rFd s w lim (c - 1) (0, PA.2.2.2.1, PA.2.2.2.2.1, PA.2.2.2.2.2.1)).2.1, (rFd s w lim (c - 1) (0, PA.2.2.2.1, PA.2.2.2.2.1, PA.2.2.2.2.2.1)).2.2.1, (rFd s w lim (c - 1) (0, PA.2.2.2.1, PA.2.2.2.2.1, PA.2.2.2.2.2.1)).2.2.2) j k (rGs s ((rFd s w lim (c - 1) (0, PA.2.2.2.1, PA.2.2.2.2.1, PA.2.2.2.2.2.1)).1, (rFd s w lim (c - 1) (0, PA.2.2.2.1, PA.2.2.2.2.1, PA.2.2.2.2.2.1)).2.1, (rFd s w lim (c - 1) (0, PA.2.2.2.1, PA.2.2.2.2.1, PA.2.2.2.2.2.1)).2.2.1, (rFd s w lim (c - 1) (0, PA.2.2.2.1, PA.2.2.2.2.1, PA.2.2.2.2.2.1)).2.2.2) j PC.1)))), (0, .ref 114)] [] (zHp S X (s, past, aside, pasts, txt, typed, thrown, PC.2, need, left, (rFd s w lim (c - 1) (0, PA.2.2.2.1, PA.2.2.2.2.1, PA.2.2.2.2.2.1)).1, (rFd s w lim (c - 1) (0, PA.2.2.2.1, PA.2.2.2.2.1, PA.2.2.2.2.2.1)).2.1, (rFd s w lim (c - 1) (0, PA.2.2.2.1, PA.2.2.2.2.1, PA.2.2.2.2.2.1)).2.2.1, (rFd s w lim (c - 1) (0, PA.2.2.2.1, PA.2.2.2.2.1, PA.2.2.2.2.2.1)).2.2.2, at9, wd9, got, ans, PA.2.2.2.2.2.2) out) := by
                                        intro d
                                        induction d with
                                        | zero => intro k hk hd; exact absurd hd (by omega)
                                        | succ d ih =>
                                          intro k hk_k hd_k
                                          have ih298 := ih
                                          clear ih
                                          refine z_iload 0 dX10_digest_298 rfl ?_
                                          refine z_iconst (v := nI 4) dX10_digest_300 (by decide) ?_
                                          refine z_icmp_ge (tgt := 325) dX10_digest_301 (by decide) (fun c_301 => ?_) (fun c_301 => ?_)
                                          · skip
                                            have f_301 := m_le (by omega) (by omega) c_301
                                            have e_k : k = 4 := by omega
                                            rw [e_k]
                                            refine z_iinc (v := nI (j + 1)) (lv' := [(3, .int (nI (j + 1))), (4, .int (nI 4)), (1, .long ((rGsK s ((rFd s w lim (c - 1) (0, PA.2.2.2.1, PA.2.2.2.2.1, PA.2.2.2.2.2.1)).1, (rFd s w lim (c - 1) (0, PA.2.2.2.1, PA.2.2.2.2.1, PA.2.2.2.2.2.1)).2.1, (rFd s w lim (c - 1) (0, PA.2.2.2.1, PA.2.2.2.2.1, PA.2.2.2.2.2.1)).2.2.1, (rFd s w lim (c - 1) (0, PA.2.2.2.1, PA.2.2.2.2.1, PA.2.2.2.2.2.1)).2.2.2) j 4 (rGs s ((rFd s w lim (c - 1) (0, PA.2.2.2.1, PA.2.2.2.2.1, PA.2.2.2.2.2.1)).1, (rFd s w lim (c - 1) (0, PA.2.2.2.1, PA.2.2.2.2.1, PA.2.2.2.2.2.1)).2.1, (rFd s w lim (c - 1) (0, PA.2.2.2.1, PA.2.2.2.2.1, PA.2.2.2.2.2.1)).2.2.1, (rFd s w lim (c - 1) (0, PA.2.2.2.1, PA.2.2.2.2.1, PA.2.2.2.2.2.1)).2.2.2) j PC.1)))), (0, .ref 114)]) 1 dX10_digest_325 rfl (nI_1 _) (by decide) rfl ?_
                                            refine z_goto (tgt := 287) dX10_digest_328 (by decide) ?_
                                            refine z_sub [0, 2, 3] (lv' := [(3, .int (nI (j + 1))), (1, .long ((rGsK s ((rFd s w lim (c - 1) (0, PA.2.2.2.1, PA.2.2.2.2.1, PA.2.2.2.2.2.1)).1, (rFd s w lim (c - 1) (0, PA.2.2.2.1, PA.2.2.2.2.1, PA.2.2.2.2.2.1)).2.1, (rFd s w lim (c - 1) (0, PA.2.2.2.1, PA.2.2.2.2.1, PA.2.2.2.2.2.1)).2.2.1, (rFd s w lim (c - 1) (0, PA.2.2.2.1, PA.2.2.2.2.1, PA.2.2.2.2.2.1)).2.2.2) j 4 (rGs s ((rFd s w lim (c - 1) (0, PA.2.2.2.1, PA.2.2.2.2.1, PA.2.2.2.2.2.1)).1, (rFd s w lim (c - 1) (0, PA.2.2.2.1, PA.2.2.2.2.1, PA.2.2.2.2.2.1)).2.1, (rFd s w lim (c - 1) (0, PA.2.2.2.1, PA.2.2.2.2.1, PA.2.2.2.2.2.1)).2.2.1, (rFd s w lim (c - 1) (0, PA.2.2.2.1, PA.2.2.2.2.1, PA.2.2.2.2.2.1)).2.2.2) j PC.1)))), (0, .ref 114)]) rfl ?_
                                            refine z_eqs (lv2 := [(3, .int (nI ((j + 1)))), (1, .long ((rGs s ((rFd s w lim (c - 1) (0, PA.2.2.2.1, PA.2.2.2.2.1, PA.2.2.2.2.2.1)).1, (rFd s w lim (c - 1) (0, PA.2.2.2.1, PA.2.2.2.2.1, PA.2.2.2.2.2.1)).2.1, (rFd s w lim (c - 1) (0, PA.2.2.2.1, PA.2.2.2.2.1, PA.2.2.2.2.2.1)).2.2.1, (rFd s w lim (c - 1) (0, PA.2.2.2.1, PA.2.2.2.2.1, PA.2.2.2.2.2.1)).2.2.2) (j + 1) PC.1))), (0, .ref 114)]) (h2 := (zHp S X (s, past, aside, pasts, txt, typed, thrown, PC.2, need, left, (rFd s w lim (c - 1) (0, PA.2.2.2.1, PA.2.2.2.2.1, PA.2.2.2.2.2.1)).1, (rFd s w lim (c - 1) (0, PA.2.2.2.1, PA.2.2.2.2.1, PA.2.2.2.2.2.1)).2.1, (rFd s w lim (c - 1) (0, PA.2.2.2.1, PA.2.2.2.2.1, PA.2.2.2.2.2.1)).2.2.1, (rFd s w lim (c - 1) (0, PA.2.2.2.1, PA.2.2.2.2.1, PA.2.2.2.2.2.1)).2.2.2, at9, wd9, got, ans, PA.2.2.2.2.2.2) out)) (by rfl) (by rfl) ?_
                                            exact ih287 (j + 1) (by omega) (by omega)
                                          · skip
                                            have f_301 := m_nle (by omega) (by omega) c_301
                                            refine z_ldc2 zw_1619 dX10_digest_304 ?_
                                            refine z_lload_n 2 dX10_digest_307 rfl rfl ?_
                                            refine z_lmul dX10_digest_308 ?_
                                            refine z_aload_n 3 dX10_digest_309 rfl rfl ?_
                                            refine z_iload_n 1 dX10_digest_310 rfl rfl ?_
                                            refine z_iload 0 dX10_digest_311 rfl ?_
                                            refine z_callV (N := mX10_slitOf) 2 [.int (nI j), .int (nI k)] [.long (31 * (rGsK s ((rFd s w lim (c - 1) (0, PA.2.2.2.1, PA.2.2.2.2.1, PA.2.2.2.2.2.1)).1, (rFd s w lim (c - 1) (0, PA.2.2.2.1, PA.2.2.2.2.1, PA.2.2.2.2.2.1)).2.1, (rFd s w lim (c - 1) (0, PA.2.2.2.1, PA.2.2.2.2.1, PA.2.2.2.2.2.1)).2.2.1, (rFd s w lim (c - 1) (0, PA.2.2.2.1, PA.2.2.2.2.1, PA.2.2.2.2.2.1)).2.2.2) j k (rGs s ((rFd s w lim (c - 1) (0, PA.2.2.2.1, PA.2.2.2.2.1, PA.2.2.2.2.2.1)).1, (rFd s w lim (c - 1) (0, PA.2.2.2.1, PA.2.2.2.2.1, PA.2.2.2.2.2.1)).2.1, (rFd s w lim (c - 1) (0, PA.2.2.2.1, PA.2.2.2.2.1, PA.2.2.2.2.2.1)).2.2.1, (rFd s w lim (c - 1) (0, PA.2.2.2.1, PA.2.2.2.2.1, PA.2.2.2.2.2.1)).2.2.2) j PC.1)))] lX10_slitOf ⟨zw_1492, zw_1494, zw_89⟩ rfl zgo_114 rfl rfl (Nat.le_of_ble_eq_true rfl) (by decide) ⟨zlt, zlt⟩ ⟨Nat.zero_le _, Nat.zero_le _⟩ (fun _ => rfl) (m_slitOf hG j f_292 hsl k (by omega)) dX10_digest_313 ?_
                                            refine z_i2l dX10_digest_316 ?_
                                            refine z_ladd dX10_digest_317 ?_
                                            refine z_lstore_n (lv' := [(1, .long ((31 * (rGsK s ((rFd s w lim (c - 1) (0, PA.2.2.2.1, PA.2.2.2.2.1, PA.2.2.2.2.2.1)).1, (rFd s w lim (c - 1) (0, PA.2.2.2.1, PA.2.2.2.2.1, PA.2.2.2.2.2.1)).2.1, (rFd s w lim (c - 1) (0, PA.2.2.2.1, PA.2.2.2.2.1, PA.2.2.2.2.2.1)).2.2.1, (rFd s w lim (c - 1) (0, PA.2.2.2.1, PA.2.2.2.2.1, PA.2.2.2.2.2.1)).2.2.2) j k (rGs s ((rFd s w lim (c - 1) (0, PA.2.2.2.1, PA.2.2.2.2.1, PA.2.2.2.2.2.1)).1, (rFd s w lim (c - 1) (0, PA.2.2.2.1, PA.2.2.2.2.1, PA.2.2.2.2.2.1)).2.1, (rFd s w lim (c - 1) (0, PA.2.2.2.1, PA.2.2.2.2.1, PA.2.2.2.2.2.1)).2.2.1, (rFd s w lim (c - 1) (0, PA.2.2.2.1, PA.2.2.2.2.1, PA.2.2.2.2.2.1)).2.2.2) j PC.1))) + ((rSt s ((rFd s w lim (c - 1) (0, PA.2.2.2.1, PA.2.2.2.2.1, PA.2.2.2.2.2.1)).1, (rFd s w lim (c - 1) (0, PA.2.2.2.1, PA.2.2.2.2.1, PA.2.2.2.2.2.1)).2.1, (rFd s w lim (c - 1) (0, PA.2.2.2.1, PA.2.2.2.2.1, PA.2.2.2.2.2.1)).2.2.1, (rFd s w lim (c - 1) (0, PA.2.2.2.1, PA.2.2.2.2.1, PA.2.2.2.2.2.1)).2.2.2) j k).toInt64))), (4, .int (nI k)), (3, .int (nI j)), (0, .ref 114)]) dX10_digest_318 rfl (by decide) rfl ?_
                                            refine z_iinc (v := nI (k + 1)) (lv' := [(4, .int (nI (k + 1))), (1, .long ((31 * (rGsK s ((rFd s w lim (c - 1) (0, PA.2.2.2.1, PA.2.2.2.2.1, PA.2.2.2.2.2.1)).1, (rFd s w lim (c - 1) (0, PA.2.2.2.1, PA.2.2.2.2.1, PA.2.2.2.2.2.1)).2.1, (rFd s w lim (c - 1) (0, PA.2.2.2.1, PA.2.2.2.2.1, PA.2.2.2.2.2.1)).2.2.1, (rFd s w lim (c - 1) (0, PA.2.2.2.1, PA.2.2.2.2.1, PA.2.2.2.2.2.1)).2.2.2) j k (rGs s ((rFd s w lim (c - 1) (0, PA.2.2.2.1, PA.2.2.2.2.1, PA.2.2.2.2.2.1)).1, (rFd s w lim (c - 1) (0, PA.2.2.2.1, PA.2.2.2.2.1, PA.2.2.2.2.2.1)).2.1, (rFd s w lim (c - 1) (0, PA.2.2.2.1, PA.2.2.2.2.1, PA.2.2.2.2.2.1)).2.2.1, (rFd s w lim (c - 1) (0, PA.2.2.2.1, PA.2.2.2.2.1, PA.2.2.2.2.2.1)).2.2.2) j PC.1))) + ((rSt s ((rFd s w lim (c - 1) (0, PA.2.2.2.1, PA.2.2.2.2.1, PA.2.2.2.2.2.1)).1, (rFd s w lim (c - 1) (0, PA.2.2.2.1, PA.2.2.2.2.1, PA.2.2.2.2.2.1)).2.1, (rFd s w lim (c - 1) (0, PA.2.2.2.1, PA.2.2.2.2.1, PA.2.2.2.2.2.1)).2.2.1, (rFd s w lim (c - 1) (0, PA.2.2.2.1, PA.2.2.2.2.1, PA.2.2.2.2.2.1)).2.2.2) j k).toInt64))), (3, .int (nI j)), (0, .ref 114)]) 1 dX10_digest_319 rfl (nI_1 _) (by decide) rfl ?_
                                            refine z_goto (tgt := 298) dX10_digest_322 (by decide) ?_
                                            refine z_sub [0, 2, 1, 3] (lv' := [(4, .int (nI (k + 1))), (3, .int (nI j)), (1, .long ((31 * (rGsK s ((rFd s w lim (c - 1) (0, PA.2.2.2.1, PA.2.2.2.2.1, PA.2.2.2.2.2.1)).1, (rFd s w lim (c - 1) (0, PA.2.2.2.1, PA.2.2.2.2.1, PA.2.2.2.2.2.1)).2.1, (rFd s w lim (c - 1) (0, PA.2.2.2.1, PA.2.2.2.2.1, PA.2.2.2.2.2.1)).2.2.1, (rFd s w lim (c - 1) (0, PA.2.2.2.1, PA.2.2.2.2.1, PA.2.2.2.2.2.1)).2.2.2) j k (rGs s ((rFd s w lim (c - 1) (0, PA.2.2.2.1, PA.2.2.2.2.1, PA.2.2.2.2.2.1)).1, (rFd s w lim (c - 1) (0, PA.2.2.2.1, PA.2.2.2.2.1, PA.2.2.2.2.2.1)).2.1, (rFd s w lim (c - 1) (0, PA.2.2.2.1, PA.2.2.2.2.1, PA.2.2.2.2.2.1)).2.2.1, (rFd s w lim (c - 1) (0, PA.2.2.2.1, PA.2.2.2.2.1, PA.2.2.2.2.2.1)).2.2.2) j PC.1))) + ((rSt s ((rFd s w lim (c - 1) (0, PA.2.2.2.1, PA.2.2.2.2.1, PA.2.2.2.2.2.1)).1, (rFd s w lim (c - 1) (0, PA.2.2.2.1, PA.2.2.2.2.1, PA.2.2.2.2.2.1)).2.1, (rFd s w lim (c - 1) (0, PA.2.2.2.1, PA.2.2.2.2.1, PA.2.2.2.2.2.1)).2.2.1, (rFd s w lim (c - 1) (0, PA.2.2.2.1, PA.2.2.2.2.1, PA.2.2.2.2.2.1)).2.2.2) j k).toInt64))), (0, .ref 114)]) rfl ?_
                                            refine z_eqs (lv2 := [(4, .int (nI ((k + 1)))), (3, .int (nI j)), (1, .long ((rGsK s ((rFd s w lim (c - 1) (0, PA.2.2.2.1, PA.2.2.2.2.1, PA.2.2.2.2.2.1)).1, (rFd s w lim (c - 1) (0, PA.2.2.2.1, PA.2.2.2.2.1, PA.2.2.2.2.2.1)).2.1, (rFd s w lim (c - 1) (0, PA.2.2.2.1, PA.2.2.2.2.1, PA.2.2.2.2.2.1)).2.2.1, (rFd s w lim (c - 1) (0, PA.2.2.2.1, PA.2.2.2.2.1, PA.2.2.2.2.2.1)).2.2.2) j (k + 1) (rGs s ((rFd s w lim (c - 1) (0, PA.2.2.2.1, PA.2.2.2.2.1, PA.2.2.2.2.2.1)).1, (rFd s w lim (c - 1) (0, PA.2.2.2.1, PA.2.2.2.2.1, PA.2.2.2.2.2.1)).2.1, (rFd s w lim (c - 1) (0, PA.2.2.2.1, PA.2.2.2.2.1, PA.2.2.2.2.2.1)).2.2.1, (rFd s w lim (c - 1) (0, PA.2.2.2.1, PA.2.2.2.2.1, PA.2.2.2.2.2.1)).2.2.2) j PC.1)))), (0, .ref 114)]) (h2 := (zHp S X (s, past, aside, pasts, txt, typed, thrown, PC.2, need, left, (rFd s w lim (c - 1) (0, PA.2.2.2.1, PA.2.2.2.2.1, PA.2.2.2.2.2.1)).1, (rFd s w lim (c - 1) (0, PA.2.2.2.1, PA.2.2.2.2.1, PA.2.2.2.2.2.1)).2.1, (rFd s w lim (c - 1) (0, PA.2.2.2.1, PA.2.2.2.2.1, PA.2.2.2.2.2.1)).2.2.1, (rFd s w lim (c - 1) (0, PA.2.2.2.1, PA.2.2.2.2.1, PA.2.2.2.2.2.1)).2.2.2, at9, wd9, got, ans, PA.2.2.2.2.2.2) out)) (by rfl) (by rfl) ?_
                                            exact ih298 (k + 1) (by omega) (by omega)
                                      refine z_sub [0, 1, 2, 3] (lv' := [(4, .int (nI 0)), (3, .int (nI j)), (1, .long ((rGs s ((rFd s w lim (c - 1) (0, PA.2.2.2.1, PA.2.2.2.2.1, PA.2.2.2.2.2.1)).1, (rFd s w lim (c - 1) (0, PA.2.2.2.1, PA.2.2.2.2.1, PA.2.2.2.2.2.1)).2.1, (rFd s w lim (c - 1) (0, PA.2.2.2.1, PA.2.2.2.2.1, PA.2.2.2.2.2.1)).2.2.1, (rFd s w lim (c - 1) (0, PA.2.2.2.1, PA.2.2.2.2.1, PA.2.2.2.2.2.1)).2.2.2) j PC.1))), (0, .ref 114)]) rfl ?_
                                      refine z_eqs (lv2 := [(4, .int (nI 0)), (3, .int (nI j)), (1, .long ((rGsK s ((rFd s w lim (c - 1) (0, PA.2.2.2.1, PA.2.2.2.2.1, PA.2.2.2.2.2.1)).1, (rFd s w lim (c - 1) (0, PA.2.2.2.1, PA.2.2.2.2.1, PA.2.2.2.2.2.1)).2.1, (rFd s w lim (c - 1) (0, PA.2.2.2.1, PA.2.2.2.2.1, PA.2.2.2.2.2.1)).2.2.1, (rFd s w lim (c - 1) (0, PA.2.2.2.1, PA.2.2.2.2.1, PA.2.2.2.2.2.1)).2.2.2) j 0 (rGs s ((rFd s w lim (c - 1) (0, PA.2.2.2.1, PA.2.2.2.2.1, PA.2.2.2.2.2.1)).1, (rFd s w lim (c - 1) (0, PA.2.2.2.1, PA.2.2.2.2.1, PA.2.2.2.2.2.1)).2.1, (rFd s w lim (c - 1) (0, PA.2.2.2.1, PA.2.2.2.2.1, PA.2.2.2.2.2.1)).2.2.1, (rFd s w lim (c - 1) (0, PA.2.2.2.1, PA.2.2.2.2.1, PA.2.2.2.2.2.1)).2.2.2) j PC.1)))), (0, .ref 114)]) (h2 := (zHp S X (s, past, aside, pasts, txt, typed, thrown, PC.2, need, left, (rFd s w lim (c - 1) (0, PA.2.2.2.1, PA.2.2.2.2.1, PA.2.2.2.2.2.1)).1, (rFd s w lim (c - 1) (0, PA.2.2.2.1, PA.2.2.2.2.1, PA.2.2.2.2.2.1)).2.1, (rFd s w lim (c - 1) (0, PA.2.2.2.1, PA.2.2.2.2.1, PA.2.2.2.2.2.1)).2.2.1, (rFd s w lim (c - 1) (0, PA.2.2.2.1, PA.2.2.2.2.1, PA.2.2.2.2.2.1)).2.2.2, at9, wd9, got, ans, PA.2.2.2.2.2.2) out)) (by rfl) (by rfl) ?_
                                      exact L298_7 (4 + 1) 0 (by omega) (by omega)
                                refine z_sub [0, 1, 2] (lv' := [(3, .int (nI 0)), (1, .long (PC.1)), (0, .ref 114)]) rfl ?_
                                refine z_eqs (lv2 := [(3, .int (nI 0)), (1, .long ((rGs s ((rFd s w lim (c - 1) (0, PA.2.2.2.1, PA.2.2.2.2.1, PA.2.2.2.2.2.1)).1, (rFd s w lim (c - 1) (0, PA.2.2.2.1, PA.2.2.2.2.1, PA.2.2.2.2.2.1)).2.1, (rFd s w lim (c - 1) (0, PA.2.2.2.1, PA.2.2.2.2.1, PA.2.2.2.2.2.1)).2.2.1, (rFd s w lim (c - 1) (0, PA.2.2.2.1, PA.2.2.2.2.1, PA.2.2.2.2.2.1)).2.2.2) 0 PC.1))), (0, .ref 114)]) (h2 := (zHp S X (s, past, aside, pasts, txt, typed, thrown, PC.2, need, left, (rFd s w lim (c - 1) (0, PA.2.2.2.1, PA.2.2.2.2.1, PA.2.2.2.2.2.1)).1, (rFd s w lim (c - 1) (0, PA.2.2.2.1, PA.2.2.2.2.1, PA.2.2.2.2.2.1)).2.1, (rFd s w lim (c - 1) (0, PA.2.2.2.1, PA.2.2.2.2.1, PA.2.2.2.2.2.1)).2.2.1, (rFd s w lim (c - 1) (0, PA.2.2.2.1, PA.2.2.2.2.1, PA.2.2.2.2.2.1)).2.2.2, at9, wd9, got, ans, PA.2.2.2.2.2.2) out)) (by rfl) (by rfl) ?_
                                exact L287_6 ((rFd s w lim (c - 1) (0, PA.2.2.2.1, PA.2.2.2.2.1, PA.2.2.2.2.2.1)).1 + 1) 0 (by omega) (by omega)
                              · skip
                                have f_222 := m_nle (by omega) (by omega) c_222
                                refine z_iconst (v := nI 0) dX10_digest_225 (by decide) ?_
                                refine z_istore (lv' := [(4, .int (nI 0)), (3, .int (nI j)), (1, .long ((rGc s c r w cnt j (HLo, PR.2)).1)), (0, .ref 114)]) dX10_digest_226 (by decide) rfl ?_
                                have L228_8 : ∀ (d k : Nat), k ≤ 6 → 6 + 1 ≤ k + d → zPW G mX10_digest 0 0 o9 h9 0 0 228 [(4, .int (nI k)), (3, .int (nI j)), (1, .long ((rGcK s c r w cnt j k (rGc s c r w cnt j (HLo, PR.2))).1)), (0, .ref 114)] [] (zHp S X (s, past, aside, pasts, txt, typed, thrown, (rGcK s c r w cnt j k (rGc s c r w cnt j (HLo, PR.2))).2, need, left, PA.2.2.1, PA.2.2.2.1, PA.2.2.2.2.1, PA.2.2.2.2.2.1, at9, wd9, got, ans, PA.2.2.2.2.2.2) out) := by
                                  intro d
                                  induction d with
                                  | zero => intro k hk hd; exact absurd hd (by omega)
                                  | succ d ih =>
                                    intro k hk_k hd_k
                                    have ih228 := ih
                                    clear ih
                                    refine z_iload 0 dX10_digest_228 rfl ?_
                                    refine z_bipush (v := nI 6) dX10_digest_230 (by decide) ?_
                                    refine z_icmp_ge (tgt := 256) dX10_digest_232 (by decide) (fun c_232 => ?_) (fun c_232 => ?_)
                                    · skip
                                      have f_232 := m_le (by omega) (by omega) c_232
                                      have e_k : k = 6 := by omega
                                      rw [e_k]
                                      refine z_ldc2 zw_1619 dX10_digest_256 ?_
                                      refine z_lload_n 2 dX10_digest_259 rfl rfl ?_
                                      refine z_lmul dX10_digest_260 ?_
                                      refine z_aload_n 3 dX10_digest_261 rfl rfl ?_
                                      refine z_iload_n 1 dX10_digest_262 rfl rfl ?_
                                      refine z_callV (N := mX10_mean) 1 [.int (nI j)] [.long (31 * ((rGcK s c r w cnt j 6 (rGc s c r w cnt j (HLo, PR.2))).1))] lX10_mean ⟨zw_1535, zw_1537, zw_97⟩ rfl zgo_114 rfl rfl (Nat.le_of_ble_eq_true rfl) (by decide) ⟨zlt, zlt⟩ ⟨Nat.zero_le _, Nat.zero_le _⟩ (fun _ => rfl) (m_mean hG hM9 hsh hY (nI j)) dX10_digest_263 ?_
                                      refine z_i2l dX10_digest_266 ?_
                                      refine z_ladd dX10_digest_267 ?_
                                      refine z_lstore_n (lv' := [(1, .long ((31 * ((rGcK s c r w cnt j 6 (rGc s c r w cnt j (HLo, PR.2))).1)) + (((rMe s c w (nI j)).toInt32).toInt64))), (4, .int (nI 6)), (3, .int (nI j)), (0, .ref 114)]) dX10_digest_268 rfl (by decide) rfl ?_
                                      refine z_iinc (v := nI (j + 1)) (lv' := [(3, .int (nI (j + 1))), (1, .long ((31 * ((rGcK s c r w cnt j 6 (rGc s c r w cnt j (HLo, PR.2))).1)) + (((rMe s c w (nI j)).toInt32).toInt64))), (4, .int (nI 6)), (0, .ref 114)]) 2 dX10_digest_269 rfl (nI_1 _) (by decide) rfl ?_
                                      refine z_goto (tgt := 219) dX10_digest_272 (by decide) ?_
                                      refine z_sub [0, 1, 3] (lv' := [(3, .int (nI (j + 1))), (1, .long ((31 * ((rGcK s c r w cnt j 6 (rGc s c r w cnt j (HLo, PR.2))).1)) + (((rMe s c w (nI j)).toInt32).toInt64))), (0, .ref 114)]) rfl ?_
                                      refine z_eqs (lv2 := [(3, .int (nI ((j + 1)))), (1, .long ((rGc s c r w cnt (j + 1) (HLo, PR.2)).1)), (0, .ref 114)]) (h2 := (zHp S X (s, past, aside, pasts, txt, typed, thrown, (rGc s c r w cnt (j + 1) (HLo, PR.2)).2, need, left, PA.2.2.1, PA.2.2.2.1, PA.2.2.2.2.1, PA.2.2.2.2.2.1, at9, wd9, got, ans, PA.2.2.2.2.2.2) out)) (by rfl) (by rfl) ?_
                                      exact ih219 (j + 1) (by omega) (by omega)
                                    · skip
                                      have f_232 := m_nle (by omega) (by omega) c_232
                                      refine z_ldc2 zw_1619 dX10_digest_235 ?_
                                      refine z_lload_n 2 dX10_digest_238 rfl rfl ?_
                                      refine z_lmul dX10_digest_239 ?_
                                      refine z_aload_n 3 dX10_digest_240 rfl rfl ?_
                                      refine z_iload_n 1 dX10_digest_241 rfl rfl ?_
                                      refine z_iload 0 dX10_digest_242 rfl ?_
                                      refine z_callV (N := mX10_colorOf) 2 [.int (nI j), .int (nI k)] [.long (31 * ((rGcK s c r w cnt j k (rGc s c r w cnt j (HLo, PR.2))).1))] lX10_colorOf ⟨zw_1476, zw_1478, zw_86⟩ rfl zgo_114 rfl rfl (Nat.le_of_ble_eq_true rfl) (by decide) ⟨zlt, zlt⟩ ⟨Nat.zero_le _, Nat.zero_le _⟩ zal (m_colorOf hG hM9 (nI j) k (by omega)) dX10_digest_244 ?_
                                      refine z_i2l dX10_digest_247 ?_
                                      refine z_ladd dX10_digest_248 ?_
                                      refine z_lstore_n (lv' := [(1, .long ((31 * ((rGcK s c r w cnt j k (rGc s c r w cnt j (HLo, PR.2))).1)) + ((rCo s c r w cnt (nI j) k).toInt64))), (4, .int (nI k)), (3, .int (nI j)), (0, .ref 114)]) dX10_digest_249 rfl (by decide) rfl ?_
                                      refine z_iinc (v := nI (k + 1)) (lv' := [(4, .int (nI (k + 1))), (1, .long ((31 * ((rGcK s c r w cnt j k (rGc s c r w cnt j (HLo, PR.2))).1)) + ((rCo s c r w cnt (nI j) k).toInt64))), (3, .int (nI j)), (0, .ref 114)]) 1 dX10_digest_250 rfl (nI_1 _) (by decide) rfl ?_
                                      refine z_goto (tgt := 228) dX10_digest_253 (by decide) ?_
                                      refine z_sub [0, 2, 1, 3] (lv' := [(4, .int (nI (k + 1))), (3, .int (nI j)), (1, .long ((31 * ((rGcK s c r w cnt j k (rGc s c r w cnt j (HLo, PR.2))).1)) + ((rCo s c r w cnt (nI j) k).toInt64))), (0, .ref 114)]) rfl ?_
                                      refine z_eqs (lv2 := [(4, .int (nI ((k + 1)))), (3, .int (nI j)), (1, .long ((rGcK s c r w cnt j (k + 1) (rGc s c r w cnt j (HLo, PR.2))).1)), (0, .ref 114)]) (h2 := (zHp S X (s, past, aside, pasts, txt, typed, thrown, (rGcK s c r w cnt j (k + 1) (rGc s c r w cnt j (HLo, PR.2))).2, need, left, PA.2.2.1, PA.2.2.2.1, PA.2.2.2.2.1, PA.2.2.2.2.2.1, at9, wd9, got, ans, PA.2.2.2.2.2.2) out)) (by rfl) (by rfl) ?_
                                      exact ih228 (k + 1) (by omega) (by omega)
                                refine z_sub [0, 1, 2, 3] (lv' := [(4, .int (nI 0)), (3, .int (nI j)), (1, .long ((rGc s c r w cnt j (HLo, PR.2)).1)), (0, .ref 114)]) rfl ?_
                                refine z_eqs (lv2 := [(4, .int (nI 0)), (3, .int (nI j)), (1, .long ((rGcK s c r w cnt j 0 (rGc s c r w cnt j (HLo, PR.2))).1)), (0, .ref 114)]) (h2 := (zHp S X (s, past, aside, pasts, txt, typed, thrown, (rGcK s c r w cnt j 0 (rGc s c r w cnt j (HLo, PR.2))).2, need, left, PA.2.2.1, PA.2.2.2.1, PA.2.2.2.2.1, PA.2.2.2.2.2.1, at9, wd9, got, ans, PA.2.2.2.2.2.2) out)) (by rfl) (by rfl) ?_
                                exact L228_8 (6 + 1) 0 (by omega) (by omega)
                          refine z_sub [0, 1, 2] (lv' := [(3, .int (nI 0)), (1, .long HLo), (0, .ref 114)]) rfl ?_
                          refine z_eqs (lv2 := [(3, .int (nI 0)), (1, .long ((rGc s c r w cnt 0 (HLo, PR.2)).1)), (0, .ref 114)]) (h2 := (zHp S X (s, past, aside, pasts, txt, typed, thrown, (rGc s c r w cnt 0 (HLo, PR.2)).2, need, left, PA.2.2.1, PA.2.2.2.1, PA.2.2.2.2.1, PA.2.2.2.2.2.1, at9, wd9, got, ans, PA.2.2.2.2.2.2) out)) (by rfl) (by rfl) ?_
                          exact L219_5 (8 + 1) 0 (by omega) (by omega)
                        · skip
                          have f_177 := m_nle (by omega) (by omega) c_177
                          refine z_iconst (v := nI 0) dX10_digest_180 (by decide) ?_
                          refine z_istore (lv' := [(4, .int (nI 0)), (3, .int (nI j)), (1, .long ((rGl s c w cnt j PR.1))), (0, .ref 114)]) dX10_digest_181 (by decide) rfl ?_
                          have L183_9 : ∀ (d k : Nat), k ≤ 6 → 6 + 1 ≤ k + d → zPW G mX10_digest 0 0 o9 h9 0 0 183 [(4, .int (nI k)), (3, .int (nI j)), (1, .long ((rGlK s c w cnt j k (rGl s c w cnt j PR.1)))), (0, .ref 114)] [] (zHp S X (s, past, aside, pasts, txt, typed, thrown, PR.2, need, left, PA.2.2.1, PA.2.2.2.1, PA.2.2.2.2.1, PA.2.2.2.2.2.1, at9, wd9, got, ans, PA.2.2.2.2.2.2) out) := by
                            intro d
                            induction d with
                            | zero => intro k hk hd; exact absurd hd (by omega)
                            | succ d ih =>
                              intro k hk_k hd_k
                              have ih183 := ih
                              clear ih
                              refine z_iload 0 dX10_digest_183 rfl ?_
                              refine z_bipush (v := nI 6) dX10_digest_185 (by decide) ?_
                              refine z_icmp_ge (tgt := 211) dX10_digest_187 (by decide) (fun c_187 => ?_) (fun c_187 => ?_)
                              · skip
                                have f_187 := m_le (by omega) (by omega) c_187
                                have e_k : k = 6 := by omega
                                rw [e_k]
                                refine z_iinc (v := nI (j + 1)) (lv' := [(3, .int (nI (j + 1))), (4, .int (nI 6)), (1, .long ((rGlK s c w cnt j 6 (rGl s c w cnt j PR.1)))), (0, .ref 114)]) 1 dX10_digest_211 rfl (nI_1 _) (by decide) rfl ?_
                                refine z_goto (tgt := 170) dX10_digest_214 (by decide) ?_
                                refine z_sub [0, 2, 3] (lv' := [(3, .int (nI (j + 1))), (1, .long ((rGlK s c w cnt j 6 (rGl s c w cnt j PR.1)))), (0, .ref 114)]) rfl ?_
                                refine z_eqs (lv2 := [(3, .int (nI ((j + 1)))), (1, .long ((rGl s c w cnt (j + 1) PR.1))), (0, .ref 114)]) (h2 := (zHp S X (s, past, aside, pasts, txt, typed, thrown, PR.2, need, left, PA.2.2.1, PA.2.2.2.1, PA.2.2.2.2.1, PA.2.2.2.2.2.1, at9, wd9, got, ans, PA.2.2.2.2.2.2) out)) (by rfl) (by rfl) ?_
                                exact ih170 (j + 1) (by omega) (by omega)
                              · skip
                                have f_187 := m_nle (by omega) (by omega) c_187
                                refine z_ldc2 zw_1619 dX10_digest_190 ?_
                                refine z_lload_n 2 dX10_digest_193 rfl rfl ?_
                                refine z_lmul dX10_digest_194 ?_
                                refine z_aload_n 3 dX10_digest_195 rfl rfl ?_
                                refine z_iload_n 1 dX10_digest_196 rfl rfl ?_
                                refine z_iload 0 dX10_digest_197 rfl ?_
                                refine z_callV (N := mX10_lotOf) 2 [.int (nI j), .int (nI k)] [.long (31 * (rGlK s c w cnt j k (rGl s c w cnt j PR.1)))] lX10_lotOf ⟨zw_1464, zw_1466, zw_84⟩ rfl zgo_114 rfl rfl (Nat.le_of_ble_eq_true rfl) (by decide) ⟨zlt, zlt⟩ ⟨Nat.zero_le _, Nat.zero_le _⟩ (fun _ => rfl) (m_lotOf hG hM9 j (by omega) k (by omega)) dX10_digest_199 ?_
                                refine z_i2l dX10_digest_202 ?_
                                refine z_ladd dX10_digest_203 ?_
                                refine z_lstore_n (lv' := [(1, .long ((31 * (rGlK s c w cnt j k (rGl s c w cnt j PR.1))) + ((rLo s c w cnt j k).toInt64))), (4, .int (nI k)), (3, .int (nI j)), (0, .ref 114)]) dX10_digest_204 rfl (by decide) rfl ?_
                                refine z_iinc (v := nI (k + 1)) (lv' := [(4, .int (nI (k + 1))), (1, .long ((31 * (rGlK s c w cnt j k (rGl s c w cnt j PR.1))) + ((rLo s c w cnt j k).toInt64))), (3, .int (nI j)), (0, .ref 114)]) 1 dX10_digest_205 rfl (nI_1 _) (by decide) rfl ?_
                                refine z_goto (tgt := 183) dX10_digest_208 (by decide) ?_
                                refine z_sub [0, 2, 1, 3] (lv' := [(4, .int (nI (k + 1))), (3, .int (nI j)), (1, .long ((31 * (rGlK s c w cnt j k (rGl s c w cnt j PR.1))) + ((rLo s c w cnt j k).toInt64))), (0, .ref 114)]) rfl ?_
                                refine z_eqs (lv2 := [(4, .int (nI ((k + 1)))), (3, .int (nI j)), (1, .long ((rGlK s c w cnt j (k + 1) (rGl s c w cnt j PR.1)))), (0, .ref 114)]) (h2 := (zHp S X (s, past, aside, pasts, txt, typed, thrown, PR.2, need, left, PA.2.2.1, PA.2.2.2.1, PA.2.2.2.2.1, PA.2.2.2.2.2.1, at9, wd9, got, ans, PA.2.2.2.2.2.2) out)) (by rfl) (by rfl) ?_
                                exact ih183 (k + 1) (by omega) (by omega)
                          refine z_sub [0, 1, 2, 3] (lv' := [(4, .int (nI 0)), (3, .int (nI j)), (1, .long ((rGl s c w cnt j PR.1))), (0, .ref 114)]) rfl ?_
                          refine z_eqs (lv2 := [(4, .int (nI 0)), (3, .int (nI j)), (1, .long ((rGlK s c w cnt j 0 (rGl s c w cnt j PR.1)))), (0, .ref 114)]) (h2 := (zHp S X (s, past, aside, pasts, txt, typed, thrown, PR.2, need, left, PA.2.2.1, PA.2.2.2.1, PA.2.2.2.2.1, PA.2.2.2.2.2.1, at9, wd9, got, ans, PA.2.2.2.2.2.2) out)) (by rfl) (by rfl) ?_
                          exact L183_9 (6 + 1) 0 (by omega) (by omega)
                    refine z_sub [0, 1, 2] (lv' := [(3, .int (nI 0)), (1, .long (PR.1)), (0, .ref 114)]) rfl ?_
                    refine z_eqs (lv2 := [(3, .int (nI 0)), (1, .long ((rGl s c w cnt 0 PR.1))), (0, .ref 114)]) (h2 := (zHp S X (s, past, aside, pasts, txt, typed, thrown, PR.2, need, left, PA.2.2.1, PA.2.2.2.1, PA.2.2.2.2.1, PA.2.2.2.2.2.1, at9, wd9, got, ans, PA.2.2.2.2.2.2) out)) (by rfl) (by rfl) ?_
                    exact L170_4 (cnt + 1) 0 (by omega) (by omega)
                  · skip
                    have f_116 := m_nle (by omega) (by omega) c_116
                    refine z_iconst (v := nI 0) dX10_digest_119 (by decide) ?_
                    refine z_istore (lv' := [(4, .int (nI 0)), (3, .int (nI j)), (1, .long ((rGr s c cnt j (HB, PA.2.1)).1)), (0, .ref 114)]) dX10_digest_120 (by decide) rfl ?_
                    have L122_10 : ∀ (d k : Nat), k ≤ 5 → 5 + 1 ≤ k + d → zPW G mX10_digest 0 0 o9 h9 0 0 122 [(4, .int (nI k)), (3, .int (nI j)), (1, .long ((rGrK s c cnt j k (rGr s c cnt j (HB, PA.2.1))).1)), (0, .ref 114)] [] (zHp S X (s, past, aside, pasts, txt, typed, thrown, (rGrK s c cnt j k (rGr s c cnt j (HB, PA.2.1))).2, need, left, PA.2.2.1, PA.2.2.2.1, PA.2.2.2.2.1, PA.2.2.2.2.2.1, at9, wd9, got, ans, PA.2.2.2.2.2.2) out) := by
                      intro d
                      induction d with
                      | zero => intro k hk hd; exact absurd hd (by omega)
                      | succ d ih =>
                        intro k hk_k hd_k
                        have ih122 := ih
                        clear ih
                        refine z_iload 0 dX10_digest_122 rfl ?_
                        refine z_iconst (v := nI 5) dX10_digest_124 (by decide) ?_
                        refine z_icmp_ge (tgt := 149) dX10_digest_125 (by decide) (fun c_125 => ?_) (fun c_125 => ?_)
                        · skip
                          have f_125 := m_le (by omega) (by omega) c_125
                          have e_k : k = 5 := by omega
                          rw [e_k]
                          refine z_ldc2 zw_1619 dX10_digest_149 ?_
                          refine z_lload_n 2 dX10_digest_152 rfl rfl ?_
                          refine z_lmul dX10_digest_153 ?_
                          refine z_aload_n 3 dX10_digest_154 rfl rfl ?_
                          refine z_iload_n 1 dX10_digest_155 rfl rfl ?_
                          refine z_callV (N := mX10_contrasts) 1 [.int (nI j)] [.long (31 * ((rGrK s c cnt j 5 (rGr s c cnt j (HB, PA.2.1))).1))] lX10_contrasts ⟨zw_1543, zw_1545, zw_98⟩ rfl zgo_114 rfl rfl (Nat.le_of_ble_eq_true rfl) (by decide) ⟨zlt, zlt⟩ ⟨Nat.zero_le _, Nat.zero_le _⟩ (fun _ => rfl) (m_contrasts hG hM9 hsh hY j (by omega)) dX10_digest_156 ?_
                          refine z_i2l dX10_digest_159 ?_
                          refine z_ladd dX10_digest_160 ?_
                          refine z_lstore_n (lv' := [(1, .long ((31 * ((rGrK s c cnt j 5 (rGr s c cnt j (HB, PA.2.1))).1)) + (((rCn s c j).toInt32).toInt64))), (4, .int (nI 5)), (3, .int (nI j)), (0, .ref 114)]) dX10_digest_161 rfl (by decide) rfl ?_
                          refine z_iinc (v := nI (j + 1)) (lv' := [(3, .int (nI (j + 1))), (1, .long ((31 * ((rGrK s c cnt j 5 (rGr s c cnt j (HB, PA.2.1))).1)) + (((rCn s c j).toInt32).toInt64))), (4, .int (nI 5)), (0, .ref 114)]) 2 dX10_digest_162 rfl (nI_1 _) (by decide) rfl ?_
                          refine z_goto (tgt := 109) dX10_digest_165 (by decide) ?_
                          refine z_sub [0, 1, 3] (lv' := [(3, .int (nI (j + 1))), (1, .long ((31 * ((rGrK s c cnt j 5 (rGr s c cnt j (HB, PA.2.1))).1)) + (((rCn s c j).toInt32).toInt64))), (0, .ref 114)]) rfl ?_
                          refine z_eqs (lv2 := [(3, .int (nI ((j + 1)))), (1, .long ((rGr s c cnt (j + 1) (HB, PA.2.1)).1)), (0, .ref 114)]) (h2 := (zHp S X (s, past, aside, pasts, txt, typed, thrown, (rGr s c cnt (j + 1) (HB, PA.2.1)).2, need, left, PA.2.2.1, PA.2.2.2.1, PA.2.2.2.2.1, PA.2.2.2.2.2.1, at9, wd9, got, ans, PA.2.2.2.2.2.2) out)) (by rfl) (by rfl) ?_
                          exact ih109 (j + 1) (by omega) (by omega)
                        · skip
                          have f_125 := m_nle (by omega) (by omega) c_125
                          refine z_ldc2 zw_1619 dX10_digest_128 ?_
                          refine z_lload_n 2 dX10_digest_131 rfl rfl ?_
                          refine z_lmul dX10_digest_132 ?_
                          refine z_aload_n 3 dX10_digest_133 rfl rfl ?_
                          refine z_iload_n 1 dX10_digest_134 rfl rfl ?_
                          refine z_iload 0 dX10_digest_135 rfl ?_
                          refine z_callV (N := mX10_rowOf) 2 [.int (nI j), .int (nI k)] [.long (31 * ((rGrK s c cnt j k (rGr s c cnt j (HB, PA.2.1))).1))] lX10_rowOf ⟨zw_1432, zw_1434, zw_77⟩ rfl zgo_114 rfl rfl (Nat.le_of_ble_eq_true rfl) (by decide) ⟨zlt, zlt⟩ ⟨Nat.zero_le _, Nat.zero_le _⟩ zal (m_rowOf hG hM9 j (by omega) k (by omega)) dX10_digest_137 ?_
                          refine z_i2l dX10_digest_140 ?_
                          refine z_ladd dX10_digest_141 ?_
                          refine z_lstore_n (lv' := [(1, .long ((31 * ((rGrK s c cnt j k (rGr s c cnt j (HB, PA.2.1))).1)) + ((rRo s c cnt j k).toInt64))), (4, .int (nI k)), (3, .int (nI j)), (0, .ref 114)]) dX10_digest_142 rfl (by decide) rfl ?_
                          refine z_iinc (v := nI (k + 1)) (lv' := [(4, .int (nI (k + 1))), (1, .long ((31 * ((rGrK s c cnt j k (rGr s c cnt j (HB, PA.2.1))).1)) + ((rRo s c cnt j k).toInt64))), (3, .int (nI j)), (0, .ref 114)]) 1 dX10_digest_143 rfl (nI_1 _) (by decide) rfl ?_
                          refine z_goto (tgt := 122) dX10_digest_146 (by decide) ?_
                          refine z_sub [0, 2, 1, 3] (lv' := [(4, .int (nI (k + 1))), (3, .int (nI j)), (1, .long ((31 * ((rGrK s c cnt j k (rGr s c cnt j (HB, PA.2.1))).1)) + ((rRo s c cnt j k).toInt64))), (0, .ref 114)]) rfl ?_
                          refine z_eqs (lv2 := [(4, .int (nI ((k + 1)))), (3, .int (nI j)), (1, .long ((rGrK s c cnt j (k + 1) (rGr s c cnt j (HB, PA.2.1))).1)), (0, .ref 114)]) (h2 := (zHp S X (s, past, aside, pasts, txt, typed, thrown, (rGrK s c cnt j (k + 1) (rGr s c cnt j (HB, PA.2.1))).2, need, left, PA.2.2.1, PA.2.2.2.1, PA.2.2.2.2.1, PA.2.2.2.2.2.1, at9, wd9, got, ans, PA.2.2.2.2.2.2) out)) (by rfl) (by rfl) ?_
                          exact ih122 (k + 1) (by omega) (by omega)
                    refine z_sub [0, 1, 2, 3] (lv' := [(4, .int (nI 0)), (3, .int (nI j)), (1, .long ((rGr s c cnt j (HB, PA.2.1)).1)), (0, .ref 114)]) rfl ?_
                    refine z_eqs (lv2 := [(4, .int (nI 0)), (3, .int (nI j)), (1, .long ((rGrK s c cnt j 0 (rGr s c cnt j (HB, PA.2.1))).1)), (0, .ref 114)]) (h2 := (zHp S X (s, past, aside, pasts, txt, typed, thrown, (rGrK s c cnt j 0 (rGr s c cnt j (HB, PA.2.1))).2, need, left, PA.2.2.1, PA.2.2.2.1, PA.2.2.2.2.1, PA.2.2.2.2.2.1, at9, wd9, got, ans, PA.2.2.2.2.2.2) out)) (by rfl) (by rfl) ?_
                    exact L122_10 (5 + 1) 0 (by omega) (by omega)
              refine z_sub [0, 1, 2] (lv' := [(3, .int (nI 0)), (1, .long HB), (0, .ref 114)]) rfl ?_
              refine z_eqs (lv2 := [(3, .int (nI 0)), (1, .long ((rGr s c cnt 0 (HB, PA.2.1)).1)), (0, .ref 114)]) (h2 := (zHp S X (s, past, aside, pasts, txt, typed, thrown, (rGr s c cnt 0 (HB, PA.2.1)).2, need, left, PA.2.2.1, PA.2.2.2.1, PA.2.2.2.2.1, PA.2.2.2.2.2.1, at9, wd9, got, ans, PA.2.2.2.2.2.2) out)) (by rfl) (by rfl) ?_
              exact L109_3 (w + 1) 0 (by omega) (by omega)
            · skip
              have f_46 := m_nle (by omega) (by omega) c_46
              refine z_iconst (v := nI 0) dX10_digest_49 (by decide) ?_
              refine z_istore (lv' := [(4, .int (nI 0)), (3, .int (nI j)), (1, .long ((rGd s c w j PA.1))), (0, .ref 114)]) dX10_digest_50 (by decide) rfl ?_
              have L52_11 : ∀ (d i : Nat), i ≤ c → c + 1 ≤ i + d → zPW G mX10_digest 0 0 o9 h9 0 0 52 [(4, .int (nI i)), (3, .int (nI j)), (1, .long ((rGdX s c w j i (rGd s c w j PA.1)))), (0, .ref 114)] [] (zHp S X (s, past, aside, pasts, txt, typed, thrown, PA.2.1, need, left, PA.2.2.1, PA.2.2.2.1, PA.2.2.2.2.1, PA.2.2.2.2.2.1, at9, wd9, got, ans, PA.2.2.2.2.2.2) out) := by
                intro d
                induction d with
                | zero => intro i hk hd; exact absurd hd (by omega)
                | succ d ih =>
                  intro i hk_i hd_i
                  have ih52 := ih
                  clear ih
                  refine z_iload 0 dX10_digest_52 rfl ?_
                  refine z_aload_n 3 dX10_digest_54 rfl rfl ?_
                  refine z_get (v := .ref 115) 0 zgo_114 rfl inX10 (by decide) zw_1178 rfl rfl dX10_digest_55 ?_
                  refine z_iconst (v := nI 0) dX10_digest_58 (by decide) ?_
                  refine z_ialdN (f := s) (n := 1371) (j := 0) zga_115 (by omega) (by decide) dX10_digest_59 ?_
                  refine z_top (v2 := .int (nI c)) (by rw [h0]) ?_
                  refine z_icmp_ge (tgt := 101) dX10_digest_60 (by decide) (fun c_60 => ?_) (fun c_60 => ?_)
                  · skip
                    have f_60 := m_le (by omega) (by omega) c_60
                    have e_i : i = c := by omega
                    rw [e_i]
                    refine z_iinc (v := nI (j + 1)) (lv' := [(3, .int (nI (j + 1))), (4, .int (nI c)), (1, .long ((rGdX s c w j c (rGd s c w j PA.1)))), (0, .ref 114)]) 1 dX10_digest_101 rfl (nI_1 _) (by decide) rfl ?_
                    refine z_goto (tgt := 39) dX10_digest_104 (by decide) ?_
                    refine z_sub [0, 2, 3] (lv' := [(3, .int (nI (j + 1))), (1, .long ((rGdX s c w j c (rGd s c w j PA.1)))), (0, .ref 114)]) rfl ?_
                    refine z_eqs (lv2 := [(3, .int (nI ((j + 1)))), (1, .long ((rGd s c w (j + 1) PA.1))), (0, .ref 114)]) (h2 := (zHp S X (s, past, aside, pasts, txt, typed, thrown, PA.2.1, need, left, PA.2.2.1, PA.2.2.2.1, PA.2.2.2.2.1, PA.2.2.2.2.2.1, at9, wd9, got, ans, PA.2.2.2.2.2.2) out)) (by rfl) (by rfl) ?_
                    exact ih39 (j + 1) (by omega) (by omega)
                  · skip
                    have f_60 := m_nle (by omega) (by omega) c_60
                    refine z_iconst (v := nI 0) dX10_digest_63 (by decide) ?_
                    refine z_istore (lv' := [(5, .int (nI 0)), (4, .int (nI i)), (3, .int (nI j)), (1, .long ((rGdX s c w j i (rGd s c w j PA.1)))), (0, .ref 114)]) dX10_digest_64 (by decide) rfl ?_
                    have L66_12 : ∀ (d k : Nat), k ≤ 3 → 3 + 1 ≤ k + d → zPW G mX10_digest 0 0 o9 h9 0 0 66 [(5, .int (nI k)), (4, .int (nI i)), (3, .int (nI j)), (1, .long ((rGdK s c w j i k (rGdX s c w j i (rGd s c w j PA.1))))), (0, .ref 114)] [] (zHp S X (s, past, aside, pasts, txt, typed, thrown, PA.2.1, need, left, PA.2.2.1, PA.2.2.2.1, PA.2.2.2.2.1, PA.2.2.2.2.2.1, at9, wd9, got, ans, PA.2.2.2.2.2.2) out) := by
                      intro d
                      induction d with
                      | zero => intro k hk hd; exact absurd hd (by omega)
                      | succ d ih =>
                        intro k hk_k hd_k
                        have ih66 := ih
                        clear ih
                        refine z_iload 0 dX10_digest_66 rfl ?_
                        refine z_iconst (v := nI 3) dX10_digest_68 (by decide) ?_
                        refine z_icmp_ge (tgt := 95) dX10_digest_69 (by decide) (fun c_69 => ?_) (fun c_69 => ?_)
                        · skip
                          have f_69 := m_le (by omega) (by omega) c_69
                          have e_k : k = 3 := by omega
                          rw [e_k]
                          refine z_iinc (v := nI (i + 1)) (lv' := [(4, .int (nI (i + 1))), (5, .int (nI 3)), (3, .int (nI j)), (1, .long ((rGdK s c w j i 3 (rGdX s c w j i (rGd s c w j PA.1))))), (0, .ref 114)]) 1 dX10_digest_95 rfl (nI_1 _) (by decide) rfl ?_
                          refine z_goto (tgt := 52) dX10_digest_98 (by decide) ?_
                          refine z_sub [0, 2, 3, 4] (lv' := [(4, .int (nI (i + 1))), (3, .int (nI j)), (1, .long ((rGdK s c w j i 3 (rGdX s c w j i (rGd s c w j PA.1))))), (0, .ref 114)]) rfl ?_
                          refine z_eqs (lv2 := [(4, .int (nI ((i + 1)))), (3, .int (nI j)), (1, .long ((rGdX s c w j (i + 1) (rGd s c w j PA.1)))), (0, .ref 114)]) (h2 := (zHp S X (s, past, aside, pasts, txt, typed, thrown, PA.2.1, need, left, PA.2.2.1, PA.2.2.2.1, PA.2.2.2.2.1, PA.2.2.2.2.2.1, at9, wd9, got, ans, PA.2.2.2.2.2.2) out)) (by rfl) (by rfl) ?_
                          exact ih52 (i + 1) (by omega) (by omega)
                        · skip
                          have f_69 := m_nle (by omega) (by omega) c_69
                          refine z_ldc2 zw_1619 dX10_digest_72 ?_
                          refine z_lload_n 3 dX10_digest_75 rfl rfl ?_
                          refine z_lmul dX10_digest_76 ?_
                          refine z_aload_n 4 dX10_digest_77 rfl rfl ?_
                          refine z_iload 1 dX10_digest_78 rfl ?_
                          refine z_iload_n 2 dX10_digest_80 rfl rfl ?_
                          refine z_iload 0 dX10_digest_81 rfl ?_
                          refine z_callV (N := mX10_cellOf) 3 [.int (nI i), .int (nI j), .int (nI k)] [.long (31 * (rGdK s c w j i k (rGdX s c w j i (rGd s c w j PA.1))))] lX10_cellOf ⟨zw_1424, zw_1426, zw_76⟩ rfl zgo_114 rfl rfl (Nat.le_of_ble_eq_true rfl) (by decide) ⟨zlt, zlt⟩ ⟨Nat.zero_le _, Nat.zero_le _⟩ (fun _ => rfl) (m_cellOf hG hM9 i j k (by omega) (by omega) (by omega)) dX10_digest_83 ?_
                          refine z_i2l dX10_digest_86 ?_
                          refine z_ladd dX10_digest_87 ?_
                          refine z_lstore_n (lv' := [(1, .long ((31 * (rGdK s c w j i k (rGdX s c w j i (rGd s c w j PA.1)))) + ((rCe s c w i j k).toInt64))), (5, .int (nI k)), (4, .int (nI i)), (3, .int (nI j)), (0, .ref 114)]) dX10_digest_88 rfl (by decide) rfl ?_
                          refine z_iinc (v := nI (k + 1)) (lv' := [(5, .int (nI (k + 1))), (1, .long ((31 * (rGdK s c w j i k (rGdX s c w j i (rGd s c w j PA.1)))) + ((rCe s c w i j k).toInt64))), (4, .int (nI i)), (3, .int (nI j)), (0, .ref 114)]) 1 dX10_digest_89 rfl (nI_1 _) (by decide) rfl ?_
                          refine z_goto (tgt := 66) dX10_digest_92 (by decide) ?_
                          refine z_sub [0, 2, 3, 1, 4] (lv' := [(5, .int (nI (k + 1))), (4, .int (nI i)), (3, .int (nI j)), (1, .long ((31 * (rGdK s c w j i k (rGdX s c w j i (rGd s c w j PA.1)))) + ((rCe s c w i j k).toInt64))), (0, .ref 114)]) rfl ?_
                          refine z_eqs (lv2 := [(5, .int (nI ((k + 1)))), (4, .int (nI i)), (3, .int (nI j)), (1, .long ((rGdK s c w j i (k + 1) (rGdX s c w j i (rGd s c w j PA.1))))), (0, .ref 114)]) (h2 := (zHp S X (s, past, aside, pasts, txt, typed, thrown, PA.2.1, need, left, PA.2.2.1, PA.2.2.2.1, PA.2.2.2.2.1, PA.2.2.2.2.2.1, at9, wd9, got, ans, PA.2.2.2.2.2.2) out)) (by rfl) (by rfl) ?_
                          exact ih66 (k + 1) (by omega) (by omega)
                    refine z_sub [0, 1, 2, 3, 4] (lv' := [(5, .int (nI 0)), (4, .int (nI i)), (3, .int (nI j)), (1, .long ((rGdX s c w j i (rGd s c w j PA.1)))), (0, .ref 114)]) rfl ?_
                    refine z_eqs (lv2 := [(5, .int (nI 0)), (4, .int (nI i)), (3, .int (nI j)), (1, .long ((rGdK s c w j i 0 (rGdX s c w j i (rGd s c w j PA.1))))), (0, .ref 114)]) (h2 := (zHp S X (s, past, aside, pasts, txt, typed, thrown, PA.2.1, need, left, PA.2.2.1, PA.2.2.2.1, PA.2.2.2.2.1, PA.2.2.2.2.2.1, at9, wd9, got, ans, PA.2.2.2.2.2.2) out)) (by rfl) (by rfl) ?_
                    exact L66_12 (3 + 1) 0 (by omega) (by omega)
              refine z_sub [0, 1, 2, 3] (lv' := [(4, .int (nI 0)), (3, .int (nI j)), (1, .long ((rGd s c w j PA.1))), (0, .ref 114)]) rfl ?_
              refine z_eqs (lv2 := [(4, .int (nI 0)), (3, .int (nI j)), (1, .long ((rGdX s c w j 0 (rGd s c w j PA.1)))), (0, .ref 114)]) (h2 := (zHp S X (s, past, aside, pasts, txt, typed, thrown, PA.2.1, need, left, PA.2.2.1, PA.2.2.2.1, PA.2.2.2.2.1, PA.2.2.2.2.2.1, at9, wd9, got, ans, PA.2.2.2.2.2.2) out)) (by rfl) (by rfl) ?_
              exact L52_11 (c + 1) 0 (by omega) (by omega)
        refine z_sub [0, 1, 2] (lv' := [(3, .int (nI 0)), (1, .long (PA.1)), (0, .ref 114)]) rfl ?_
        refine z_eqs (lv2 := [(3, .int (nI 0)), (1, .long ((rGd s c w 0 PA.1))), (0, .ref 114)]) (h2 := (zHp S X (s, past, aside, pasts, txt, typed, thrown, PA.2.1, need, left, PA.2.2.1, PA.2.2.2.1, PA.2.2.2.2.1, PA.2.2.2.2.2.1, at9, wd9, got, ans, PA.2.2.2.2.2.2) out)) (by rfl) (by rfl) ?_
        exact L39_2 (r + 1) 0 (by omega) (by omega)
      · skip
        have f_15 := m_nle (by omega) (by omega) c_15
        refine z_ldc2 zw_1619 dX10_digest_18 ?_
        refine z_lload_n 1 dX10_digest_21 rfl rfl ?_
        refine z_lmul dX10_digest_22 ?_
        refine z_aload_n 2 dX10_digest_23 rfl rfl ?_
        refine z_iload_n 0 dX10_digest_24 rfl rfl ?_
        refine z_callV (N := mX10_wholeOf) 1 [.int (nI i)] [.long (31 * ((rGa s c r w cnt lim typed i (31 * 43346 + (nI pasts).toInt64, line, slits, slB, slF, slT, worst)).1))] lX10_wholeOf ⟨zw_1500, zw_1502, zw_90⟩ rfl zgo_114 rfl rfl (Nat.le_of_ble_eq_true rfl) (by decide) ⟨zlt, zlt⟩ ⟨Nat.zero_le _, Nat.zero_le _⟩ zal (m_wholeOf hG hM9 hsh hY htl i (by omega)) dX10_digest_25 ?_
        refine z_i2l dX10_digest_28 ?_
        refine z_ladd dX10_digest_29 ?_
        refine z_lstore_n (lv' := [(1, .long ((31 * ((rGa s c r w cnt lim typed i (31 * 43346 + (nI pasts).toInt64, line, slits, slB, slF, slT, worst)).1)) + ((rWhV s c r w cnt lim typed ((rGa s c r w cnt lim typed i (31 * 43346 + (nI pasts).toInt64, line, slits, slB, slF, slT, worst)).2.1, (rGa s c r w cnt lim typed i (31 * 43346 + (nI pasts).toInt64, line, slits, slB, slF, slT, worst)).2.2.1, (rGa s c r w cnt lim typed i (31 * 43346 + (nI pasts).toInt64, line, slits, slB, slF, slT, worst)).2.2.2.1, (rGa s c r w cnt lim typed i (31 * 43346 + (nI pasts).toInt64, line, slits, slB, slF, slT, worst)).2.2.2.2.1, (rGa s c r w cnt lim typed i (31 * 43346 + (nI pasts).toInt64, line, slits, slB, slF, slT, worst)).2.2.2.2.2.1, (rGa s c r w cnt lim typed i (31 * 43346 + (nI pasts).toInt64, line, slits, slB, slF, slT, worst)).2.2.2.2.2.2) i).toInt64))), (3, .int (nI i)), (0, .ref 114)]) dX10_digest_30 rfl (by decide) rfl ?_
        refine z_iinc (v := nI (i + 1)) (lv' := [(3, .int (nI (i + 1))), (1, .long ((31 * ((rGa s c r w cnt lim typed i (31 * 43346 + (nI pasts).toInt64, line, slits, slB, slF, slT, worst)).1)) + ((rWhV s c r w cnt lim typed ((rGa s c r w cnt lim typed i (31 * 43346 + (nI pasts).toInt64, line, slits, slB, slF, slT, worst)).2.1, (rGa s c r w cnt lim typed i (31 * 43346 + (nI pasts).toInt64, line, slits, slB, slF, slT, worst)).2.2.1, (rGa s c r w cnt lim typed i (31 * 43346 + (nI pasts).toInt64, line, slits, slB, slF, slT, worst)).2.2.2.1, (rGa s c r w cnt lim typed i (31 * 43346 + (nI pasts).toInt64, line, slits, slB, slF, slT, worst)).2.2.2.2.1, (rGa s c r w cnt lim typed i (31 * 43346 + (nI pasts).toInt64, line, slits, slB, slF, slT, worst)).2.2.2.2.2.1, (rGa s c r w cnt lim typed i (31 * 43346 + (nI pasts).toInt64, line, slits, slB, slF, slT, worst)).2.2.2.2.2.2) i).toInt64))), (0, .ref 114)]) 1 dX10_digest_31 rfl (nI_1 _) (by decide) rfl ?_
        refine z_goto (tgt := 12) dX10_digest_34 (by decide) ?_
        refine z_sub [0, 1, 2] (lv' := [(3, .int (nI (i + 1))), (1, .long ((31 * ((rGa s c r w cnt lim typed i (31 * 43346 + (nI pasts).toInt64, line, slits, slB, slF, slT, worst)).1)) + ((rWhV s c r w cnt lim typed ((rGa s c r w cnt lim typed i (31 * 43346 + (nI pasts).toInt64, line, slits, slB, slF, slT, worst)).2.1, (rGa s c r w cnt lim typed i (31 * 43346 + (nI pasts).toInt64, line, slits, slB, slF, slT, worst)).2.2.1, (rGa s c r w cnt lim typed i (31 * 43346 + (nI pasts).toInt64, line, slits, slB, slF, slT, worst)).2.2.2.1, (rGa s c r w cnt lim typed i (31 * 43346 + (nI pasts).toInt64, line, slits, slB, slF, slT, worst)).2.2.2.2.1, (rGa s c r w cnt lim typed i (31 * 43346 + (nI pasts).toInt64, line, slits, slB, slF, slT, worst)).2.2.2.2.2.1, (rGa s c r w cnt lim typed i (31 * 43346 + (nI pasts).toInt64, line, slits, slB, slF, slT, worst)).2.2.2.2.2.2) i).toInt64))), (0, .ref 114)]) rfl ?_
        refine z_eqs (lv2 := [(3, .int (nI ((i + 1)))), (1, .long ((rGa s c r w cnt lim typed (i + 1) (31 * 43346 + (nI pasts).toInt64, line, slits, slB, slF, slT, worst)).1)), (0, .ref 114)]) (h2 := (zHp S X (s, past, aside, pasts, txt, typed, thrown, (rGa s c r w cnt lim typed (i + 1) (31 * 43346 + (nI pasts).toInt64, line, slits, slB, slF, slT, worst)).2.1, need, left, (rGa s c r w cnt lim typed (i + 1) (31 * 43346 + (nI pasts).toInt64, line, slits, slB, slF, slT, worst)).2.2.1, (rGa s c r w cnt lim typed (i + 1) (31 * 43346 + (nI pasts).toInt64, line, slits, slB, slF, slT, worst)).2.2.2.1, (rGa s c r w cnt lim typed (i + 1) (31 * 43346 + (nI pasts).toInt64, line, slits, slB, slF, slT, worst)).2.2.2.2.1, (rGa s c r w cnt lim typed (i + 1) (31 * 43346 + (nI pasts).toInt64, line, slits, slB, slF, slT, worst)).2.2.2.2.2.1, at9, wd9, got, ans, (rGa s c r w cnt lim typed (i + 1) (31 * 43346 + (nI pasts).toInt64, line, slits, slB, slF, slT, worst)).2.2.2.2.2.2) out)) (by rfl) (by rfl) ?_
        exact ih12 (i + 1) (by omega) (by omega)
  refine z_sub [0, 1, 2] (lv' := [(3, .int (nI 0)), (1, .long (1343726 + ((nI pasts).toInt64))), (0, .ref 114)]) rfl ?_
  refine z_eqs (lv2 := [(3, .int (nI 0)), (1, .long ((rGa s c r w cnt lim typed 0 (31 * 43346 + (nI pasts).toInt64, line, slits, slB, slF, slT, worst)).1)), (0, .ref 114)]) (h2 := (zHp S X (s, past, aside, pasts, txt, typed, thrown, (rGa s c r w cnt lim typed 0 (31 * 43346 + (nI pasts).toInt64, line, slits, slB, slF, slT, worst)).2.1, need, left, (rGa s c r w cnt lim typed 0 (31 * 43346 + (nI pasts).toInt64, line, slits, slB, slF, slT, worst)).2.2.1, (rGa s c r w cnt lim typed 0 (31 * 43346 + (nI pasts).toInt64, line, slits, slB, slF, slT, worst)).2.2.2.1, (rGa s c r w cnt lim typed 0 (31 * 43346 + (nI pasts).toInt64, line, slits, slB, slF, slT, worst)).2.2.2.2.1, (rGa s c r w cnt lim typed 0 (31 * 43346 + (nI pasts).toInt64, line, slits, slB, slF, slT, worst)).2.2.2.2.2.1, at9, wd9, got, ans, (rGa s c r w cnt lim typed 0 (31 * 43346 + (nI pasts).toInt64, line, slits, slB, slF, slT, worst)).2.2.2.2.2.2) out)) (by rfl) (by rfl) ?_
  exact L12_1 (15 + 1) 0 (by omega) (by omega)

