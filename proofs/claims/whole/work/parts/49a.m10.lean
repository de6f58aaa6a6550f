theorem rFt_ok {txt : Nat → Int32} {typed : Nat} : ∀ d p v g, rGo g → rGo (rFt txt typed d p v g).2.2.2
  | 0, _, _, _, h => h
  | d + 1, p, v, g, h => by
    unfold rFt
    split
    · split
      · exact rFt_ok d _ _ _ (rRd_ok h)
      · exact rRd_ok h
    · exact h
def rDd (wd : Int32) (g : Nat → Int32) (q : zD7) : Int32 × zD7 := rDo (sd q.1 0) (sd q.1 1) (sd q.1 2) (sd q.1 3) (sd q.1 4) wd g q
/-- a run of commands: how many, the state, the place, the word, the numbers -/
abbrev zR9 : Type := Nat × zD7 × Nat × Int32 × (Nat → Int32)
def rRc (txt : Nat → Int32) (typed : Nat) : Nat → zR9 → zR9
  | 0, z => z
  | d + 1, z => if z.2.2.1 < typed then
      (if (rRd txt typed z.2.2.1 z.2.2.2.2).1 = -1 then
        (if (rDd (rRd txt typed z.2.2.1 z.2.2.2.2).2.2.1 (rRd txt typed z.2.2.1 z.2.2.2.2).2.2.2 z.2.1).1 = 0 then rRc txt typed d (z.1 + 1, (rDd (rRd txt typed z.2.2.1 z.2.2.2.2).2.2.1 (rRd txt typed z.2.2.1 z.2.2.2.2).2.2.2 z.2.1).2, zPs txt typed (rRd txt typed z.2.2.1 z.2.2.2.2).2.1, (rRd txt typed z.2.2.1 z.2.2.2.2).2.2)
         else (z.1, (rDd (rRd txt typed z.2.2.1 z.2.2.2.2).2.2.1 (rRd txt typed z.2.2.1 z.2.2.2.2).2.2.2 z.2.1).2, zPs txt typed (rRd txt typed z.2.2.1 z.2.2.2.2).2.1, (rRd txt typed z.2.2.1 z.2.2.2.2).2.2))
       else (z.1, z.2.1, zPs txt typed (rRd txt typed z.2.2.1 z.2.2.2.2).2.1, (rRd txt typed z.2.2.1 z.2.2.2.2).2.2))
    else z
theorem rRc_e {txt : Nat → Int32} {typed d : Nat} {z : zR9} (h : typed ≤ z.2.2.1) : rRc txt typed d z = z := by
  cases d with
  | zero => rfl
  | succ d => exact if_neg (by omega)
theorem rRc_f {txt : Nat → Int32} {typed d : Nat} {z : zR9} (h : z.2.2.1 < typed) (h1 : ¬ (rRd txt typed z.2.2.1 z.2.2.2.2).1 = -1) : rRc txt typed (d + 1) z = (z.1, z.2.1, zPs txt typed (rRd txt typed z.2.2.1 z.2.2.2.2).2.1, (rRd txt typed z.2.2.1 z.2.2.2.2).2.2) := by
  show (if _ then _ else _) = _
  rw [if_pos h, if_neg h1]
theorem rRc_n {txt : Nat → Int32} {typed d : Nat} {z : zR9} (h : z.2.2.1 < typed) (h1 : (rRd txt typed z.2.2.1 z.2.2.2.2).1 = -1) (h2 : ¬ (rDd (rRd txt typed z.2.2.1 z.2.2.2.2).2.2.1 (rRd txt typed z.2.2.1 z.2.2.2.2).2.2.2 z.2.1).1 = 0) : rRc txt typed (d + 1) z = (z.1, (rDd (rRd txt typed z.2.2.1 z.2.2.2.2).2.2.1 (rRd txt typed z.2.2.1 z.2.2.2.2).2.2.2 z.2.1).2, zPs txt typed (rRd txt typed z.2.2.1 z.2.2.2.2).2.1, (rRd txt typed z.2.2.1 z.2.2.2.2).2.2) := by
  show (if _ then _ else _) = _
  rw [if_pos h, if_pos h1, if_neg h2]
theorem rRc_t {txt : Nat → Int32} {typed d : Nat} {z : zR9} (h : z.2.2.1 < typed) (h1 : (rRd txt typed z.2.2.1 z.2.2.2.2).1 = -1) (h2 : (rDd (rRd txt typed z.2.2.1 z.2.2.2.2).2.2.1 (rRd txt typed z.2.2.1 z.2.2.2.2).2.2.2 z.2.1).1 = 0) : rRc txt typed (d + 1) z = rRc txt typed d (z.1 + 1, (rDd (rRd txt typed z.2.2.1 z.2.2.2.2).2.2.1 (rRd txt typed z.2.2.1 z.2.2.2.2).2.2.2 z.2.1).2, zPs txt typed (rRd txt typed z.2.2.1 z.2.2.2.2).2.1, (rRd txt typed z.2.2.1 z.2.2.2.2).2.2) := by
  show (if _ then _ else _) = _
  rw [if_pos h, if_pos h1, if_pos h2]
theorem rOk_dd {wd : Int32} {g : Nat → Int32} {q : zD7} (h : rOk q.1) (hg : rGo g) : rOk (rDd wd g q).2.1 := by
  obtain ⟨c, r, w, cnt, lim, hM, hY⟩ := h
  obtain ⟨rfl, rfl, rfl, rfl, rfl⟩ := zMd_sd hM
  exact rOk_do hM hY hg

theorem rRd_le {txt : Nat → Int32} {typed p : Nat} {g : Nat → Int32} (hp : p ≤ typed) : (rRd txt typed p g).2.1 ≤ typed := by
  have hw := rWl_le (txt := txt) (typed := typed) (fr := p) (typed - p) p (nI 0) (by omega)
  unfold rRd
  split
  · exact hw.2
  · rename_i n _
    have hr := rNr_le (txt := txt) (typed := typed) n 0 (rWl txt typed p (typed - p) p (nI 0)).1 g hw.2
    have hz := zPs_le (txt := txt) hr.2
    unfold rRdN
    split
    · split
      · rename_i h2
        exact (rTbl (by decide) h2).1
      · exact hz.2
    · exact hr.2

set_option maxHeartbeats 4000000 in
set_option maxRecDepth 100000 in
theorem m_run_f {G : zT} {S : zS} {X : zXr} {out : Nat → Int64} {s : (Nat → Int32)} {past : (Nat → Int32)} {aside : (Nat → Int32)} {pasts : Nat} {txt : (Nat → Int32)} {typed : Nat} {thrown : Int32} {line : (Nat → Int32)} {need : (Nat → Int32)} {left : (Nat → Int32)} {slits : Nat} {slB : (Nat → Int32)} {slF : (Nat → Int32)} {slT : (Nat → Int32)} {at9 : Nat} {wd9 : Int32} {got : (Nat → Int32)} {ans : Int32} {worst : UInt32} (hG : zAl G = false) (h150 : typed ≤ 150) (hf : ¬ (rFt txt typed (typed + 1) (zPs txt typed 0) wd9 got).1 = -1) : zRun G mX10_runCommands 0 0 [.ref 114] (zHp S X (s, past, aside, pasts, txt, typed, thrown, line, need, left, slits, slB, slF, slT, at9, wd9, got, ans, worst) out) (.inr (some (.int ((-10) - (rFt txt typed (typed + 1) (zPs txt typed 0) wd9 got).1)))) (zHp S X (s, past, aside, pasts, txt, typed, (nI 0), line, need, left, slits, slB, slF, slT, (rFt txt typed (typed + 1) (zPs txt typed 0) wd9 got).2.1, (rFt txt typed (typed + 1) (zPs txt typed 0) wd9 got).2.2.1, (rFt txt typed (typed + 1) (zPs txt typed 0) wd9 got).2.2.2, ans, worst) out) := by
  refine zRun_of (by decide +kernel) rfl rfl (Nat.le_of_ble_eq_true rfl) ?_
  suffices hs : ∀ (o9 : zO) (h9 : zH), (Sum.inr (some (.int ((-10) - (rFt txt typed (typed + 1) (zPs txt typed 0) wd9 got).1))) : zO) = o9 → (zHp S X (s, past, aside, pasts, txt, typed, (nI 0), line, need, left, slits, slB, slF, slT, (rFt txt typed (typed + 1) (zPs txt typed 0) wd9 got).2.1, (rFt txt typed (typed + 1) (zPs txt typed 0) wd9 got).2.2.1, (rFt txt typed (typed + 1) (zPs txt typed 0) wd9 got).2.2.2, ans, worst) out) = h9 → zPW G mX10_runCommands 0 0 o9 h9 0 0 0 [(0, .ref 114)] [] (zHp S X (s, past, aside, pasts, txt, typed, thrown, line, need, left, slits, slB, slF, slT, at9, wd9, got, ans, worst) out) from hs _ _ rfl rfl
  intro o9 h9 ho9 hh9
  refine z_aload_n 0 dX10_runCommands_0 rfl rfl ?_
  refine z_callV (N := mX10_fault) 0 [] [] lX10_fault ⟨zw_1587, zw_1589, zw_100⟩ rfl zgo_114 rfl rfl (Nat.le_of_ble_eq_true rfl) (by decide) ⟨zlt, zlt⟩ ⟨Nat.zero_le _, Nat.zero_le _⟩ zal (m_fault hG h150) dX10_runCommands_1 ?_
  refine z_istore_n (lv' := [(1, .int ((rFt txt typed (typed + 1) (zPs txt typed 0) wd9 got).1)), (0, .ref 114)]) dX10_runCommands_4 rfl (by decide) rfl ?_
  refine z_iload_n 0 dX10_runCommands_5 rfl rfl ?_
  refine z_iconst (v := (-1)) dX10_runCommands_6 (by decide) ?_
  refine z_icmp_eq (tgt := 19) dX10_runCommands_7 (by decide) (fun c_7 => ?_) (fun c_7 => ?_)
  · exfalso; exact hf c_7
  · skip
    refine z_aload_n 1 dX10_runCommands_10 rfl rfl ?_
    refine z_bipush (v := (-10)) dX10_runCommands_11 (by decide) ?_
    refine z_iload_n 0 dX10_runCommands_13 rfl rfl ?_
    refine z_isub dX10_runCommands_14 ?_
    refine z_callV (N := mX10_tells) 1 [.int ((-10) - ((rFt txt typed (typed + 1) (zPs txt typed 0) wd9 got).1))] [] lX10_tells ⟨zw_1267, zw_1269, zw_48⟩ rfl zgo_114 rfl rfl (Nat.le_of_ble_eq_true rfl) (by decide) ⟨zlt, zlt⟩ ⟨Nat.zero_le _, Nat.zero_le _⟩ zal (m_tells hG ((-10) - ((rFt txt typed (typed + 1) (zPs txt typed 0) wd9 got).1))) dX10_runCommands_15 ?_
    exact z_iret rfl dX10_runCommands_18 (zo_i ho9 (by rfl)) (zo_h hh9 (by rfl)) (Nat.zero_le _) (Nat.zero_le _)

set_option maxHeartbeats 4000000 in
set_option maxRecDepth 100000 in
theorem m_run {G : zT} {S : zS} {X : zXr} {out : Nat → Int64} {s : (Nat → Int32)} {past : (Nat → Int32)} {aside : (Nat → Int32)} {pasts : Nat} {txt : (Nat → Int32)} {typed : Nat} {thrown : Int32} {line : (Nat → Int32)} {need : (Nat → Int32)} {left : (Nat → Int32)} {slits : Nat} {slB : (Nat → Int32)} {slF : (Nat → Int32)} {slT : (Nat → Int32)} {at9 : Nat} {wd9 : Int32} {got : (Nat → Int32)} {ans : Int32} {worst : UInt32} (hG : zAl G = false) (h150 : typed ≤ 150) (hp4 : pasts ≤ 4) (hf : (rFt txt typed (typed + 1) (zPs txt typed 0) wd9 got).1 = -1) (hok : rOk s) (hgo : rGo got) : zRun G mX10_runCommands 0 0 [.ref 114] (zHp S X (s, past, aside, pasts, txt, typed, thrown, line, need, left, slits, slB, slF, slT, at9, wd9, got, ans, worst) out) (.inr (some (.int (nI (rRc txt typed (typed + 1) (0, (s, line, slits, slB, slF, slT, ans), zPs txt typed 0, (rFt txt typed (typed + 1) (zPs txt typed 0) wd9 got).2.2.1, (rFt txt typed (typed + 1) (zPs txt typed 0) wd9 got).2.2.2)).1)))) (zHp S X ((rRc txt typed (typed + 1) (0, (s, line, slits, slB, slF, slT, ans), zPs txt typed 0, (rFt txt typed (typed + 1) (zPs txt typed 0) wd9 got).2.2.1, (rFt txt typed (typed + 1) (zPs txt typed 0) wd9 got).2.2.2)).2.1.1, (rSv past (zFl s aside 1371) pasts), (zFl s aside 1371), (min (pasts + 1) 4), txt, typed, (nI 0), (rRc txt typed (typed + 1) (0, (s, line, slits, slB, slF, slT, ans), zPs txt typed 0, (rFt txt typed (typed + 1) (zPs txt typed 0) wd9 got).2.2.1, (rFt txt typed (typed + 1) (zPs txt typed 0) wd9 got).2.2.2)).2.1.2.1, need, left, (rRc txt typed (typed + 1) (0, (s, line, slits, slB, slF, slT, ans), zPs txt typed 0, (rFt txt typed (typed + 1) (zPs txt typed 0) wd9 got).2.2.1, (rFt txt typed (typed + 1) (zPs txt typed 0) wd9 got).2.2.2)).2.1.2.2.1, (rRc txt typed (typed + 1) (0, (s, line, slits, slB, slF, slT, ans), zPs txt typed 0, (rFt txt typed (typed + 1) (zPs txt typed 0) wd9 got).2.2.1, (rFt txt typed (typed + 1) (zPs txt typed 0) wd9 got).2.2.2)).2.1.2.2.2.1, (rRc txt typed (typed + 1) (0, (s, line, slits, slB, slF, slT, ans), zPs txt typed 0, (rFt txt typed (typed + 1) (zPs txt typed 0) wd9 got).2.2.1, (rFt txt typed (typed + 1) (zPs txt typed 0) wd9 got).2.2.2)).2.1.2.2.2.2.1, (rRc txt typed (typed + 1) (0, (s, line, slits, slB, slF, slT, ans), zPs txt typed 0, (rFt txt typed (typed + 1) (zPs txt typed 0) wd9 got).2.2.1, (rFt txt typed (typed + 1) (zPs txt typed 0) wd9 got).2.2.2)).2.1.2.2.2.2.2.1, (rRc txt typed (typed + 1) (0, (s, line, slits, slB, slF, slT, ans), zPs txt typed 0, (rFt txt typed (typed + 1) (zPs txt typed 0) wd9 got).2.2.1, (rFt txt typed (typed + 1) (zPs txt typed 0) wd9 got).2.2.2)).2.2.1, (rRc txt typed (typed + 1) (0, (s, line, slits, slB, slF, slT, ans), zPs txt typed 0, (rFt txt typed (typed + 1) (zPs txt typed 0) wd9 got).2.2.1, (rFt txt typed (typed + 1) (zPs txt typed 0) wd9 got).2.2.2)).2.2.2.1, (rRc txt typed (typed + 1) (0, (s, line, slits, slB, slF, slT, ans), zPs txt typed 0, (rFt txt typed (typed + 1) (zPs txt typed 0) wd9 got).2.2.1, (rFt txt typed (typed + 1) (zPs txt typed 0) wd9 got).2.2.2)).2.2.2.2, (rRc txt typed (typed + 1) (0, (s, line, slits, slB, slF, slT, ans), zPs txt typed 0, (rFt txt typed (typed + 1) (zPs txt typed 0) wd9 got).2.2.1, (rFt txt typed (typed + 1) (zPs txt typed 0) wd9 got).2.2.2)).2.1.2.2.2.2.2.2, worst) out) := by
  refine zRun_of (by decide +kernel) rfl rfl (Nat.le_of_ble_eq_true rfl) ?_
  suffices hs : ∀ (o9 : zO) (h9 : zH), (Sum.inr (some (.int (nI (rRc txt typed (typed + 1) (0, (s, line, slits, slB, slF, slT, ans), zPs txt typed 0, (rFt txt typed (typed + 1) (zPs txt typed 0) wd9 got).2.2.1, (rFt txt typed (typed + 1) (zPs txt typed 0) wd9 got).2.2.2)).1))) : zO) = o9 → (zHp S X ((rRc txt typed (typed + 1) (0, (s, line, slits, slB, slF, slT, ans), zPs txt typed 0, (rFt txt typed (typed + 1) (zPs txt typed 0) wd9 got).2.2.1, (rFt txt typed (typed + 1) (zPs txt typed 0) wd9 got).2.2.2)).2.1.1, (rSv past (zFl s aside 1371) pasts), (zFl s aside 1371), (min (pasts + 1) 4), txt, typed, (nI 0), (rRc txt typed (typed + 1) (0, (s, line, slits, slB, slF, slT, ans), zPs txt typed 0, (rFt txt typed (typed + 1) (zPs txt typed 0) wd9 got).2.2.1, (rFt txt typed (typed + 1) (zPs txt typed 0) wd9 got).2.2.2)).2.1.2.1, need, left, (rRc txt typed (typed + 1) (0, (s, line, slits, slB, slF, slT, ans), zPs txt typed 0, (rFt txt typed (typed + 1) (zPs txt typed 0) wd9 got).2.2.1, (rFt txt typed (typed + 1) (zPs txt typed 0) wd9 got).2.2.2)).2.1.2.2.1, (rRc txt typed (typed + 1) (0, (s, line, slits, slB, slF, slT, ans), zPs txt typed 0, (rFt txt typed (typed + 1) (zPs txt typed 0) wd9 got).2.2.1, (rFt txt typed (typed + 1) (zPs txt typed 0) wd9 got).2.2.2)).2.1.2.2.2.1, (rRc txt typed (typed + 1) (0, (s, line, slits, slB, slF, slT, ans), zPs txt typed 0, (rFt txt typed (typed + 1) (zPs txt typed 0) wd9 got).2.2.1, (rFt txt typed (typed + 1) (zPs txt typed 0) wd9 got).2.2.2)).2.1.2.2.2.2.1, (rRc txt typed (typed + 1) (0, (s, line, slits, slB, slF, slT, ans), zPs txt typed 0, (rFt txt typed (typed + 1) (zPs txt typed 0) wd9 got).2.2.1, (rFt txt typed (typed + 1) (zPs txt typed 0) wd9 got).2.2.2)).2.1.2.2.2.2.2.1, (rRc txt typed (typed + 1) (0, (s, line, slits, slB, slF, slT, ans), zPs txt typed 0, (rFt txt typed (typed + 1) (zPs txt typed 0) wd9 got).2.2.1, (rFt txt typed (typed + 1) (zPs txt typed 0) wd9 got).2.2.2)).2.2.1, (rRc txt typed (typed + 1) (0, (s, line, slits, slB, slF, slT, ans), zPs txt typed 0, (rFt txt typed (typed + 1) (zPs txt typed 0) wd9 got).2.2.1, (rFt txt typed (typed + 1) (zPs txt typed 0) wd9 got).2.2.2)).2.2.2.1, (rRc txt typed (typed + 1) (0, (s, line, slits, slB, slF, slT, ans), zPs txt typed 0, (rFt txt typed (typed + 1) (zPs txt typed 0) wd9 got).2.2.1, (rFt txt typed (typed + 1) (zPs txt typed 0) wd9 got).2.2.2)).2.2.2.2, (rRc txt typed (typed + 1) (0, (s, line, slits, slB, slF, slT, ans), zPs txt typed 0, (rFt txt typed (typed + 1) (zPs txt typed 0) wd9 got).2.2.1, (rFt txt typed (typed + 1) (zPs txt typed 0) wd9 got).2.2.2)).2.1.2.2.2.2.2.2, worst) out) = h9 → zPW G mX10_runCommands 0 0 o9 h9 0 0 0 [(0, .ref 114)] [] (zHp S X (s, past, aside, pasts, txt, typed, thrown, line, need, left, slits, slB, slF, slT, at9, wd9, got, ans, worst) out) from hs _ _ rfl rfl
  intro o9 h9 ho9 hh9
  refine z_aload_n 0 dX10_runCommands_0 rfl rfl ?_
  refine z_callV (N := mX10_fault) 0 [] [] lX10_fault ⟨zw_1587, zw_1589, zw_100⟩ rfl zgo_114 rfl rfl (Nat.le_of_ble_eq_true rfl) (by decide) ⟨zlt, zlt⟩ ⟨Nat.zero_le _, Nat.zero_le _⟩ zal (m_fault hG h150) dX10_runCommands_1 ?_
  refine z_istore_n (lv' := [(1, .int ((rFt txt typed (typed + 1) (zPs txt typed 0) wd9 got).1)), (0, .ref 114)]) dX10_runCommands_4 rfl (by decide) rfl ?_
  refine z_iload_n 0 dX10_runCommands_5 rfl rfl ?_
  refine z_iconst (v := (-1)) dX10_runCommands_6 (by decide) ?_
  refine z_icmp_eq (tgt := 19) dX10_runCommands_7 (by decide) (fun c_7 => ?_) (fun c_7 => ?_)
  · skip
    refine z_aload_n 1 dX10_runCommands_19 rfl rfl ?_
    refine z_callV (N := mX10_hold) 0 [] [] lX10_hold ⟨zw_1244, zw_1246, zw_43⟩ rfl zgo_114 rfl rfl (Nat.le_of_ble_eq_true rfl) (by decide) ⟨zlt, zlt⟩ ⟨Nat.zero_le _, Nat.zero_le _⟩ zal (m_hold hG) dX10_runCommands_20 ?_
    refine z_iconst (v := nI 0) dX10_runCommands_23 (by decide) ?_
    refine z_istore_n (lv' := [(2, .int (nI 0)), (1, .int ((rFt txt typed (typed + 1) (zPs txt typed 0) wd9 got).1)), (0, .ref 114)]) dX10_runCommands_24 rfl (by decide) rfl ?_
    refine z_iconst (v := nI 1) dX10_runCommands_25 (by decide) ?_
    refine z_istore_n (lv' := [(3, .int (nI 1)), (2, .int (nI 0)), (1, .int ((rFt txt typed (typed + 1) (zPs txt typed 0) wd9 got).1)), (0, .ref 114)]) dX10_runCommands_26 rfl (by decide) rfl ?_
    refine z_aload_n 3 dX10_runCommands_27 rfl rfl ?_
    refine z_iconst (v := nI 0) dX10_runCommands_28 (by decide) ?_
    refine z_puti 14 tyX10 zgo_114 rfl inX10 tyX10_ok nmX10 (by decide) zw_1192 rfl rfl (by decide +kernel) (Nat.le_of_ble_eq_true rfl) dX10_runCommands_29 ?_
    refine z_eqh (h2 := (zHp S X (s, past, (zFl s aside 1371), pasts, txt, typed, thrown, line, need, left, slits, slB, slF, slT, 0, (rFt txt typed (typed + 1) (zPs txt typed 0) wd9 got).2.2.1, (rFt txt typed (typed + 1) (zPs txt typed 0) wd9 got).2.2.2, ans, worst) out)) zsf_114_14 ?_
    refine z_aload_n 3 dX10_runCommands_32 rfl rfl ?_
    refine z_callV (N := mX10_passes) 0 [] [] lX10_passes ⟨zw_1591, zw_1593, zw_101⟩ rfl zgo_114 rfl rfl (Nat.le_of_ble_eq_true rfl) (by decide) ⟨zlt, zlt⟩ ⟨Nat.zero_le _, Nat.zero_le _⟩ zal (m_passes hG h150 (Nat.zero_le _)) dX10_runCommands_33 ?_
    have L36_1 : ∀ (d p : Nat) (n9 nn : Nat) (q : zD7) (v9 : Int32) (g9 : Nat → Int32), p ≤ typed → typed + 1 ≤ p + d → (rRc txt typed (typed + 1) (0, (s, line, slits, slB, slF, slT, ans), zPs txt typed 0, (rFt txt typed (typed + 1) (zPs txt typed 0) wd9 got).2.2.1, (rFt txt typed (typed + 1) (zPs txt typed 0) wd9 got).2.2.2)) = rRc txt typed n9 (nn, q, p, v9, g9) → typed < p + n9 → p ≤ typed → rOk q.1 → rGo g9 → zPW G mX10_runCommands 0 0 o9 h9 0 0 36 [(3, .int (nI 1)), (2, .int (nI nn)), (1, .int ((rFt txt typed (typed + 1) (zPs txt typed 0) wd9 got).1)), (0, .ref 114)] [] (zHp S X (q.1, past, (zFl s aside 1371), pasts, txt, typed, thrown, q.2.1, need, left, q.2.2.1, q.2.2.2.1, q.2.2.2.2.1, q.2.2.2.2.2.1, p, v9, g9, q.2.2.2.2.2.2, worst) out) := by
      intro d
      induction d with
      | zero => intro p n9 nn q v9 g9 hk hd; exact absurd hd (by omega)
      | succ d ih =>
        intro p n9 nn q v9 g9 hk_p hd_p he_p hn_p hle_p hok_p hgo_p
        have ih36 := ih
        clear ih
        have hok9 := hok_p
        obtain ⟨c, r, w, cnt, lim, hM9, hY⟩ := hok9
        obtain ⟨rfl, rfl, rfl, rfl, rfl⟩ := zMd_sd hM9
        refine z_iload_n 0 dX10_runCommands_36 rfl rfl ?_
        refine z_if_eq (tgt := 95) dX10_runCommands_37 (by decide) (fun c_37 => ?_) (fun c_37 => ?_)
        · exfalso; revert c_37; decide
        · skip
          have f_37 := m_z_eq_f (by omega) c_37
          refine z_aload_n 3 dX10_runCommands_40 rfl rfl ?_
          refine z_get (v := .int (nI p)) 14 zgo_114 rfl inX10 (by decide) zw_1192 rfl rfl dX10_runCommands_41 ?_
          refine z_aload_n 3 dX10_runCommands_44 rfl rfl ?_
          refine z_get (v := .int (nI typed)) 5 zgo_114 rfl inX10 (by decide) zw_1183 rfl rfl dX10_runCommands_45 ?_
          refine z_icmp_ge (tgt := 95) dX10_runCommands_48 (by decide) (fun c_48 => ?_) (fun c_48 => ?_)
          · skip
            have f_48 := m_le (by omega) (by omega) c_48
            have heN : (rRc txt typed (typed + 1) (0, (s, line, slits, slB, slF, slT, ans), zPs txt typed 0, (rFt txt typed (typed + 1) (zPs txt typed 0) wd9 got).2.2.1, (rFt txt typed (typed + 1) (zPs txt typed 0) wd9 got).2.2.2)) = (nn, q, p, v9, g9) := he_p.trans (rRc_e f_48)
            refine z_aload_n 3 dX10_runCommands_95 rfl rfl ?_
            refine z_callV (N := mX10_saves) 0 [] [] lX10_saves ⟨zw_1263, zw_1265, zw_47⟩ rfl zgo_114 rfl rfl (Nat.le_of_ble_eq_true rfl) (by decide) ⟨zlt, zlt⟩ ⟨Nat.zero_le _, Nat.zero_le _⟩ zal (m_saves hG hp4) dX10_runCommands_96 ?_
            refine z_aload_n 3 dX10_runCommands_99 rfl rfl ?_
            refine z_iload_n 1 dX10_runCommands_100 rfl rfl ?_
            refine z_callV (N := mX10_tells) 1 [.int (nI nn)] [] lX10_tells ⟨zw_1267, zw_1269, zw_48⟩ rfl zgo_114 rfl rfl (Nat.le_of_ble_eq_true rfl) (by decide) ⟨zlt, zlt⟩ ⟨Nat.zero_le _, Nat.zero_le _⟩ zal (m_tells hG (nI nn)) dX10_runCommands_101 ?_
            exact z_iret rfl dX10_runCommands_104 (zo_i ho9 (by rw [heN] <;> rfl)) (zo_h hh9 (by rw [heN] <;> rfl)) (Nat.zero_le _) (Nat.zero_le _)
          · skip
            have f_48 := m_nle (by omega) (by omega) c_48
            refine z_aload_n 3 dX10_runCommands_51 rfl rfl ?_
            refine z_callV (N := mX10_reads) 0 [] [] lX10_reads ⟨zw_1599, zw_1601, zw_103⟩ rfl zgo_114 rfl rfl (Nat.le_of_ble_eq_true rfl) (by decide) ⟨zlt, zlt⟩ ⟨Nat.zero_le _, Nat.zero_le _⟩ zal (m_reads hG h150 hle_p) dX10_runCommands_52 ?_
            refine z_istore (lv' := [(4, .int ((rRd txt typed p g9).1)), (3, .int (nI 1)), (2, .int (nI nn)), (1, .int ((rFt txt typed (typed + 1) (zPs txt typed 0) wd9 got).1)), (0, .ref 114)]) dX10_runCommands_55 (by decide) rfl ?_
            refine z_iload 0 dX10_runCommands_57 rfl ?_
            refine z_iconst (v := (-1)) dX10_runCommands_59 (by decide) ?_
            refine z_icmp_ne (tgt := 74) dX10_runCommands_60 (by decide) (fun c_60 => ?_) (fun c_60 => ?_)
            · skip
              have hn0 : n9 = n9 - 1 + 1 := by omega
              have hr9 := (rRd_le (txt := txt) (typed := typed) (p := p) (g := g9) hle_p)
              have heN : (rRc txt typed (typed + 1) (0, (s, line, slits, slB, slF, slT, ans), zPs txt typed 0, (rFt txt typed (typed + 1) (zPs txt typed 0) wd9 got).2.2.1, (rFt txt typed (typed + 1) (zPs txt typed 0) wd9 got).2.2.2)) = (nn, q, zPs txt typed (rRd txt typed p g9).2.1, (rRd txt typed p g9).2.2) := by
                rw [he_p, hn0]
                exact rRc_f f_48 c_60
              refine z_iconst (v := nI 0) dX10_runCommands_74 (by decide) ?_
              refine z_istore_n (lv' := [(3, .int (nI 0)), (4, .int ((rRd txt typed p g9).1)), (2, .int (nI nn)), (1, .int ((rFt txt typed (typed + 1) (zPs txt typed 0) wd9 got).1)), (0, .ref 114)]) dX10_runCommands_75 rfl (by decide) rfl ?_
              refine z_iload_n 2 dX10_runCommands_76 rfl rfl ?_
              refine z_iload_n 0 dX10_runCommands_77 rfl rfl ?_
              refine z_if_eq (tgt := 85) dX10_runCommands_78 (by decide) (fun c_78 => ?_) (fun c_78 => ?_)
              · skip
                have f_78 := m_z_eq_t (by omega) c_78
                refine z_iconst (v := nI 0) dX10_runCommands_85 (by decide) ?_
                refine z_iaddN (a := nn) (b := 0) dX10_runCommands_86 ?_
                refine z_istore_n (lv' := [(2, .int (nI (nn + 0))), (3, .int (nI 0)), (4, .int ((rRd txt typed p g9).1)), (1, .int ((rFt txt typed (typed + 1) (zPs txt typed 0) wd9 got).1)), (0, .ref 114)]) dX10_runCommands_87 rfl (by decide) rfl ?_
                refine z_aload_n 4 dX10_runCommands_88 rfl rfl ?_
                refine z_callV (N := mX10_passes) 0 [] [] lX10_passes ⟨zw_1591, zw_1593, zw_101⟩ rfl zgo_114 rfl rfl (Nat.le_of_ble_eq_true rfl) (by decide) ⟨zlt, zlt⟩ ⟨Nat.zero_le _, Nat.zero_le _⟩ zal (m_passes hG h150 hr9) dX10_runCommands_89 ?_
                refine z_goto (tgt := 36) dX10_runCommands_92 (by decide) ?_
                refine z_iload_n 1 dX10_runCommands_36 rfl rfl ?_
                refine z_if_eq (tgt := 95) dX10_runCommands_37 (by decide) (fun c_37 => ?_) (fun c_37 => ?_)
                · skip
                  have f_37 := m_z_eq_t (by omega) c_37
                  refine z_aload_n 4 dX10_runCommands_95 rfl rfl ?_
                  refine z_callV (N := mX10_saves) 0 [] [] lX10_saves ⟨zw_1263, zw_1265, zw_47⟩ rfl zgo_114 rfl rfl (Nat.le_of_ble_eq_true rfl) (by decide) ⟨zlt, zlt⟩ ⟨Nat.zero_le _, Nat.zero_le _⟩ zal (m_saves hG hp4) dX10_runCommands_96 ?_
                  refine z_aload_n 4 dX10_runCommands_99 rfl rfl ?_
                  refine z_iload_n 0 dX10_runCommands_100 rfl rfl ?_
                  refine z_callV (N := mX10_tells) 1 [.int (nI (nn + 0))] [] lX10_tells ⟨zw_1267, zw_1269, zw_48⟩ rfl zgo_114 rfl rfl (Nat.le_of_ble_eq_true rfl) (by decide) ⟨zlt, zlt⟩ ⟨Nat.zero_le _, Nat.zero_le _⟩ zal (m_tells hG (nI (nn + 0))) dX10_runCommands_101 ?_
                  exact z_iret rfl dX10_runCommands_104 (zo_i ho9 (by rw [heN] <;> rfl)) (zo_h hh9 (by rw [heN] <;> rfl)) (Nat.zero_le _) (Nat.zero_le _)
                · exfalso; revert c_37; decide
              · exfalso; revert c_78; decide
            · skip
              have hn0 : n9 = n9 - 1 + 1 := by omega
              have hps := rRd_pos hle_p h150 c_60
              have hr9 := hps.2
              have hzp := zPs_le (txt := txt) hps.2
              refine z_aload_n 4 dX10_runCommands_63 rfl rfl ?_
              refine z_callV (N := mX10_does) 0 [] [] lX10_does ⟨zw_1606, zw_1608, zw_104⟩ rfl zgo_114 rfl rfl (Nat.le_of_ble_eq_true rfl) (by decide) ⟨zlt, zlt⟩ ⟨Nat.zero_le _, Nat.zero_le _⟩ zal (m_does hG hM9 hY (rRd_num hle_p h150 c_60) (rRd_ok hgo_p)) dX10_runCommands_64 ?_
              refine z_if_ne (tgt := 74) dX10_runCommands_67 (by decide) (fun c_67 => ?_) (fun c_67 => ?_)
              · skip
                have heN : (rRc txt typed (typed + 1) (0, (s, line, slits, slB, slF, slT, ans), zPs txt typed 0, (rFt txt typed (typed + 1) (zPs txt typed 0) wd9 got).2.2.1, (rFt txt typed (typed + 1) (zPs txt typed 0) wd9 got).2.2.2)) = (nn, (rDd (rRd txt typed p g9).2.2.1 (rRd txt typed p g9).2.2.2 q).2, zPs txt typed (rRd txt typed p g9).2.1, (rRd txt typed p g9).2.2) := by
                  rw [he_p, hn0]
                  exact rRc_n f_48 c_60 c_67
                refine z_iconst (v := nI 0) dX10_runCommands_74 (by decide) ?_
                refine z_istore_n (lv' := [(3, .int (nI 0)), (4, .int ((rRd txt typed p g9).1)), (2, .int (nI nn)), (1, .int ((rFt txt typed (typed + 1) (zPs txt typed 0) wd9 got).1)), (0, .ref 114)]) dX10_runCommands_75 rfl (by decide) rfl ?_
                refine z_iload_n 2 dX10_runCommands_76 rfl rfl ?_
                refine z_iload_n 0 dX10_runCommands_77 rfl rfl ?_
                refine z_if_eq (tgt := 85) dX10_runCommands_78 (by decide) (fun c_78 => ?_) (fun c_78 => ?_)
                · skip
                  have f_78 := m_z_eq_t (by omega) c_78
                  refine z_iconst (v := nI 0) dX10_runCommands_85 (by decide) ?_
                  refine z_iaddN (a := nn) (b := 0) dX10_runCommands_86 ?_
                  refine z_istore_n (lv' := [(2, .int (nI (nn + 0))), (3, .int (nI 0)), (4, .int ((rRd txt typed p g9).1)), (1, .int ((rFt txt typed (typed + 1) (zPs txt typed 0) wd9 got).1)), (0, .ref 114)]) dX10_runCommands_87 rfl (by decide) rfl ?_
                  refine z_aload_n 4 dX10_runCommands_88 rfl rfl ?_
                  refine z_callV (N := mX10_passes) 0 [] [] lX10_passes ⟨zw_1591, zw_1593, zw_101⟩ rfl zgo_114 rfl rfl (Nat.le_of_ble_eq_true rfl) (by decide) ⟨zlt, zlt⟩ ⟨Nat.zero_le _, Nat.zero_le _⟩ zal (m_passes hG h150 hr9) dX10_runCommands_89 ?_
                  refine z_goto (tgt := 36) dX10_runCommands_92 (by decide) ?_
                  refine z_iload_n 1 dX10_runCommands_36 rfl rfl ?_
                  refine z_if_eq (tgt := 95) dX10_runCommands_37 (by decide) (fun c_37 => ?_) (fun c_37 => ?_)
                  · skip
                    have f_37 := m_z_eq_t (by omega) c_37
                    refine z_aload_n 4 dX10_runCommands_95 rfl rfl ?_
                    refine z_callV (N := mX10_saves) 0 [] [] lX10_saves ⟨zw_1263, zw_1265, zw_47⟩ rfl zgo_114 rfl rfl (Nat.le_of_ble_eq_true rfl) (by decide) ⟨zlt, zlt⟩ ⟨Nat.zero_le _, Nat.zero_le _⟩ zal (m_saves hG hp4) dX10_runCommands_96 ?_
                    refine z_aload_n 4 dX10_runCommands_99 rfl rfl ?_
                    refine z_iload_n 0 dX10_runCommands_100 rfl rfl ?_
                    refine z_callV (N := mX10_tells) 1 [.int (nI (nn + 0))] [] lX10_tells ⟨zw_1267, zw_1269, zw_48⟩ rfl zgo_114 rfl rfl (Nat.le_of_ble_eq_true rfl) (by decide) ⟨zlt, zlt⟩ ⟨Nat.zero_le _, Nat.zero_le _⟩ zal (m_tells hG (nI (nn + 0))) dX10_runCommands_101 ?_
                    exact z_iret rfl dX10_runCommands_104 (zo_i ho9 (by rw [heN] <;> rfl)) (zo_h hh9 (by rw [heN] <;> rfl)) (Nat.zero_le _) (Nat.zero_le _)
                  · exfalso; revert c_37; decide
                · exfalso; revert c_78; decide
              · skip
                have he2 : (rRc txt typed (typed + 1) (0, (s, line, slits, slB, slF, slT, ans), zPs txt typed 0, (rFt txt typed (typed + 1) (zPs txt typed 0) wd9 got).2.2.1, (rFt txt typed (typed + 1) (zPs txt typed 0) wd9 got).2.2.2)) = rRc txt typed (n9 - 1) (nn + 1, (rDd (rRd txt typed p g9).2.2.1 (rRd txt typed p g9).2.2.2 q).2, zPs txt typed (rRd txt typed p g9).2.1, (rRd txt typed p g9).2.2.1, (rRd txt typed p g9).2.2.2) := by
                  rw [he_p, hn0]
                  exact rRc_t f_48 c_60 c_67
                have hok2 := rOk_dd (wd := (rRd txt typed p g9).2.2.1) (q := q) hok_p (rRd_ok (txt := txt) (typed := typed) (p := p) hgo_p)
                refine z_iconst (v := nI 1) dX10_runCommands_70 (by decide) ?_
                refine z_goto (tgt := 75) dX10_runCommands_71 (by decide) ?_
                refine z_istore_n (lv' := [(3, .int (nI 1)), (4, .int ((rRd txt typed p g9).1)), (2, .int (nI nn)), (1, .int ((rFt txt typed (typed + 1) (zPs txt typed 0) wd9 got).1)), (0, .ref 114)]) dX10_runCommands_75 rfl (by decide) rfl ?_
                refine z_iload_n 2 dX10_runCommands_76 rfl rfl ?_
                refine z_iload_n 0 dX10_runCommands_77 rfl rfl ?_
                refine z_if_eq (tgt := 85) dX10_runCommands_78 (by decide) (fun c_78 => ?_) (fun c_78 => ?_)
                · exfalso; revert c_78; decide
                · skip
                  have f_78 := m_z_eq_f (by omega) c_78
                  refine z_iconst (v := nI 1) dX10_runCommands_81 (by decide) ?_
                  refine z_goto (tgt := 86) dX10_runCommands_82 (by decide) ?_
                  refine z_iaddN (a := nn) (b := 1) dX10_runCommands_86 ?_
                  refine z_istore_n (lv' := [(2, .int (nI (nn + 1))), (3, .int (nI 1)), (4, .int ((rRd txt typed p g9).1)), (1, .int ((rFt txt typed (typed + 1) (zPs txt typed 0) wd9 got).1)), (0, .ref 114)]) dX10_runCommands_87 rfl (by decide) rfl ?_
                  refine z_aload_n 4 dX10_runCommands_88 rfl rfl ?_
                  refine z_callV (N := mX10_passes) 0 [] [] lX10_passes ⟨zw_1591, zw_1593, zw_101⟩ rfl zgo_114 rfl rfl (Nat.le_of_ble_eq_true rfl) (by decide) ⟨zlt, zlt⟩ ⟨Nat.zero_le _, Nat.zero_le _⟩ zal (m_passes hG h150 hr9) dX10_runCommands_89 ?_
                  refine z_goto (tgt := 36) dX10_runCommands_92 (by decide) ?_
                  refine z_sub [1, 0, 3, 4] (lv' := [(3, .int (nI 1)), (2, .int (nI (nn + 1))), (1, .int ((rFt txt typed (typed + 1) (zPs txt typed 0) wd9 got).1)), (0, .ref 114)]) rfl ?_
                  refine z_eqs (lv2 := [(3, .int (nI 1)), (2, .int (nI ((nn + 1)))), (1, .int ((rFt txt typed (typed + 1) (zPs txt typed 0) wd9 got).1)), (0, .ref 114)]) (h2 := (zHp S X (((rDd (rRd txt typed p g9).2.2.1 (rRd txt typed p g9).2.2.2 q).2).1, past, (zFl s aside 1371), pasts, txt, typed, thrown, ((rDd (rRd txt typed p g9).2.2.1 (rRd txt typed p g9).2.2.2 q).2).2.1, need, left, ((rDd (rRd txt typed p g9).2.2.1 (rRd txt typed p g9).2.2.2 q).2).2.2.1, ((rDd (rRd txt typed p g9).2.2.1 (rRd txt typed p g9).2.2.2 q).2).2.2.2.1, ((rDd (rRd txt typed p g9).2.2.1 (rRd txt typed p g9).2.2.2 q).2).2.2.2.2.1, ((rDd (rRd txt typed p g9).2.2.1 (rRd txt typed p g9).2.2.2 q).2).2.2.2.2.2.1, (zPs txt typed ((rRd txt typed p g9).2.1)), (rRd txt typed p g9).2.2.1, (rRd txt typed p g9).2.2.2, ((rDd (rRd txt typed p g9).2.2.1 (rRd txt typed p g9).2.2.2 q).2).2.2.2.2.2.2, worst) out)) (by rfl) (by rfl) ?_
                  exact ih36 (zPs txt typed ((rRd txt typed p g9).2.1)) (n9 - 1) (nn + 1) ((rDd (rRd txt typed p g9).2.2.1 (rRd txt typed p g9).2.2.2 q).2) ((rRd txt typed p g9).2.2.1) ((rRd txt typed p g9).2.2.2) (by omega) (by omega) he2 (by omega) (by omega) hok2 (rRd_ok hgo_p)
    refine z_sub [0, 1, 2, 3] (lv' := [(3, .int (nI 1)), (2, .int (nI 0)), (1, .int ((rFt txt typed (typed + 1) (zPs txt typed 0) wd9 got).1)), (0, .ref 114)]) rfl ?_
    refine z_eqs (lv2 := [(3, .int (nI 1)), (2, .int (nI 0)), (1, .int ((rFt txt typed (typed + 1) (zPs txt typed 0) wd9 got).1)), (0, .ref 114)]) (h2 := (zHp S X ((s, line, slits, slB, slF, slT, ans).1, past, (zFl s aside 1371), pasts, txt, typed, thrown, (s, line, slits, slB, slF, slT, ans).2.1, need, left, (s, line, slits, slB, slF, slT, ans).2.2.1, (s, line, slits, slB, slF, slT, ans).2.2.2.1, (s, line, slits, slB, slF, slT, ans).2.2.2.2.1, (s, line, slits, slB, slF, slT, ans).2.2.2.2.2.1, (zPs txt typed 0), (rFt txt typed (typed + 1) (zPs txt typed 0) wd9 got).2.2.1, (rFt txt typed (typed + 1) (zPs txt typed 0) wd9 got).2.2.2, (s, line, slits, slB, slF, slT, ans).2.2.2.2.2.2, worst) out)) (by rfl) (by rfl) ?_
    exact L36_1 (typed + 1) (zPs txt typed 0) (typed + 1) 0 (s, line, slits, slB, slF, slT, ans) ((rFt txt typed (typed + 1) (zPs txt typed 0) wd9 got).2.2.1) ((rFt txt typed (typed + 1) (zPs txt typed 0) wd9 got).2.2.2) (by have := zPs_le (txt := txt) (Nat.zero_le typed); omega) (by omega) rfl (by omega) (zPs_le (Nat.zero_le _)).2 hok (rFt_ok _ _ _ _ hgo)
  · exfalso; exact c_7 hf

