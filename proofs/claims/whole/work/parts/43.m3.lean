theorem zCt_cg {P Q : Nat → Bool} : ∀ {c : Nat}, (∀ b, b < c → P b = Q b) → zCt P c = zCt Q c
  | 0, _ => rfl
  | c + 1, h => by
    have h1 := zCt_cg (c := c) fun b hb => h b (by omega)
    have h2 := h c (by omega)
    cases q : Q c
    · rw [← zCt_F q, ← zCt_F (h2.trans q), h1]
    · rw [← zCt_T q, ← zCt_T (h2.trans q), h1]
theorem zFl_in {α : Type} {g f : Nat → α} {n j : Nat} (h : j < n) : zFl g f n j = g j := if_pos h
theorem rBeg_fl {g f : Nat → Int32} {c b : Nat} (h : b < c) : rBeg (zFl g f c) b = rBeg g b := by
  unfold rBeg
  rw [zFl_in h, zFl_in (show b - 1 < c by omega)]
theorem rEnd_fl {g f : Nat → Int32} {c b : Nat} (h : b < c) : rEnd (zFl g f c) c b = rEnd g c b := by
  unfold rEnd
  by_cases e : b + 1 = c
  · rw [show (b + 1 == c) = true from beq_iff_eq.mpr e, Bool.true_or, Bool.true_or]
  · rw [zFl_in h, zFl_in (show b + 1 < c by omega)]
theorem rOl_fl {s g f : Nat → Int32} {c y : Nat} : ∀ b, b ≤ c → rOl s (zFl g f c) y b = rOl s g y b
  | 0, _ => rfl
  | b + 1, h => by
    unfold rOl
    rw [rBeg_fl (by omega), rOl_fl b (by omega), zFl_in (by omega)]
theorem rFre_fl {s g f : Nat → Int32} {c y : Nat} : rFre s (zFl g f c) c y = rFre s g c y := zCt_cg fun b hb => by
  show (rEnd _ c b && !rOl s _ y (b + 1)) = (rEnd _ c b && !rOl s _ y (b + 1))
  rw [rEnd_fl hb, rOl_fl (b + 1) (by omega)]
theorem zSN_e {f : Nat → Nat} {n x : Nat} (h : f n = x) : zSN f n + x = zSN f (n + 1) := by rw [← h]; rfl
theorem zSN_E {f : Nat → Nat} {n x : Nat} (h : f n = x) : zSN f (n + 1) = zSN f n + x := (zSN_e h).symm
def rCe (s : Nat → Int32) (c w x y t : Nat) : Int32 := if t = 0 then s (91 + 20 * y + x) else if t = 3 then nI (c - 1 - x) else if y < w then (if t = 1 then rW s y (c - 1 - x) else rY s y (c - 1 - x)) else -1
def rRo (s : Nat → Int32) (c cnt y t : Nat) : Int32 := match t with
  | 0 => nI (zCt (rBeg (rW s y)) c)
  | 1 => nI (rFre s (rW s y) c y)
  | 2 => nI (zCt (fun b => !(rW s y b == rD s c y b)) c)
  | 3 => nI (c + zCt (rBeg (rW s y)) c)
  | _ => nI (zCt (fun l => rAny (fun b => rY s y b == nI l) c) cnt)
def rRoL (s : Nat → Int32) (c y t : Nat) (L : Nat → Int32) : Nat → Int32 := match t with
  | 0 => zFl (rW s y) L c
  | 1 => zFl (rW s y) L c
  | 3 => zFl (rW s y) L c
  | _ => L
def rLo (s : Nat → Int32) (c w cnt l t : Nat) : Int32 := match t with
  | 4 => nI (zSN (fun y => zCt (fun b => rY s y b == nI l) c) w)
  | 5 => if rIu s (s (7 + 4 * l)) 0 cnt = nI l then nI 1 else nI 0
  | t => s (7 + 4 * l + t)
def rCo (s : Nat → Int32) (c r w cnt : Nat) (v : Int32) (t : Nat) : Int32 := match t with
  | 0 => nI (zSN (fun y => zCt (fun b => rD s c y b == v) c) r)
  | 1 => nI (zSN (fun y => if y < w then zCt (fun b => rW s y b == v) c else 0) r)
  | 2 => rUn s v cnt
  | 3 => nI (zCt (fun l => s (7 + 4 * l) == v) cnt)
  | 4 => nI (zSN (fun y => if y < w then zCt (fun b => rW s y b == v && rBeg (rW s y) b) c else 0) r)
  | _ => nI (zSN (fun y => if y < w then 0 else zCt (fun b => rD s c y b == v) c + zCt (fun b => rD s c y b == v && rBeg (rD s c y) b) c) r)
def rCoL (s : Nat → Int32) (c r w t : Nat) (L : Nat → Int32) : Nat → Int32 := match t with
  | 0 => zIt (fun y L => zFl (rD s c y) L c) r L
  | 1 => zIt (fun y L => if y < w then zFl (rW s y) L c else L) r L
  | 4 => zIt (fun y L => if y < w then zFl (rW s y) L c else L) r L
  | 5 => zIt (fun y L => zFl (rD s c y) L c) r L
  | _ => L
def rSt (s : Nat → Int32) (q : zF4) (k t : Nat) : Int32 := match t with
  | 0 => q.2.1 k
  | 1 => q.2.2.1 k
  | 2 => q.2.2.2 k
  | _ => zB (s (rSx q.2.1 q.2.2.1 k) == nI 1)

set_option maxHeartbeats 4000000 in
set_option maxRecDepth 100000 in
theorem m_cellOf {G : zT} {S : zS} {X : zXr} {out : Nat → Int64} {s : (Nat → Int32)} {past : (Nat → Int32)} {aside : (Nat → Int32)} {pasts : Nat} {txt : (Nat → Int32)} {typed : Nat} {thrown : Int32} {line : (Nat → Int32)} {need : (Nat → Int32)} {left : (Nat → Int32)} {slits : Nat} {slB : (Nat → Int32)} {slF : (Nat → Int32)} {slT : (Nat → Int32)} {at9 : Nat} {wd9 : Int32} {got : (Nat → Int32)} {ans : Int32} {worst : UInt32} (hG : zAl G = false) {c r w cnt lim : Nat} (hM : zMd s c r w cnt lim) (x y t : Nat) (hx : x < c) (hy : y < r) (ht : t ≤ 3) : zRun G mX10_cellOf 0 0 [.ref 114, .int (nI x), .int (nI y), .int (nI t)] (zHp S X (s, past, aside, pasts, txt, typed, thrown, line, need, left, slits, slB, slF, slT, at9, wd9, got, ans, worst) out) (.inr (some (.int (rCe s c w x y t)))) (zHp S X (s, past, aside, pasts, txt, typed, thrown, line, need, left, slits, slB, slF, slT, at9, wd9, got, ans, worst) out) := by
  have hM9 := hM
  obtain ⟨h0, h1, h2, h3, h4, hc1, hc, hr1, hr, hw, hn, hl⟩ := hM
  refine zRun_of (by decide +kernel) rfl rfl (Nat.le_of_ble_eq_true rfl) ?_
  suffices hs : ∀ (o9 : zO) (h9 : zH), (Sum.inr (some (.int (rCe s c w x y t))) : zO) = o9 → (zHp S X (s, past, aside, pasts, txt, typed, thrown, line, need, left, slits, slB, slF, slT, at9, wd9, got, ans, worst) out) = h9 → zPW G mX10_cellOf 0 0 o9 h9 0 0 0 [(0, .ref 114), (1, .int (nI x)), (2, .int (nI y)), (3, .int (nI t))] [] (zHp S X (s, past, aside, pasts, txt, typed, thrown, line, need, left, slits, slB, slF, slT, at9, wd9, got, ans, worst) out) from hs _ _ rfl rfl
  intro o9 h9 ho9 hh9
  refine z_aload_n 0 dX10_cellOf_0 rfl rfl ?_
  refine z_get (v := .ref 115) 0 zgo_114 rfl inX10 (by decide) zw_1178 rfl rfl dX10_cellOf_1 ?_
  refine z_iconst (v := nI 0) dX10_cellOf_4 (by decide) ?_
  refine z_ialdN (f := s) (n := 1371) (j := 0) zga_115 (by omega) (by decide) dX10_cellOf_5 ?_
  refine z_top (v2 := .int (nI c)) (by rw [h0]) ?_
  refine z_iconst (v := nI 1) dX10_cellOf_6 (by decide) ?_
  refine z_isubN (a := c) (b := 1) (by omega) dX10_cellOf_7 ?_
  refine z_iload_n 1 dX10_cellOf_8 rfl rfl ?_
  refine z_isubN (a := c - 1) (b := x) (by omega) dX10_cellOf_9 ?_
  refine z_istore (lv' := [(4, .int (nI (c - 1 - x))), (0, .ref 114), (1, .int (nI x)), (2, .int (nI y)), (3, .int (nI t))]) dX10_cellOf_10 (by decide) rfl ?_
  refine z_iload_n 4 dX10_cellOf_12 rfl rfl ?_
  refine z_if_eq (tgt := 21) dX10_cellOf_13 (by decide) (fun c_13 => ?_) (fun c_13 => ?_)
  · skip
    have f_13 := m_z_eq_t (by omega) c_13
    refine z_iload_n 4 dX10_cellOf_21 rfl rfl ?_
    refine z_if_ne (tgt := 42) dX10_cellOf_22 (by decide) (fun c_22 => ?_) (fun c_22 => ?_)
    · skip
      have f_22 := m_z_ne_t (by omega) c_22
      refine z_iload 0 dX10_cellOf_42 rfl ?_
      exact z_iret rfl dX10_cellOf_44 (zo_i ho9 (by first | (exfalso; omega) | simp [rCe, c_13, f_13, c_22, f_22])) (zo_h hh9 (by rfl)) (Nat.zero_le _) (Nat.zero_le _)
    · skip
      have f_22 := m_z_ne_f (by omega) c_22
      refine z_aload_n 1 dX10_cellOf_25 rfl rfl ?_
      refine z_get (v := .ref 115) 0 zgo_114 rfl inX10 (by decide) zw_1178 rfl rfl dX10_cellOf_26 ?_
      refine z_bipush (v := nI 91) dX10_cellOf_29 (by decide) ?_
      refine z_bipush (v := nI 20) dX10_cellOf_31 (by decide) ?_
      refine z_iload_n 3 dX10_cellOf_33 rfl rfl ?_
      refine z_imulN (a := 20) (b := y) dX10_cellOf_34 ?_
      refine z_iaddN (a := 91) (b := 20 * y) dX10_cellOf_35 ?_
      refine z_iload_n 2 dX10_cellOf_36 rfl rfl ?_
      refine z_iaddN (a := 91 + 20 * y) (b := x) dX10_cellOf_37 ?_
      refine z_ialdN (f := s) (n := 1371) (j := 91 + 20 * y + x) zga_115 (by omega) (by decide) dX10_cellOf_38 ?_
      refine z_goto (tgt := 44) dX10_cellOf_39 (by decide) ?_
      exact z_iret rfl dX10_cellOf_44 (zo_i ho9 (by first | (exfalso; omega) | simp [rCe, c_13, f_13, c_22, f_22])) (zo_h hh9 (by rfl)) (Nat.zero_le _) (Nat.zero_le _)
  · skip
    have f_13 := m_z_eq_f (by omega) c_13
    refine z_iload_n 4 dX10_cellOf_16 rfl rfl ?_
    refine z_iconst (v := nI 3) dX10_cellOf_17 (by decide) ?_
    refine z_icmp_ne (tgt := 45) dX10_cellOf_18 (by decide) (fun c_18 => ?_) (fun c_18 => ?_)
    · skip
      have f_18 := m_ne (by omega) (by omega) c_18
      refine z_aload_n 1 dX10_cellOf_45 rfl rfl ?_
      refine z_iload_n 3 dX10_cellOf_46 rfl rfl ?_
      refine z_callV (N := mX10_isWoven) 1 [.int (nI y)] [] lX10_isWoven ⟨zw_1324, zw_1326, zw_56⟩ rfl zgo_114 rfl rfl (Nat.le_of_ble_eq_true rfl) (by decide) ⟨zlt, zlt⟩ ⟨Nat.zero_le _, Nat.zero_le _⟩ (fun _ => rfl) (m_isWoven hG hM9 (nI y)) dX10_cellOf_47 ?_
      refine z_top (v2 := .int (zB (decide (y < w)))) (by rw [zIn_n (by omega) (by omega)]) ?_
      refine z_if_ne (tgt := 57) dX10_cellOf_50 (by decide) (fun c_50 => ?_) (fun c_50 => ?_)
      · skip
        have b_50 := zB_tt c_50
        have g_50 : y < w := of_decide_eq_true b_50
        refine z_iload_n 4 dX10_cellOf_57 rfl rfl ?_
        refine z_iconst (v := nI 1) dX10_cellOf_58 (by decide) ?_
        refine z_icmp_ne (tgt := 72) dX10_cellOf_59 (by decide) (fun c_59 => ?_) (fun c_59 => ?_)
        · skip
          have f_59 := m_ne (by omega) (by omega) c_59
          refine z_aload_n 1 dX10_cellOf_72 rfl rfl ?_
          refine z_iload_n 3 dX10_cellOf_73 rfl rfl ?_
          refine z_iload 0 dX10_cellOf_74 rfl ?_
          refine z_callV (N := mX10_yarn) 2 [.int (nI y), .int (nI (c - 1 - x))] [] lX10_yarn ⟨zw_1400, zw_1402, zw_72⟩ rfl zgo_114 rfl rfl (Nat.le_of_ble_eq_true rfl) (by decide) ⟨zlt, zlt⟩ ⟨Nat.zero_le _, Nat.zero_le _⟩ (fun _ => rfl) (m_yarn hG y (c - 1 - x) (by omega) (by omega)) dX10_cellOf_76 ?_
          exact z_iret rfl dX10_cellOf_79 (zo_i ho9 (by first | (exfalso; omega) | simp [rCe, c_13, f_13, c_18, f_18, b_50, g_50, c_59, f_59])) (zo_h hh9 (by rfl)) (Nat.zero_le _) (Nat.zero_le _)
        · skip
          have f_59 := m_eq (by omega) (by omega) c_59
          refine z_aload_n 1 dX10_cellOf_62 rfl rfl ?_
          refine z_iload_n 3 dX10_cellOf_63 rfl rfl ?_
          refine z_iload 0 dX10_cellOf_64 rfl ?_
          refine z_callV (N := mX10_woven) 2 [.int (nI y), .int (nI (c - 1 - x))] [] lX10_woven ⟨zw_1328, zw_1330, zw_57⟩ rfl zgo_114 rfl rfl (Nat.le_of_ble_eq_true rfl) (by decide) ⟨zlt, zlt⟩ ⟨Nat.zero_le _, Nat.zero_le _⟩ (fun _ => rfl) (m_woven hG y (c - 1 - x) (by omega) (by omega)) dX10_cellOf_66 ?_
          refine z_goto (tgt := 79) dX10_cellOf_69 (by decide) ?_
          exact z_iret rfl dX10_cellOf_79 (zo_i ho9 (by first | (exfalso; omega) | simp [rCe, c_13, f_13, c_18, f_18, b_50, g_50, c_59, f_59])) (zo_h hh9 (by rfl)) (Nat.zero_le _) (Nat.zero_le _)
      · skip
        have b_50 := zB_0.mp c_50
        have g_50 : ¬ y < w := of_decide_eq_false b_50
        refine z_iconst (v := (-1)) dX10_cellOf_53 (by decide) ?_
        refine z_goto (tgt := 79) dX10_cellOf_54 (by decide) ?_
        exact z_iret rfl dX10_cellOf_79 (zo_i ho9 (by first | (exfalso; omega) | simp [rCe, c_13, f_13, c_18, f_18, b_50, g_50])) (zo_h hh9 (by rfl)) (Nat.zero_le _) (Nat.zero_le _)
    · skip
      have f_18 := m_eq (by omega) (by omega) c_18
      refine z_iload_n 4 dX10_cellOf_21 rfl rfl ?_
      refine z_if_ne (tgt := 42) dX10_cellOf_22 (by decide) (fun c_22 => ?_) (fun c_22 => ?_)
      · skip
        have f_22 := m_z_ne_t (by omega) c_22
        refine z_iload 0 dX10_cellOf_42 rfl ?_
        exact z_iret rfl dX10_cellOf_44 (zo_i ho9 (by first | (exfalso; omega) | simp [rCe, c_13, f_13, c_18, f_18, c_22, f_22])) (zo_h hh9 (by rfl)) (Nat.zero_le _) (Nat.zero_le _)
      · skip
        have f_22 := m_z_ne_f (by omega) c_22
        refine z_aload_n 1 dX10_cellOf_25 rfl rfl ?_
        refine z_get (v := .ref 115) 0 zgo_114 rfl inX10 (by decide) zw_1178 rfl rfl dX10_cellOf_26 ?_
        refine z_bipush (v := nI 91) dX10_cellOf_29 (by decide) ?_
        refine z_bipush (v := nI 20) dX10_cellOf_31 (by decide) ?_
        refine z_iload_n 3 dX10_cellOf_33 rfl rfl ?_
        refine z_imulN (a := 20) (b := y) dX10_cellOf_34 ?_
        refine z_iaddN (a := 91) (b := 20 * y) dX10_cellOf_35 ?_
        refine z_iload_n 2 dX10_cellOf_36 rfl rfl ?_
        refine z_iaddN (a := 91 + 20 * y) (b := x) dX10_cellOf_37 ?_
        refine z_ialdN (f := s) (n := 1371) (j := 91 + 20 * y + x) zga_115 (by omega) (by decide) dX10_cellOf_38 ?_
        refine z_goto (tgt := 44) dX10_cellOf_39 (by decide) ?_
        exact z_iret rfl dX10_cellOf_44 (zo_i ho9 (by first | (exfalso; omega) | simp [rCe, c_13, f_13, c_18, f_18, c_22, f_22])) (zo_h hh9 (by rfl)) (Nat.zero_le _) (Nat.zero_le _)

set_option maxHeartbeats 4000000 in
set_option maxRecDepth 100000 in
theorem m_rowOf_0 {G : zT} {S : zS} {X : zXr} {out : Nat → Int64} {s : (Nat → Int32)} {past : (Nat → Int32)} {aside : (Nat → Int32)} {pasts : Nat} {txt : (Nat → Int32)} {typed : Nat} {thrown : Int32} {line : (Nat → Int32)} {need : (Nat → Int32)} {left : (Nat → Int32)} {slits : Nat} {slB : (Nat → Int32)} {slF : (Nat → Int32)} {slT : (Nat → Int32)} {at9 : Nat} {wd9 : Int32} {got : (Nat → Int32)} {ans : Int32} {worst : UInt32} (hG : zAl G = false) {c r w cnt lim : Nat} (hM : zMd s c r w cnt lim) (y : Nat) (hy : y < w) : zRun G mX10_rowOf 0 0 [.ref 114, .int (nI y), .int (nI 0)] (zHp S X (s, past, aside, pasts, txt, typed, thrown, line, need, left, slits, slB, slF, slT, at9, wd9, got, ans, worst) out) (.inr (some (.int (nI (zCt (rBeg (rW s y)) c))))) (zHp S X (s, past, aside, pasts, txt, typed, thrown, (zFl (rW s y) line c), need, left, slits, slB, slF, slT, at9, wd9, got, ans, worst) out) := by
  have hM9 := hM
  obtain ⟨h0, h1, h2, h3, h4, hc1, hc, hr1, hr, hw, hn, hl⟩ := hM
  refine zRun_of (by decide +kernel) rfl rfl (Nat.le_of_ble_eq_true rfl) ?_
  suffices hs : ∀ (o9 : zO) (h9 : zH), (Sum.inr (some (.int (nI (zCt (rBeg (rW s y)) c)))) : zO) = o9 → (zHp S X (s, past, aside, pasts, txt, typed, thrown, (zFl (rW s y) line c), need, left, slits, slB, slF, slT, at9, wd9, got, ans, worst) out) = h9 → zPW G mX10_rowOf 0 0 o9 h9 0 0 0 [(0, .ref 114), (1, .int (nI y)), (2, .int (nI 0))] [] (zHp S X (s, past, aside, pasts, txt, typed, thrown, line, need, left, slits, slB, slF, slT, at9, wd9, got, ans, worst) out) from hs _ _ rfl rfl
  intro o9 h9 ho9 hh9
  refine z_iload_n 2 dX10_rowOf_0 rfl rfl ?_
  refine z_tableIn (off := 31) (tgt := 32) dX10_rowOf_1 (by decide) (by decide) (by decide +kernel) (by decide) ?_
  refine z_aload_n 0 dX10_rowOf_32 rfl rfl ?_
  refine z_iload_n 1 dX10_rowOf_33 rfl rfl ?_
  refine z_callV (N := mX10_shuttles) 1 [.int (nI y)] [] lX10_shuttles ⟨zw_1436, zw_1438, zw_78⟩ rfl zgo_114 rfl rfl (Nat.le_of_ble_eq_true rfl) (by decide) ⟨zlt, zlt⟩ ⟨Nat.zero_le _, Nat.zero_le _⟩ zal (m_shuttles hG hM9 y (by omega)) dX10_rowOf_34 ?_
  refine z_top (v2 := .int (nI (zCt (rBeg (rW s y)) c))) (by exact congrArg (fun n => Value.int (nI n)) (zCt_cg (fun b hb => rBeg_fl hb))) ?_
  exact z_iret rfl dX10_rowOf_37 (zo_i ho9 (by rfl)) (zo_h hh9 (by rfl)) (Nat.zero_le _) (Nat.zero_le _)

set_option maxHeartbeats 4000000 in
set_option maxRecDepth 100000 in
theorem m_rowOf_1 {G : zT} {S : zS} {X : zXr} {out : Nat → Int64} {s : (Nat → Int32)} {past : (Nat → Int32)} {aside : (Nat → Int32)} {pasts : Nat} {txt : (Nat → Int32)} {typed : Nat} {thrown : Int32} {line : (Nat → Int32)} {need : (Nat → Int32)} {left : (Nat → Int32)} {slits : Nat} {slB : (Nat → Int32)} {slF : (Nat → Int32)} {slT : (Nat → Int32)} {at9 : Nat} {wd9 : Int32} {got : (Nat → Int32)} {ans : Int32} {worst : UInt32} (hG : zAl G = false) {c r w cnt lim : Nat} (hM : zMd s c r w cnt lim) (y : Nat) (hy : y < w) : zRun G mX10_rowOf 0 0 [.ref 114, .int (nI y), .int (nI 1)] (zHp S X (s, past, aside, pasts, txt, typed, thrown, line, need, left, slits, slB, slF, slT, at9, wd9, got, ans, worst) out) (.inr (some (.int (nI (rFre s (rW s y) c y))))) (zHp S X (s, past, aside, pasts, txt, typed, thrown, (zFl (rW s y) line c), need, left, slits, slB, slF, slT, at9, wd9, got, ans, worst) out) := by
  have hM9 := hM
  obtain ⟨h0, h1, h2, h3, h4, hc1, hc, hr1, hr, hw, hn, hl⟩ := hM
  refine zRun_of (by decide +kernel) rfl rfl (Nat.le_of_ble_eq_true rfl) ?_
  suffices hs : ∀ (o9 : zO) (h9 : zH), (Sum.inr (some (.int (nI (rFre s (rW s y) c y)))) : zO) = o9 → (zHp S X (s, past, aside, pasts, txt, typed, thrown, (zFl (rW s y) line c), need, left, slits, slB, slF, slT, at9, wd9, got, ans, worst) out) = h9 → zPW G mX10_rowOf 0 0 o9 h9 0 0 0 [(0, .ref 114), (1, .int (nI y)), (2, .int (nI 1))] [] (zHp S X (s, past, aside, pasts, txt, typed, thrown, line, need, left, slits, slB, slF, slT, at9, wd9, got, ans, worst) out) from hs _ _ rfl rfl
  intro o9 h9 ho9 hh9
  refine z_iload_n 2 dX10_rowOf_0 rfl rfl ?_
  refine z_tableIn (off := 37) (tgt := 38) dX10_rowOf_1 (by decide) (by decide) (by decide +kernel) (by decide) ?_
  refine z_aload_n 0 dX10_rowOf_38 rfl rfl ?_
  refine z_iload_n 1 dX10_rowOf_39 rfl rfl ?_
  refine z_callV (N := mX10_fresh) 1 [.int (nI y)] [] lX10_fresh ⟨zw_1448, zw_1450, zw_81⟩ rfl zgo_114 rfl rfl (Nat.le_of_ble_eq_true rfl) (by decide) ⟨zlt, zlt⟩ ⟨Nat.zero_le _, Nat.zero_le _⟩ zal (m_fresh hG hM9 y (by omega)) dX10_rowOf_40 ?_
  refine z_top (v2 := .int (nI (rFre s (rW s y) c y))) (by rw [rFre_fl]) ?_
  exact z_iret rfl dX10_rowOf_43 (zo_i ho9 (by rfl)) (zo_h hh9 (by rfl)) (Nat.zero_le _) (Nat.zero_le _)

set_option maxHeartbeats 4000000 in
set_option maxRecDepth 100000 in
theorem m_rowOf_2 {G : zT} {S : zS} {X : zXr} {out : Nat → Int64} {s : (Nat → Int32)} {past : (Nat → Int32)} {aside : (Nat → Int32)} {pasts : Nat} {txt : (Nat → Int32)} {typed : Nat} {thrown : Int32} {line : (Nat → Int32)} {need : (Nat → Int32)} {left : (Nat → Int32)} {slits : Nat} {slB : (Nat → Int32)} {slF : (Nat → Int32)} {slT : (Nat → Int32)} {at9 : Nat} {wd9 : Int32} {got : (Nat → Int32)} {ans : Int32} {worst : UInt32} (hG : zAl G = false) {c r w cnt lim : Nat} (hM : zMd s c r w cnt lim) (y : Nat) (hy : y < w) : zRun G mX10_rowOf 0 0 [.ref 114, .int (nI y), .int (nI 2)] (zHp S X (s, past, aside, pasts, txt, typed, thrown, line, need, left, slits, slB, slF, slT, at9, wd9, got, ans, worst) out) (.inr (some (.int (nI (zCt (fun b => !(rW s y b == rD s c y b)) c))))) (zHp S X (s, past, aside, pasts, txt, typed, thrown, line, need, left, slits, slB, slF, slT, at9, wd9, got, ans, worst) out) := by
  have hM9 := hM
  obtain ⟨h0, h1, h2, h3, h4, hc1, hc, hr1, hr, hw, hn, hl⟩ := hM
  refine zRun_of (by decide +kernel) rfl rfl (Nat.le_of_ble_eq_true rfl) ?_
  suffices hs : ∀ (o9 : zO) (h9 : zH), (Sum.inr (some (.int (nI (zCt (fun b => !(rW s y b == rD s c y b)) c)))) : zO) = o9 → (zHp S X (s, past, aside, pasts, txt, typed, thrown, line, need, left, slits, slB, slF, slT, at9, wd9, got, ans, worst) out) = h9 → zPW G mX10_rowOf 0 0 o9 h9 0 0 0 [(0, .ref 114), (1, .int (nI y)), (2, .int (nI 2))] [] (zHp S X (s, past, aside, pasts, txt, typed, thrown, line, need, left, slits, slB, slF, slT, at9, wd9, got, ans, worst) out) from hs _ _ rfl rfl
  intro o9 h9 ho9 hh9
  refine z_iload_n 2 dX10_rowOf_0 rfl rfl ?_
  refine z_tableIn (off := 43) (tgt := 44) dX10_rowOf_1 (by decide) (by decide) (by decide +kernel) (by decide) ?_
  refine z_aload_n 0 dX10_rowOf_44 rfl rfl ?_
  refine z_iload_n 1 dX10_rowOf_45 rfl rfl ?_
  refine z_callV (N := mX10_wrong) 1 [.int (nI y)] [] lX10_wrong ⟨zw_1452, zw_1454, zw_82⟩ rfl zgo_114 rfl rfl (Nat.le_of_ble_eq_true rfl) (by decide) ⟨zlt, zlt⟩ ⟨Nat.zero_le _, Nat.zero_le _⟩ (fun _ => rfl) (m_wrong hG hM9 y (by omega)) dX10_rowOf_46 ?_
  exact z_iret rfl dX10_rowOf_49 (zo_i ho9 (by rfl)) (zo_h hh9 (by rfl)) (Nat.zero_le _) (Nat.zero_le _)

set_option maxHeartbeats 4000000 in
set_option maxRecDepth 100000 in
theorem m_rowOf_3 {G : zT} {S : zS} {X : zXr} {out : Nat → Int64} {s : (Nat → Int32)} {past : (Nat → Int32)} {aside : (Nat → Int32)} {pasts : Nat} {txt : (Nat → Int32)} {typed : Nat} {thrown : Int32} {line : (Nat → Int32)} {need : (Nat → Int32)} {left : (Nat → Int32)} {slits : Nat} {slB : (Nat → Int32)} {slF : (Nat → Int32)} {slT : (Nat → Int32)} {at9 : Nat} {wd9 : Int32} {got : (Nat → Int32)} {ans : Int32} {worst : UInt32} (hG : zAl G = false) {c r w cnt lim : Nat} (hM : zMd s c r w cnt lim) (y : Nat) (hy : y < w) : zRun G mX10_rowOf 0 0 [.ref 114, .int (nI y), .int (nI 3)] (zHp S X (s, past, aside, pasts, txt, typed, thrown, line, need, left, slits, slB, slF, slT, at9, wd9, got, ans, worst) out) (.inr (some (.int (nI (c + zCt (rBeg (rW s y)) c))))) (zHp S X (s, past, aside, pasts, txt, typed, thrown, (zFl (rW s y) line c), need, left, slits, slB, slF, slT, at9, wd9, got, ans, worst) out) := by
  have hM9 := hM
  obtain ⟨h0, h1, h2, h3, h4, hc1, hc, hr1, hr, hw, hn, hl⟩ := hM
  refine zRun_of (by decide +kernel) rfl rfl (Nat.le_of_ble_eq_true rfl) ?_
  suffices hs : ∀ (o9 : zO) (h9 : zH), (Sum.inr (some (.int (nI (c + zCt (rBeg (rW s y)) c)))) : zO) = o9 → (zHp S X (s, past, aside, pasts, txt, typed, thrown, (zFl (rW s y) line c), need, left, slits, slB, slF, slT, at9, wd9, got, ans, worst) out) = h9 → zPW G mX10_rowOf 0 0 o9 h9 0 0 0 [(0, .ref 114), (1, .int (nI y)), (2, .int (nI 3))] [] (zHp S X (s, past, aside, pasts, txt, typed, thrown, line, need, left, slits, slB, slF, slT, at9, wd9, got, ans, worst) out) from hs _ _ rfl rfl
  intro o9 h9 ho9 hh9
  refine z_iload_n 2 dX10_rowOf_0 rfl rfl ?_
  refine z_tableIn (off := 49) (tgt := 50) dX10_rowOf_1 (by decide) (by decide) (by decide +kernel) (by decide) ?_
  refine z_aload_n 0 dX10_rowOf_50 rfl rfl ?_
  refine z_get (v := .ref 115) 0 zgo_114 rfl inX10 (by decide) zw_1178 rfl rfl dX10_rowOf_51 ?_
  refine z_iconst (v := nI 0) dX10_rowOf_54 (by decide) ?_
  refine z_ialdN (f := s) (n := 1371) (j := 0) zga_115 (by omega) (by decide) dX10_rowOf_55 ?_
  refine z_top (v2 := .int (nI c)) (by rw [h0]) ?_
  refine z_aload_n 0 dX10_rowOf_56 rfl rfl ?_
  refine z_iload_n 1 dX10_rowOf_57 rfl rfl ?_
  refine z_callV (N := mX10_shuttles) 1 [.int (nI y)] [.int (nI c)] lX10_shuttles ⟨zw_1436, zw_1438, zw_78⟩ rfl zgo_114 rfl rfl (Nat.le_of_ble_eq_true rfl) (by decide) ⟨zlt, zlt⟩ ⟨Nat.zero_le _, Nat.zero_le _⟩ zal (m_shuttles hG hM9 y (by omega)) dX10_rowOf_58 ?_
  refine z_top (v2 := .int (nI (zCt (rBeg (rW s y)) c))) (by exact congrArg (fun n => Value.int (nI n)) (zCt_cg (fun b hb => rBeg_fl hb))) ?_
  refine z_iaddN (a := c) (b := zCt (rBeg (rW s y)) c) dX10_rowOf_61 ?_
  exact z_iret rfl dX10_rowOf_62 (zo_i ho9 (by rfl)) (zo_h hh9 (by rfl)) (Nat.zero_le _) (Nat.zero_le _)

set_option maxHeartbeats 4000000 in
set_option maxRecDepth 100000 in
theorem m_rowOf_4 {G : zT} {S : zS} {X : zXr} {out : Nat → Int64} {s : (Nat → Int32)} {past : (Nat → Int32)} {aside : (Nat → Int32)} {pasts : Nat} {txt : (Nat → Int32)} {typed : Nat} {thrown : Int32} {line : (Nat → Int32)} {need : (Nat → Int32)} {left : (Nat → Int32)} {slits : Nat} {slB : (Nat → Int32)} {slF : (Nat → Int32)} {slT : (Nat → Int32)} {at9 : Nat} {wd9 : Int32} {got : (Nat → Int32)} {ans : Int32} {worst : UInt32} (hG : zAl G = false) {c r w cnt lim : Nat} (hM : zMd s c r w cnt lim) (y : Nat) (hy : y < w) : zRun G mX10_rowOf 0 0 [.ref 114, .int (nI y), .int (nI 4)] (zHp S X (s, past, aside, pasts, txt, typed, thrown, line, need, left, slits, slB, slF, slT, at9, wd9, got, ans, worst) out) (.inr (some (.int (nI (zCt (fun l => rAny (fun b => rY s y b == nI l) c) cnt))))) (zHp S X (s, past, aside, pasts, txt, typed, thrown, line, need, left, slits, slB, slF, slT, at9, wd9, got, ans, worst) out) := by
  have hM9 := hM
  obtain ⟨h0, h1, h2, h3, h4, hc1, hc, hr1, hr, hw, hn, hl⟩ := hM
  refine zRun_of (by decide +kernel) rfl rfl (Nat.le_of_ble_eq_true rfl) ?_
  suffices hs : ∀ (o9 : zO) (h9 : zH), (Sum.inr (some (.int (nI (zCt (fun l => rAny (fun b => rY s y b == nI l) c) cnt)))) : zO) = o9 → (zHp S X (s, past, aside, pasts, txt, typed, thrown, line, need, left, slits, slB, slF, slT, at9, wd9, got, ans, worst) out) = h9 → zPW G mX10_rowOf 0 0 o9 h9 0 0 0 [(0, .ref 114), (1, .int (nI y)), (2, .int (nI 4))] [] (zHp S X (s, past, aside, pasts, txt, typed, thrown, line, need, left, slits, slB, slF, slT, at9, wd9, got, ans, worst) out) from hs _ _ rfl rfl
  intro o9 h9 ho9 hh9
  refine z_iload_n 2 dX10_rowOf_0 rfl rfl ?_
  refine z_tableOut (tgt := 63) dX10_rowOf_1 (by decide) (by decide) ?_
  refine z_aload_n 0 dX10_rowOf_63 rfl rfl ?_
  refine z_iload_n 1 dX10_rowOf_64 rfl rfl ?_
  refine z_callV (N := mX10_lotsIn) 1 [.int (nI y)] [] lX10_lotsIn ⟨zw_1456, zw_1458, zw_83⟩ rfl zgo_114 rfl rfl (Nat.le_of_ble_eq_true rfl) (by decide) ⟨zlt, zlt⟩ ⟨Nat.zero_le _, Nat.zero_le _⟩ (fun _ => rfl) (m_lotsIn hG hM9 y (by omega)) dX10_rowOf_65 ?_
  exact z_iret rfl dX10_rowOf_68 (zo_i ho9 (by rfl)) (zo_h hh9 (by rfl)) (Nat.zero_le _) (Nat.zero_le _)

theorem m_rowOf {G : zT} {S : zS} {X : zXr} {out : Nat → Int64} {s : (Nat → Int32)} {past : (Nat → Int32)} {aside : (Nat → Int32)} {pasts : Nat} {txt : (Nat → Int32)} {typed : Nat} {thrown : Int32} {line : (Nat → Int32)} {need : (Nat → Int32)} {left : (Nat → Int32)} {slits : Nat} {slB : (Nat → Int32)} {slF : (Nat → Int32)} {slT : (Nat → Int32)} {at9 : Nat} {wd9 : Int32} {got : (Nat → Int32)} {ans : Int32} {worst : UInt32} (hG : zAl G = false) {c r w cnt lim : Nat} (hM : zMd s c r w cnt lim) (y : Nat) (hy : y < w) (t : Nat) (ht : t ≤ 4) : zRun G mX10_rowOf 0 0 [.ref 114, .int (nI y), .int (nI t)] (zHp S X (s, past, aside, pasts, txt, typed, thrown, line, need, left, slits, slB, slF, slT, at9, wd9, got, ans, worst) out) (.inr (some (.int (rRo s c cnt y t)))) (zHp S X (s, past, aside, pasts, txt, typed, thrown, (rRoL s c y t line), need, left, slits, slB, slF, slT, at9, wd9, got, ans, worst) out) := by
  rcases (show t = 0 ∨ t = 1 ∨ t = 2 ∨ t = 3 ∨ t = 4 by omega) with rfl | rfl | rfl | rfl | rfl
  · exact m_rowOf_0 hG hM y hy
  · exact m_rowOf_1 hG hM y hy
  · exact m_rowOf_2 hG hM y hy
  · exact m_rowOf_3 hG hM y hy
  · exact m_rowOf_4 hG hM y hy

set_option maxHeartbeats 4000000 in
set_option maxRecDepth 100000 in
theorem m_lotOf_0 {G : zT} {S : zS} {X : zXr} {out : Nat → Int64} {s : (Nat → Int32)} {past : (Nat → Int32)} {aside : (Nat → Int32)} {pasts : Nat} {txt : (Nat → Int32)} {typed : Nat} {thrown : Int32} {line : (Nat → Int32)} {need : (Nat → Int32)} {left : (Nat → Int32)} {slits : Nat} {slB : (Nat → Int32)} {slF : (Nat → Int32)} {slT : (Nat → Int32)} {at9 : Nat} {wd9 : Int32} {got : (Nat → Int32)} {ans : Int32} {worst : UInt32} (hG : zAl G = false) {c r w cnt lim : Nat} (hM : zMd s c r w cnt lim) (l : Nat) (hl9 : l < cnt) : zRun G mX10_lotOf 0 0 [.ref 114, .int (nI l), .int (nI 0)] (zHp S X (s, past, aside, pasts, txt, typed, thrown, line, need, left, slits, slB, slF, slT, at9, wd9, got, ans, worst) out) (.inr (some (.int (s (7 + 4 * l + 0))))) (zHp S X (s, past, aside, pasts, txt, typed, thrown, line, need, left, slits, slB, slF, slT, at9, wd9, got, ans, worst) out) := by
  have hM9 := hM
  obtain ⟨h0, h1, h2, h3, h4, hc1, hc, hr1, hr, hw, hn, hl⟩ := hM
  refine zRun_of (by decide +kernel) rfl rfl (Nat.le_of_ble_eq_true rfl) ?_
  suffices hs : ∀ (o9 : zO) (h9 : zH), (Sum.inr (some (.int (s (7 + 4 * l + 0)))) : zO) = o9 → (zHp S X (s, past, aside, pasts, txt, typed, thrown, line, need, left, slits, slB, slF, slT, at9, wd9, got, ans, worst) out) = h9 → zPW G mX10_lotOf 0 0 o9 h9 0 0 0 [(0, .ref 114), (1, .int (nI l)), (2, .int (nI 0))] [] (zHp S X (s, past, aside, pasts, txt, typed, thrown, line, need, left, slits, slB, slF, slT, at9, wd9, got, ans, worst) out) from hs _ _ rfl rfl
  intro o9 h9 ho9 hh9
  refine z_iload_n 2 dX10_lotOf_0 rfl rfl ?_
  refine z_iconst (v := nI 4) dX10_lotOf_1 (by decide) ?_
  refine z_icmp_ge (tgt := 12) dX10_lotOf_2 (by decide) (fun c_2 => ?_) (fun c_2 => ?_)
  · exfalso; revert c_2; decide
  · skip
    have f_2 := m_nle (by omega) (by omega) c_2
    refine z_aload_n 0 dX10_lotOf_5 rfl rfl ?_
    refine z_iload_n 1 dX10_lotOf_6 rfl rfl ?_
    refine z_iload_n 2 dX10_lotOf_7 rfl rfl ?_
    refine z_callV (N := mX10_its) 2 [.int (nI l), .int (nI 0)] [] lX10_its ⟨zw_1380, zw_1382, zw_68⟩ rfl zgo_114 rfl rfl (Nat.le_of_ble_eq_true rfl) (by decide) ⟨zlt, zlt⟩ ⟨Nat.zero_le _, Nat.zero_le _⟩ (fun _ => rfl) (m_itsN hG l 0 (by omega) (by omega)) dX10_lotOf_8 ?_
    refine z_top (v2 := .int (s (7 + 4 * l))) (by rfl) ?_
    exact z_iret rfl dX10_lotOf_11 (zo_i ho9 (by rfl)) (zo_h hh9 (by rfl)) (Nat.zero_le _) (Nat.zero_le _)

set_option maxHeartbeats 4000000 in
set_option maxRecDepth 100000 in
theorem m_lotOf_1 {G : zT} {S : zS} {X : zXr} {out : Nat → Int64} {s : (Nat → Int32)} {past : (Nat → Int32)} {aside : (Nat → Int32)} {pasts : Nat} {txt : (Nat → Int32)} {typed : Nat} {thrown : Int32} {line : (Nat → Int32)} {need : (Nat → Int32)} {left : (Nat → Int32)} {slits : Nat} {slB : (Nat → Int32)} {slF : (Nat → Int32)} {slT : (Nat → Int32)} {at9 : Nat} {wd9 : Int32} {got : (Nat → Int32)} {ans : Int32} {worst : UInt32} (hG : zAl G = false) {c r w cnt lim : Nat} (hM : zMd s c r w cnt lim) (l : Nat) (hl9 : l < cnt) : zRun G mX10_lotOf 0 0 [.ref 114, .int (nI l), .int (nI 1)] (zHp S X (s, past, aside, pasts, txt, typed, thrown, line, need, left, slits, slB, slF, slT, at9, wd9, got, ans, worst) out) (.inr (some (.int (s (7 + 4 * l + 1))))) (zHp S X (s, past, aside, pasts, txt, typed, thrown, line, need, left, slits, slB, slF, slT, at9, wd9, got, ans, worst) out) := by
  have hM9 := hM
  obtain ⟨h0, h1, h2, h3, h4, hc1, hc, hr1, hr, hw, hn, hl⟩ := hM
  refine zRun_of (by decide +kernel) rfl rfl (Nat.le_of_ble_eq_true rfl) ?_
  suffices hs : ∀ (o9 : zO) (h9 : zH), (Sum.inr (some (.int (s (7 + 4 * l + 1)))) : zO) = o9 → (zHp S X (s, past, aside, pasts, txt, typed, thrown, line, need, left, slits, slB, slF, slT, at9, wd9, got, ans, worst) out) = h9 → zPW G mX10_lotOf 0 0 o9 h9 0 0 0 [(0, .ref 114), (1, .int (nI l)), (2, .int (nI 1))] [] (zHp S X (s, past, aside, pasts, txt, typed, thrown, line, need, left, slits, slB, slF, slT, at9, wd9, got, ans, worst) out) from hs _ _ rfl rfl
  intro o9 h9 ho9 hh9
  refine z_iload_n 2 dX10_lotOf_0 rfl rfl ?_
  refine z_iconst (v := nI 4) dX10_lotOf_1 (by decide) ?_
  refine z_icmp_ge (tgt := 12) dX10_lotOf_2 (by decide) (fun c_2 => ?_) (fun c_2 => ?_)
  · exfalso; revert c_2; decide
  · skip
    have f_2 := m_nle (by omega) (by omega) c_2
    refine z_aload_n 0 dX10_lotOf_5 rfl rfl ?_
    refine z_iload_n 1 dX10_lotOf_6 rfl rfl ?_
    refine z_iload_n 2 dX10_lotOf_7 rfl rfl ?_
    refine z_callV (N := mX10_its) 2 [.int (nI l), .int (nI 1)] [] lX10_its ⟨zw_1380, zw_1382, zw_68⟩ rfl zgo_114 rfl rfl (Nat.le_of_ble_eq_true rfl) (by decide) ⟨zlt, zlt⟩ ⟨Nat.zero_le _, Nat.zero_le _⟩ (fun _ => rfl) (m_itsN hG l 1 (by omega) (by omega)) dX10_lotOf_8 ?_
    exact z_iret rfl dX10_lotOf_11 (zo_i ho9 (by rfl)) (zo_h hh9 (by rfl)) (Nat.zero_le _) (Nat.zero_le _)

set_option maxHeartbeats 4000000 in
set_option maxRecDepth 100000 in
theorem m_lotOf_2 {G : zT} {S : zS} {X : zXr} {out : Nat → Int64} {s : (Nat → Int32)} {past : (Nat → Int32)} {aside : (Nat → Int32)} {pasts : Nat} {txt : (Nat → Int32)} {typed : Nat} {thrown : Int32} {line : (Nat → Int32)} {need : (Nat → Int32)} {left : (Nat → Int32)} {slits : Nat} {slB : (Nat → Int32)} {slF : (Nat → Int32)} {slT : (Nat → Int32)} {at9 : Nat} {wd9 : Int32} {got : (Nat → Int32)} {ans : Int32} {worst : UInt32} (hG : zAl G = false) {c r w cnt lim : Nat} (hM : zMd s c r w cnt lim) (l : Nat) (hl9 : l < cnt) : zRun G mX10_lotOf 0 0 [.ref 114, .int (nI l), .int (nI 2)] (zHp S X (s, past, aside, pasts, txt, typed, thrown, line, need, left, slits, slB, slF, slT, at9, wd9, got, ans, worst) out) (.inr (some (.int (s (7 + 4 * l + 2))))) (zHp S X (s, past, aside, pasts, txt, typed, thrown, line, need, left, slits, slB, slF, slT, at9, wd9, got, ans, worst) out) := by
  have hM9 := hM
  obtain ⟨h0, h1, h2, h3, h4, hc1, hc, hr1, hr, hw, hn, hl⟩ := hM
  refine zRun_of (by decide +kernel) rfl rfl (Nat.le_of_ble_eq_true rfl) ?_
  suffices hs : ∀ (o9 : zO) (h9 : zH), (Sum.inr (some (.int (s (7 + 4 * l + 2)))) : zO) = o9 → (zHp S X (s, past, aside, pasts, txt, typed, thrown, line, need, left, slits, slB, slF, slT, at9, wd9, got, ans, worst) out) = h9 → zPW G mX10_lotOf 0 0 o9 h9 0 0 0 [(0, .ref 114), (1, .int (nI l)), (2, .int (nI 2))] [] (zHp S X (s, past, aside, pasts, txt, typed, thrown, line, need, left, slits, slB, slF, slT, at9, wd9, got, ans, worst) out) from hs _ _ rfl rfl
  intro o9 h9 ho9 hh9
  refine z_iload_n 2 dX10_lotOf_0 rfl rfl ?_
  refine z_iconst (v := nI 4) dX10_lotOf_1 (by decide) ?_
  refine z_icmp_ge (tgt := 12) dX10_lotOf_2 (by decide) (fun c_2 => ?_) (fun c_2 => ?_)
  · exfalso; revert c_2; decide
  · skip
    have f_2 := m_nle (by omega) (by omega) c_2
    refine z_aload_n 0 dX10_lotOf_5 rfl rfl ?_
    refine z_iload_n 1 dX10_lotOf_6 rfl rfl ?_
    refine z_iload_n 2 dX10_lotOf_7 rfl rfl ?_
    refine z_callV (N := mX10_its) 2 [.int (nI l), .int (nI 2)] [] lX10_its ⟨zw_1380, zw_1382, zw_68⟩ rfl zgo_114 rfl rfl (Nat.le_of_ble_eq_true rfl) (by decide) ⟨zlt, zlt⟩ ⟨Nat.zero_le _, Nat.zero_le _⟩ (fun _ => rfl) (m_itsN hG l 2 (by omega) (by omega)) dX10_lotOf_8 ?_
    exact z_iret rfl dX10_lotOf_11 (zo_i ho9 (by rfl)) (zo_h hh9 (by rfl)) (Nat.zero_le _) (Nat.zero_le _)

set_option maxHeartbeats 4000000 in
set_option maxRecDepth 100000 in
theorem m_lotOf_3 {G : zT} {S : zS} {X : zXr} {out : Nat → Int64} {s : (Nat → Int32)} {past : (Nat → Int32)} {aside : (Nat → Int32)} {pasts : Nat} {txt : (Nat → Int32)} {typed : Nat} {thrown : Int32} {line : (Nat → Int32)} {need : (Nat → Int32)} {left : (Nat → Int32)} {slits : Nat} {slB : (Nat → Int32)} {slF : (Nat → Int32)} {slT : (Nat → Int32)} {at9 : Nat} {wd9 : Int32} {got : (Nat → Int32)} {ans : Int32} {worst : UInt32} (hG : zAl G = false) {c r w cnt lim : Nat} (hM : zMd s c r w cnt lim) (l : Nat) (hl9 : l < cnt) : zRun G mX10_lotOf 0 0 [.ref 114, .int (nI l), .int (nI 3)] (zHp S X (s, past, aside, pasts, txt, typed, thrown, line, need, left, slits, slB, slF, slT, at9, wd9, got, ans, worst) out) (.inr (some (.int (s (7 + 4 * l + 3))))) (zHp S X (s, past, aside, pasts, txt, typed, thrown, line, need, left, slits, slB, slF, slT, at9, wd9, got, ans, worst) out) := by
  have hM9 := hM
  obtain ⟨h0, h1, h2, h3, h4, hc1, hc, hr1, hr, hw, hn, hl⟩ := hM
  refine zRun_of (by decide +kernel) rfl rfl (Nat.le_of_ble_eq_true rfl) ?_
  suffices hs : ∀ (o9 : zO) (h9 : zH), (Sum.inr (some (.int (s (7 + 4 * l + 3)))) : zO) = o9 → (zHp S X (s, past, aside, pasts, txt, typed, thrown, line, need, left, slits, slB, slF, slT, at9, wd9, got, ans, worst) out) = h9 → zPW G mX10_lotOf 0 0 o9 h9 0 0 0 [(0, .ref 114), (1, .int (nI l)), (2, .int (nI 3))] [] (zHp S X (s, past, aside, pasts, txt, typed, thrown, line, need, left, slits, slB, slF, slT, at9, wd9, got, ans, worst) out) from hs _ _ rfl rfl
  intro o9 h9 ho9 hh9
  refine z_iload_n 2 dX10_lotOf_0 rfl rfl ?_
  refine z_iconst (v := nI 4) dX10_lotOf_1 (by decide) ?_
  refine z_icmp_ge (tgt := 12) dX10_lotOf_2 (by decide) (fun c_2 => ?_) (fun c_2 => ?_)
  · exfalso; revert c_2; decide
  · skip
    have f_2 := m_nle (by omega) (by omega) c_2
    refine z_aload_n 0 dX10_lotOf_5 rfl rfl ?_
    refine z_iload_n 1 dX10_lotOf_6 rfl rfl ?_
    refine z_iload_n 2 dX10_lotOf_7 rfl rfl ?_
    refine z_callV (N := mX10_its) 2 [.int (nI l), .int (nI 3)] [] lX10_its ⟨zw_1380, zw_1382, zw_68⟩ rfl zgo_114 rfl rfl (Nat.le_of_ble_eq_true rfl) (by decide) ⟨zlt, zlt⟩ ⟨Nat.zero_le _, Nat.zero_le _⟩ (fun _ => rfl) (m_itsN hG l 3 (by omega) (by omega)) dX10_lotOf_8 ?_
    exact z_iret rfl dX10_lotOf_11 (zo_i ho9 (by rfl)) (zo_h hh9 (by rfl)) (Nat.zero_le _) (Nat.zero_le _)

set_option maxHeartbeats 4000000 in
set_option maxRecDepth 100000 in
theorem m_lotOf_4 {G : zT} {S : zS} {X : zXr} {out : Nat → Int64} {s : (Nat → Int32)} {past : (Nat → Int32)} {aside : (Nat → Int32)} {pasts : Nat} {txt : (Nat → Int32)} {typed : Nat} {thrown : Int32} {line : (Nat → Int32)} {need : (Nat → Int32)} {left : (Nat → Int32)} {slits : Nat} {slB : (Nat → Int32)} {slF : (Nat → Int32)} {slT : (Nat → Int32)} {at9 : Nat} {wd9 : Int32} {got : (Nat → Int32)} {ans : Int32} {worst : UInt32} (hG : zAl G = false) {c r w cnt lim : Nat} (hM : zMd s c r w cnt lim) (l : Nat) (hl9 : l < cnt) : zRun G mX10_lotOf 0 0 [.ref 114, .int (nI l), .int (nI 4)] (zHp S X (s, past, aside, pasts, txt, typed, thrown, line, need, left, slits, slB, slF, slT, at9, wd9, got, ans, worst) out) (.inr (some (.int (nI (zSN (fun y => zCt (fun b => rY s y b == nI l) c) w))))) (zHp S X (s, past, aside, pasts, txt, typed, thrown, line, need, left, slits, slB, slF, slT, at9, wd9, got, ans, worst) out) := by
  have hM9 := hM
  obtain ⟨h0, h1, h2, h3, h4, hc1, hc, hr1, hr, hw, hn, hl⟩ := hM
  refine zRun_of (by decide +kernel) rfl rfl (Nat.le_of_ble_eq_true rfl) ?_
  suffices hs : ∀ (o9 : zO) (h9 : zH), (Sum.inr (some (.int (nI (zSN (fun y => zCt (fun b => rY s y b == nI l) c) w)))) : zO) = o9 → (zHp S X (s, past, aside, pasts, txt, typed, thrown, line, need, left, slits, slB, slF, slT, at9, wd9, got, ans, worst) out) = h9 → zPW G mX10_lotOf 0 0 o9 h9 0 0 0 [(0, .ref 114), (1, .int (nI l)), (2, .int (nI 4))] [] (zHp S X (s, past, aside, pasts, txt, typed, thrown, line, need, left, slits, slB, slF, slT, at9, wd9, got, ans, worst) out) from hs _ _ rfl rfl
  intro o9 h9 ho9 hh9
  refine z_iload_n 2 dX10_lotOf_0 rfl rfl ?_
  refine z_iconst (v := nI 4) dX10_lotOf_1 (by decide) ?_
  refine z_icmp_ge (tgt := 12) dX10_lotOf_2 (by decide) (fun c_2 => ?_) (fun c_2 => ?_)
  · skip
    have f_2 := m_le (by omega) (by omega) c_2
    refine z_iload_n 2 dX10_lotOf_12 rfl rfl ?_
    refine z_iconst (v := nI 4) dX10_lotOf_13 (by decide) ?_
    refine z_icmp_ne (tgt := 25) dX10_lotOf_14 (by decide) (fun c_14 => ?_) (fun c_14 => ?_)
    · exfalso; revert c_14; decide
    · skip
      have f_14 := m_eq (by omega) (by omega) c_14
      refine z_aload_n 0 dX10_lotOf_17 rfl rfl ?_
      refine z_iload_n 1 dX10_lotOf_18 rfl rfl ?_
      refine z_callV (N := mX10_cellsWith) 1 [.int (nI l)] [] lX10_cellsWith ⟨zw_1468, zw_1470, zw_85⟩ rfl zgo_114 rfl rfl (Nat.le_of_ble_eq_true rfl) (by decide) ⟨zlt, zlt⟩ ⟨Nat.zero_le _, Nat.zero_le _⟩ (fun _ => rfl) (m_cellsWith hG hM9 (nI l)) dX10_lotOf_19 ?_
      refine z_goto (tgt := 44) dX10_lotOf_22 (by decide) ?_
      exact z_iret rfl dX10_lotOf_44 (zo_i ho9 (by rfl)) (zo_h hh9 (by rfl)) (Nat.zero_le _) (Nat.zero_le _)
  · exfalso; revert c_2; decide

set_option maxHeartbeats 4000000 in
set_option maxRecDepth 100000 in
theorem m_lotOf_5 {G : zT} {S : zS} {X : zXr} {out : Nat → Int64} {s : (Nat → Int32)} {past : (Nat → Int32)} {aside : (Nat → Int32)} {pasts : Nat} {txt : (Nat → Int32)} {typed : Nat} {thrown : Int32} {line : (Nat → Int32)} {need : (Nat → Int32)} {left : (Nat → Int32)} {slits : Nat} {slB : (Nat → Int32)} {slF : (Nat → Int32)} {slT : (Nat → Int32)} {at9 : Nat} {wd9 : Int32} {got : (Nat → Int32)} {ans : Int32} {worst : UInt32} (hG : zAl G = false) {c r w cnt lim : Nat} (hM : zMd s c r w cnt lim) (l : Nat) (hl9 : l < cnt) : zRun G mX10_lotOf 0 0 [.ref 114, .int (nI l), .int (nI 5)] (zHp S X (s, past, aside, pasts, txt, typed, thrown, line, need, left, slits, slB, slF, slT, at9, wd9, got, ans, worst) out) (.inr (some (.int ((if rIu s (s (7 + 4 * l)) 0 cnt = nI l then nI 1 else nI 0))))) (zHp S X (s, past, aside, pasts, txt, typed, thrown, line, need, left, slits, slB, slF, slT, at9, wd9, got, ans, worst) out) := by
  have hM9 := hM
  obtain ⟨h0, h1, h2, h3, h4, hc1, hc, hr1, hr, hw, hn, hl⟩ := hM
  refine zRun_of (by decide +kernel) rfl rfl (Nat.le_of_ble_eq_true rfl) ?_
  suffices hs : ∀ (o9 : zO) (h9 : zH), (Sum.inr (some (.int ((if rIu s (s (7 + 4 * l)) 0 cnt = nI l then nI 1 else nI 0)))) : zO) = o9 → (zHp S X (s, past, aside, pasts, txt, typed, thrown, line, need, left, slits, slB, slF, slT, at9, wd9, got, ans, worst) out) = h9 → zPW G mX10_lotOf 0 0 o9 h9 0 0 0 [(0, .ref 114), (1, .int (nI l)), (2, .int (nI 5))] [] (zHp S X (s, past, aside, pasts, txt, typed, thrown, line, need, left, slits, slB, slF, slT, at9, wd9, got, ans, worst) out) from hs _ _ rfl rfl
  intro o9 h9 ho9 hh9
  refine z_iload_n 2 dX10_lotOf_0 rfl rfl ?_
  refine z_iconst (v := nI 4) dX10_lotOf_1 (by decide) ?_
  refine z_icmp_ge (tgt := 12) dX10_lotOf_2 (by decide) (fun c_2 => ?_) (fun c_2 => ?_)
  · skip
    have f_2 := m_le (by omega) (by omega) c_2
    refine z_iload_n 2 dX10_lotOf_12 rfl rfl ?_
    refine z_iconst (v := nI 4) dX10_lotOf_13 (by decide) ?_
    refine z_icmp_ne (tgt := 25) dX10_lotOf_14 (by decide) (fun c_14 => ?_) (fun c_14 => ?_)
    · skip
      have f_14 := m_ne (by omega) (by omega) c_14
      refine z_aload_n 0 dX10_lotOf_25 rfl rfl ?_
      refine z_aload_n 0 dX10_lotOf_26 rfl rfl ?_
      refine z_iload_n 1 dX10_lotOf_27 rfl rfl ?_
      refine z_iconst (v := nI 0) dX10_lotOf_28 (by decide) ?_
      refine z_callV (N := mX10_its) 2 [.int (nI l), .int (nI 0)] [.ref 114] lX10_its ⟨zw_1380, zw_1382, zw_68⟩ rfl zgo_114 rfl rfl (Nat.le_of_ble_eq_true rfl) (by decide) ⟨zlt, zlt⟩ ⟨Nat.zero_le _, Nat.zero_le _⟩ (fun _ => rfl) (m_itsN hG l 0 (by omega) (by omega)) dX10_lotOf_29 ?_
      refine z_top (v2 := .int (s (7 + 4 * l))) (by rfl) ?_
      refine z_callV (N := mX10_inUse) 1 [.int (s (7 + 4 * l))] [] lX10_inUse ⟨zw_1388, zw_1390, zw_70⟩ rfl zgo_114 rfl rfl (Nat.le_of_ble_eq_true rfl) (by decide) ⟨zlt, zlt⟩ ⟨Nat.zero_le _, Nat.zero_le _⟩ (fun _ => rfl) (m_inUse hG hM9 (s (7 + 4 * l))) dX10_lotOf_32 ?_
      refine z_iload_n 1 dX10_lotOf_35 rfl rfl ?_
      refine z_icmp_ne (tgt := 43) dX10_lotOf_36 (by decide) (fun c_36 => ?_) (fun c_36 => ?_)
      · skip
        refine z_iconst (v := nI 0) dX10_lotOf_43 (by decide) ?_
        exact z_iret rfl dX10_lotOf_44 (zo_i ho9 (by simp [c_2, f_2, c_14, f_14, c_36])) (zo_h hh9 (by rfl)) (Nat.zero_le _) (Nat.zero_le _)
      · skip
        refine z_iconst (v := nI 1) dX10_lotOf_39 (by decide) ?_
        refine z_goto (tgt := 44) dX10_lotOf_40 (by decide) ?_
        exact z_iret rfl dX10_lotOf_44 (zo_i ho9 (by simp [c_2, f_2, c_14, f_14, c_36])) (zo_h hh9 (by rfl)) (Nat.zero_le _) (Nat.zero_le _)
    · exfalso; revert c_14; decide
  · exfalso; revert c_2; decide

theorem m_lotOf {G : zT} {S : zS} {X : zXr} {out : Nat → Int64} {s : (Nat → Int32)} {past : (Nat → Int32)} {aside : (Nat → Int32)} {pasts : Nat} {txt : (Nat → Int32)} {typed : Nat} {thrown : Int32} {line : (Nat → Int32)} {need : (Nat → Int32)} {left : (Nat → Int32)} {slits : Nat} {slB : (Nat → Int32)} {slF : (Nat → Int32)} {slT : (Nat → Int32)} {at9 : Nat} {wd9 : Int32} {got : (Nat → Int32)} {ans : Int32} {worst : UInt32} (hG : zAl G = false) {c r w cnt lim : Nat} (hM : zMd s c r w cnt lim) (l : Nat) (hl9 : l < cnt) (t : Nat) (ht : t ≤ 5) : zRun G mX10_lotOf 0 0 [.ref 114, .int (nI l), .int (nI t)] (zHp S X (s, past, aside, pasts, txt, typed, thrown, line, need, left, slits, slB, slF, slT, at9, wd9, got, ans, worst) out) (.inr (some (.int (rLo s c w cnt l t)))) (zHp S X (s, past, aside, pasts, txt, typed, thrown, line, need, left, slits, slB, slF, slT, at9, wd9, got, ans, worst) out) := by
  rcases (show t = 0 ∨ t = 1 ∨ t = 2 ∨ t = 3 ∨ t = 4 ∨ t = 5 by omega) with rfl | rfl | rfl | rfl | rfl | rfl
  · exact m_lotOf_0 hG hM l hl9
  · exact m_lotOf_1 hG hM l hl9
  · exact m_lotOf_2 hG hM l hl9
  · exact m_lotOf_3 hG hM l hl9
  · exact m_lotOf_4 hG hM l hl9
  · exact m_lotOf_5 hG hM l hl9

set_option maxHeartbeats 4000000 in
set_option maxRecDepth 100000 in
theorem m_sumOf_0 {G : zT} {S : zS} {X : zXr} {out : Nat → Int64} {s : (Nat → Int32)} {past : (Nat → Int32)} {aside : (Nat → Int32)} {pasts : Nat} {txt : (Nat → Int32)} {typed : Nat} {thrown : Int32} {line : (Nat → Int32)} {need : (Nat → Int32)} {left : (Nat → Int32)} {slits : Nat} {slB : (Nat → Int32)} {slF : (Nat → Int32)} {slT : (Nat → Int32)} {at9 : Nat} {wd9 : Int32} {got : (Nat → Int32)} {ans : Int32} {worst : UInt32} (hG : zAl G = false) {c r w cnt lim : Nat} (hM : zMd s c r w cnt lim) (v : Int32) : zRun G mX10_sumOf 0 0 [.ref 114, .int v, .int (nI 0)] (zHp S X (s, past, aside, pasts, txt, typed, thrown, line, need, left, slits, slB, slF, slT, at9, wd9, got, ans, worst) out) (.inr (some (.int (nI (zSN (fun y => zCt (fun b => rD s c y b == v) c) r))))) (zHp S X (s, past, aside, pasts, txt, typed, thrown, (zIt (fun y L => zFl (rD s c y) L c) r line), need, left, slits, slB, slF, slT, at9, wd9, got, ans, worst) out) := by
  have hM9 := hM
  obtain ⟨h0, h1, h2, h3, h4, hc1, hc, hr1, hr, hw, hn, hl⟩ := hM
  refine zRun_of (by decide +kernel) rfl rfl (Nat.le_of_ble_eq_true rfl) ?_
  suffices hs : ∀ (o9 : zO) (h9 : zH), (Sum.inr (some (.int (nI (zSN (fun y => zCt (fun b => rD s c y b == v) c) r)))) : zO) = o9 → (zHp S X (s, past, aside, pasts, txt, typed, thrown, (zIt (fun y L => zFl (rD s c y) L c) r line), need, left, slits, slB, slF, slT, at9, wd9, got, ans, worst) out) = h9 → zPW G mX10_sumOf 0 0 o9 h9 0 0 0 [(0, .ref 114), (1, .int v), (2, .int (nI 0))] [] (zHp S X (s, past, aside, pasts, txt, typed, thrown, line, need, left, slits, slB, slF, slT, at9, wd9, got, ans, worst) out) from hs _ _ rfl rfl
  intro o9 h9 ho9 hh9
  refine z_iconst (v := nI 0) dX10_sumOf_0 (by decide) ?_
  refine z_istore_n (lv' := [(3, .int (nI 0)), (0, .ref 114), (1, .int v), (2, .int (nI 0))]) dX10_sumOf_1 rfl (by decide) rfl ?_
  refine z_iconst (v := nI 0) dX10_sumOf_2 (by decide) ?_
  refine z_istore (lv' := [(4, .int (nI 0)), (3, .int (nI 0)), (0, .ref 114), (1, .int v), (2, .int (nI 0))]) dX10_sumOf_3 (by decide) rfl ?_
  have L5_1 : ∀ (d k : Nat), k ≤ r → r + 1 ≤ k + d → zPW G mX10_sumOf 0 0 o9 h9 0 0 5 [(4, .int (nI k)), (3, .int (nI (zSN (fun y => zCt (fun b => rD s c y b == v) c) k))), (0, .ref 114), (1, .int v), (2, .int (nI 0))] [] (zHp S X (s, past, aside, pasts, txt, typed, thrown, (zIt (fun y L => zFl (rD s c y) L c) k line), need, left, slits, slB, slF, slT, at9, wd9, got, ans, worst) out) := by
    intro d
    induction d with
    | zero => intro k hk hd; exact absurd hd (by omega)
    | succ d ih =>
      intro k hk_k hd_k
      have ih5 := ih
      clear ih
      refine z_iload 0 dX10_sumOf_5 rfl ?_
      refine z_aload_n 2 dX10_sumOf_7 rfl rfl ?_
      refine z_get (v := .ref 115) 0 zgo_114 rfl inX10 (by decide) zw_1178 rfl rfl dX10_sumOf_8 ?_
      refine z_iconst (v := nI 1) dX10_sumOf_11 (by decide) ?_
      refine z_ialdN (f := s) (n := 1371) (j := 1) zga_115 (by omega) (by decide) dX10_sumOf_12 ?_
      refine z_top (v2 := .int (nI r)) (by rw [h1]) ?_
      refine z_icmp_ge (tgt := 116) dX10_sumOf_13 (by decide) (fun c_13 => ?_) (fun c_13 => ?_)
      · skip
        have f_13 := m_le (by omega) (by omega) c_13
        have e_k : k = r := by omega
        rw [e_k]
        refine z_iload_n 1 dX10_sumOf_116 rfl rfl ?_
        exact z_iret rfl dX10_sumOf_117 (zo_i ho9 (by rfl)) (zo_h hh9 (by rfl)) (Nat.zero_le _) (Nat.zero_le _)
      · skip
        have f_13 := m_nle (by omega) (by omega) c_13
        refine z_iload_n 4 dX10_sumOf_16 rfl rfl ?_
        refine z_if_eq (tgt := 25) dX10_sumOf_17 (by decide) (fun c_17 => ?_) (fun c_17 => ?_)
        · skip
          have f_17 := m_z_eq_t (by omega) c_17
          refine z_aload_n 2 dX10_sumOf_25 rfl rfl ?_
          refine z_iload 0 dX10_sumOf_26 rfl ?_
          refine z_iconst (v := nI 0) dX10_sumOf_28 (by decide) ?_
          refine z_callV (N := mX10_draws) 2 [.int (nI k), .int (nI 0)] [] lX10_draws ⟨zw_1356, zw_1358, zw_62⟩ rfl zgo_114 rfl rfl (Nat.le_of_ble_eq_true rfl) (by decide) ⟨zlt, zlt⟩ ⟨Nat.zero_le _, Nat.zero_le _⟩ zal (m_draws0 hG hM9 k (by omega)) dX10_sumOf_29 ?_
          refine z_iload_n 1 dX10_sumOf_32 rfl rfl ?_
          refine z_iload_n 4 dX10_sumOf_33 rfl rfl ?_
          refine z_if_ne (tgt := 45) dX10_sumOf_34 (by decide) (fun c_34 => ?_) (fun c_34 => ?_)
          · exfalso; revert c_34; decide
          · skip
            have f_34 := m_z_ne_f (by omega) c_34
            refine z_aload_n 2 dX10_sumOf_37 rfl rfl ?_
            refine z_iload_n 3 dX10_sumOf_38 rfl rfl ?_
            refine z_callV (N := mX10_cellsOf) 1 [.int v] [.int (nI (zSN (fun y => zCt (fun b => rD s c y b == v) c) k))] lX10_cellsOf ⟨zw_1372, zw_1374, zw_66⟩ rfl zgo_114 rfl rfl (Nat.le_of_ble_eq_true rfl) (by decide) ⟨zlt, zlt⟩ ⟨Nat.zero_le _, Nat.zero_le _⟩ (fun _ => rfl) (m_cellsOf hG hM9 v) dX10_sumOf_39 ?_
            refine z_top (v2 := .int (nI (zCt (fun b => (rD s c k) b == v) c))) (by exact congrArg (fun n => Value.int (nI n)) (zCt_cg (fun b hb => by simp only [zFl_in hb]))) ?_
            refine z_goto (tgt := 69) dX10_sumOf_42 (by decide) ?_
            refine z_iaddN (a := zSN (fun y => zCt (fun b => rD s c y b == v) c) k) (b := zCt (fun b => (rD s c k) b == v) c) dX10_sumOf_69 ?_
            refine z_istore_n (lv' := [(3, .int (nI ((zSN (fun y => zCt (fun b => rD s c y b == v) c) k) + zCt (fun b => (rD s c k) b == v) c))), (4, .int (nI k)), (0, .ref 114), (1, .int v), (2, .int (nI 0))]) dX10_sumOf_70 rfl (by decide) rfl ?_
            refine z_goto (tgt := 110) dX10_sumOf_71 (by decide) ?_
            refine z_iinc (v := nI (k + 1)) (lv' := [(4, .int (nI (k + 1))), (3, .int (nI ((zSN (fun y => zCt (fun b => rD s c y b == v) c) k) + zCt (fun b => (rD s c k) b == v) c))), (0, .ref 114), (1, .int v), (2, .int (nI 0))]) 1 dX10_sumOf_110 rfl (nI_1 _) (by decide) rfl ?_
            refine z_goto (tgt := 5) dX10_sumOf_113 (by decide) ?_
            refine z_sub [0, 1, 2, 3, 4] (lv' := [(4, .int (nI (k + 1))), (3, .int (nI ((zSN (fun y => zCt (fun b => rD s c y b == v) c) k) + zCt (fun b => (rD s c k) b == v) c))), (0, .ref 114), (1, .int v), (2, .int (nI 0))]) rfl ?_
            refine z_eqs (lv2 := [(4, .int (nI ((k + 1)))), (3, .int (nI (zSN (fun y => zCt (fun b => rD s c y b == v) c) (k + 1)))), (0, .ref 114), (1, .int v), (2, .int (nI 0))]) (h2 := (zHp S X (s, past, aside, pasts, txt, typed, thrown, (zIt (fun y L => zFl (rD s c y) L c) (k + 1) line), need, left, slits, slB, slF, slT, at9, wd9, got, ans, worst) out)) (by rfl) (by rfl) ?_
            exact ih5 (k + 1) (by omega) (by omega)
        · exfalso; revert c_17; decide
  refine z_sub [0, 1, 2, 3, 4] (lv' := [(4, .int (nI 0)), (3, .int (nI 0)), (0, .ref 114), (1, .int v), (2, .int (nI 0))]) rfl ?_
  refine z_eqs (lv2 := [(4, .int (nI 0)), (3, .int (nI (zSN (fun y => zCt (fun b => rD s c y b == v) c) 0))), (0, .ref 114), (1, .int v), (2, .int (nI 0))]) (h2 := (zHp S X (s, past, aside, pasts, txt, typed, thrown, (zIt (fun y L => zFl (rD s c y) L c) 0 line), need, left, slits, slB, slF, slT, at9, wd9, got, ans, worst) out)) (by rfl) (by rfl) ?_
  exact L5_1 (r + 1) 0 (by omega) (by omega)

set_option maxHeartbeats 4000000 in
set_option maxRecDepth 100000 in
theorem m_sumOf_1 {G : zT} {S : zS} {X : zXr} {out : Nat → Int64} {s : (Nat → Int32)} {past : (Nat → Int32)} {aside : (Nat → Int32)} {pasts : Nat} {txt : (Nat → Int32)} {typed : Nat} {thrown : Int32} {line : (Nat → Int32)} {need : (Nat → Int32)} {left : (Nat → Int32)} {slits : Nat} {slB : (Nat → Int32)} {slF : (Nat → Int32)} {slT : (Nat → Int32)} {at9 : Nat} {wd9 : Int32} {got : (Nat → Int32)} {ans : Int32} {worst : UInt32} (hG : zAl G = false) {c r w cnt lim : Nat} (hM : zMd s c r w cnt lim) (v : Int32) : zRun G mX10_sumOf 0 0 [.ref 114, .int v, .int (nI 1)] (zHp S X (s, past, aside, pasts, txt, typed, thrown, line, need, left, slits, slB, slF, slT, at9, wd9, got, ans, worst) out) (.inr (some (.int (nI (zSN (fun y => if y < w then zCt (fun b => rW s y b == v) c else 0) r))))) (zHp S X (s, past, aside, pasts, txt, typed, thrown, (zIt (fun y L => if y < w then zFl (rW s y) L c else L) r line), need, left, slits, slB, slF, slT, at9, wd9, got, ans, worst) out) := by
  have hM9 := hM
  obtain ⟨h0, h1, h2, h3, h4, hc1, hc, hr1, hr, hw, hn, hl⟩ := hM
  refine zRun_of (by decide +kernel) rfl rfl (Nat.le_of_ble_eq_true rfl) ?_
  suffices hs : ∀ (o9 : zO) (h9 : zH), (Sum.inr (some (.int (nI (zSN (fun y => if y < w then zCt (fun b => rW s y b == v) c else 0) r)))) : zO) = o9 → (zHp S X (s, past, aside, pasts, txt, typed, thrown, (zIt (fun y L => if y < w then zFl (rW s y) L c else L) r line), need, left, slits, slB, slF, slT, at9, wd9, got, ans, worst) out) = h9 → zPW G mX10_sumOf 0 0 o9 h9 0 0 0 [(0, .ref 114), (1, .int v), (2, .int (nI 1))] [] (zHp S X (s, past, aside, pasts, txt, typed, thrown, line, need, left, slits, slB, slF, slT, at9, wd9, got, ans, worst) out) from hs _ _ rfl rfl
  intro o9 h9 ho9 hh9
  refine z_iconst (v := nI 0) dX10_sumOf_0 (by decide) ?_
  refine z_istore_n (lv' := [(3, .int (nI 0)), (0, .ref 114), (1, .int v), (2, .int (nI 1))]) dX10_sumOf_1 rfl (by decide) rfl ?_
  refine z_iconst (v := nI 0) dX10_sumOf_2 (by decide) ?_
  refine z_istore (lv' := [(4, .int (nI 0)), (3, .int (nI 0)), (0, .ref 114), (1, .int v), (2, .int (nI 1))]) dX10_sumOf_3 (by decide) rfl ?_
  have L5_1 : ∀ (d k : Nat), k ≤ r → r + 1 ≤ k + d → zPW G mX10_sumOf 0 0 o9 h9 0 0 5 [(4, .int (nI k)), (3, .int (nI (zSN (fun y => if y < w then zCt (fun b => rW s y b == v) c else 0) k))), (0, .ref 114), (1, .int v), (2, .int (nI 1))] [] (zHp S X (s, past, aside, pasts, txt, typed, thrown, (zIt (fun y L => if y < w then zFl (rW s y) L c else L) k line), need, left, slits, slB, slF, slT, at9, wd9, got, ans, worst) out) := by
    intro d
    induction d with
    | zero => intro k hk hd; exact absurd hd (by omega)
    | succ d ih =>
      intro k hk_k hd_k
      have ih5 := ih
      clear ih
      refine z_iload 0 dX10_sumOf_5 rfl ?_
      refine z_aload_n 2 dX10_sumOf_7 rfl rfl ?_
      refine z_get (v := .ref 115) 0 zgo_114 rfl inX10 (by decide) zw_1178 rfl rfl dX10_sumOf_8 ?_
      refine z_iconst (v := nI 1) dX10_sumOf_11 (by decide) ?_
      refine z_ialdN (f := s) (n := 1371) (j := 1) zga_115 (by omega) (by decide) dX10_sumOf_12 ?_
      refine z_top (v2 := .int (nI r)) (by rw [h1]) ?_
      refine z_icmp_ge (tgt := 116) dX10_sumOf_13 (by decide) (fun c_13 => ?_) (fun c_13 => ?_)
      · skip
        have f_13 := m_le (by omega) (by omega) c_13
        have e_k : k = r := by omega
        rw [e_k]
        refine z_iload_n 1 dX10_sumOf_116 rfl rfl ?_
        exact z_iret rfl dX10_sumOf_117 (zo_i ho9 (by rfl)) (zo_h hh9 (by rfl)) (Nat.zero_le _) (Nat.zero_le _)
      · skip
        have f_13 := m_nle (by omega) (by omega) c_13
        refine z_iload_n 4 dX10_sumOf_16 rfl rfl ?_
        refine z_if_eq (tgt := 25) dX10_sumOf_17 (by decide) (fun c_17 => ?_) (fun c_17 => ?_)
        · exfalso; revert c_17; decide
        · skip
          have f_17 := m_z_eq_f (by omega) c_17
          refine z_iload_n 4 dX10_sumOf_20 rfl rfl ?_
          refine z_iconst (v := nI 5) dX10_sumOf_21 (by decide) ?_
          refine z_icmp_ne (tgt := 74) dX10_sumOf_22 (by decide) (fun c_22 => ?_) (fun c_22 => ?_)
          · skip
            have f_22 := m_ne (by omega) (by omega) c_22
            refine z_aload_n 2 dX10_sumOf_74 rfl rfl ?_
            refine z_iload 0 dX10_sumOf_75 rfl ?_
            refine z_callV (N := mX10_isWoven) 1 [.int (nI k)] [] lX10_isWoven ⟨zw_1324, zw_1326, zw_56⟩ rfl zgo_114 rfl rfl (Nat.le_of_ble_eq_true rfl) (by decide) ⟨zlt, zlt⟩ ⟨Nat.zero_le _, Nat.zero_le _⟩ (fun _ => rfl) (m_isWoven hG hM9 (nI k)) dX10_sumOf_77 ?_
            refine z_top (v2 := .int (zB (decide (k < w)))) (by rw [zIn_n (by omega) (by omega)]) ?_
            refine z_if_eq (tgt := 110) dX10_sumOf_80 (by decide) (fun c_80 => ?_) (fun c_80 => ?_)
            · skip
              have b_80 := zB_0.mp c_80
              have g_80 : ¬ k < w := of_decide_eq_false b_80
              refine z_iinc (v := nI (k + 1)) (lv' := [(4, .int (nI (k + 1))), (3, .int (nI (zSN (fun y => if y < w then zCt (fun b => rW s y b == v) c else 0) k))), (0, .ref 114), (1, .int v), (2, .int (nI 1))]) 0 dX10_sumOf_110 rfl (nI_1 _) (by decide) rfl ?_
              refine z_goto (tgt := 5) dX10_sumOf_113 (by decide) ?_
              refine z_sub [0, 1, 2, 3, 4] (lv' := [(4, .int (nI (k + 1))), (3, .int (nI (zSN (fun y => if y < w then zCt (fun b => rW s y b == v) c else 0) k))), (0, .ref 114), (1, .int v), (2, .int (nI 1))]) rfl ?_
              refine z_eqs (lv2 := [(4, .int (nI ((k + 1)))), (3, .int (nI (zSN (fun y => if y < w then zCt (fun b => rW s y b == v) c else 0) (k + 1)))), (0, .ref 114), (1, .int v), (2, .int (nI 1))]) (h2 := (zHp S X (s, past, aside, pasts, txt, typed, thrown, (zIt (fun y L => if y < w then zFl (rW s y) L c else L) (k + 1) line), need, left, slits, slB, slF, slT, at9, wd9, got, ans, worst) out)) (by first | rw [zSN_E (f := (fun y => if y < w then zCt (fun b => rW s y b == v) c else 0)) (if_pos g_80)] | rw [zSN_E (f := (fun y => if y < w then zCt (fun b => rW s y b == v) c else 0)) (if_neg g_80)]; rfl) (by first | rw [show zIt (fun y L => if y < w then zFl (rW s y) L c else L) (k + 1) line = zFl (rW s k) (zIt (fun y L => if y < w then zFl (rW s y) L c else L) k line) c from if_pos g_80] | rw [show zIt (fun y L => if y < w then zFl (rW s y) L c else L) (k + 1) line = zIt (fun y L => if y < w then zFl (rW s y) L c else L) k line from if_neg g_80]) ?_
              exact ih5 (k + 1) (by omega) (by omega)
            · skip
              have b_80 := zB_tt c_80
              have g_80 : k < w := of_decide_eq_true b_80
              refine z_aload_n 2 dX10_sumOf_83 rfl rfl ?_
              refine z_iload 0 dX10_sumOf_84 rfl ?_
              refine z_callV (N := mX10_copies) 1 [.int (nI k)] [] lX10_copies ⟨zw_1440, zw_1442, zw_79⟩ rfl zgo_114 rfl rfl (Nat.le_of_ble_eq_true rfl) (by decide) ⟨zlt, zlt⟩ ⟨Nat.zero_le _, Nat.zero_le _⟩ zal (m_copies hG hM9 k (by omega)) dX10_sumOf_86 ?_
              refine z_iload_n 1 dX10_sumOf_89 rfl rfl ?_
              refine z_iload_n 4 dX10_sumOf_90 rfl rfl ?_
              refine z_iconst (v := nI 1) dX10_sumOf_91 (by decide) ?_
              refine z_icmp_ne (tgt := 103) dX10_sumOf_92 (by decide) (fun c_92 => ?_) (fun c_92 => ?_)
              · exfalso; revert c_92; decide
              · skip
                have f_92 := m_eq (by omega) (by omega) c_92
                refine z_aload_n 2 dX10_sumOf_95 rfl rfl ?_
                refine z_iload_n 3 dX10_sumOf_96 rfl rfl ?_
                refine z_callV (N := mX10_cellsOf) 1 [.int v] [.int (nI (zSN (fun y => if y < w then zCt (fun b => rW s y b == v) c else 0) k))] lX10_cellsOf ⟨zw_1372, zw_1374, zw_66⟩ rfl zgo_114 rfl rfl (Nat.le_of_ble_eq_true rfl) (by decide) ⟨zlt, zlt⟩ ⟨Nat.zero_le _, Nat.zero_le _⟩ (fun _ => rfl) (m_cellsOf hG hM9 v) dX10_sumOf_97 ?_
                refine z_top (v2 := .int (nI (zCt (fun b => (rW s k) b == v) c))) (by exact congrArg (fun n => Value.int (nI n)) (zCt_cg (fun b hb => by simp only [zFl_in hb]))) ?_
                refine z_goto (tgt := 108) dX10_sumOf_100 (by decide) ?_
                refine z_iaddN (a := zSN (fun y => if y < w then zCt (fun b => rW s y b == v) c else 0) k) (b := zCt (fun b => (rW s k) b == v) c) dX10_sumOf_108 ?_
                refine z_istore_n (lv' := [(3, .int (nI ((zSN (fun y => if y < w then zCt (fun b => rW s y b == v) c else 0) k) + zCt (fun b => (rW s k) b == v) c))), (4, .int (nI k)), (0, .ref 114), (1, .int v), (2, .int (nI 1))]) dX10_sumOf_109 rfl (by decide) rfl ?_
                refine z_iinc (v := nI (k + 1)) (lv' := [(4, .int (nI (k + 1))), (3, .int (nI ((zSN (fun y => if y < w then zCt (fun b => rW s y b == v) c else 0) k) + zCt (fun b => (rW s k) b == v) c))), (0, .ref 114), (1, .int v), (2, .int (nI 1))]) 1 dX10_sumOf_110 rfl (nI_1 _) (by decide) rfl ?_
                refine z_goto (tgt := 5) dX10_sumOf_113 (by decide) ?_
                refine z_sub [0, 1, 2, 3, 4] (lv' := [(4, .int (nI (k + 1))), (3, .int (nI ((zSN (fun y => if y < w then zCt (fun b => rW s y b == v) c else 0) k) + zCt (fun b => (rW s k) b == v) c))), (0, .ref 114), (1, .int v), (2, .int (nI 1))]) rfl ?_
                refine z_eqs (lv2 := [(4, .int (nI ((k + 1)))), (3, .int (nI (zSN (fun y => if y < w then zCt (fun b => rW s y b == v) c else 0) (k + 1)))), (0, .ref 114), (1, .int v), (2, .int (nI 1))]) (h2 := (zHp S X (s, past, aside, pasts, txt, typed, thrown, (zIt (fun y L => if y < w then zFl (rW s y) L c else L) (k + 1) line), need, left, slits, slB, slF, slT, at9, wd9, got, ans, worst) out)) (by first | rw [zSN_E (f := (fun y => if y < w then zCt (fun b => rW s y b == v) c else 0)) (if_pos g_80)] | rw [zSN_E (f := (fun y => if y < w then zCt (fun b => rW s y b == v) c else 0)) (if_neg g_80)]; rfl) (by first | rw [show zIt (fun y L => if y < w then zFl (rW s y) L c else L) (k + 1) line = zFl (rW s k) (zIt (fun y L => if y < w then zFl (rW s y) L c else L) k line) c from if_pos g_80] | rw [show zIt (fun y L => if y < w then zFl (rW s y) L c else L) (k + 1) line = zIt (fun y L => if y < w then zFl (rW s y) L c else L) k line from if_neg g_80]) ?_
                exact ih5 (k + 1) (by omega) (by omega)
          · exfalso; revert c_22; decide
  refine z_sub [0, 1, 2, 3, 4] (lv' := [(4, .int (nI 0)), (3, .int (nI 0)), (0, .ref 114), (1, .int v), (2, .int (nI 1))]) rfl ?_
  refine z_eqs (lv2 := [(4, .int (nI 0)), (3, .int (nI (zSN (fun y => if y < w then zCt (fun b => rW s y b == v) c else 0) 0))), (0, .ref 114), (1, .int v), (2, .int (nI 1))]) (h2 := (zHp S X (s, past, aside, pasts, txt, typed, thrown, (zIt (fun y L => if y < w then zFl (rW s y) L c else L) 0 line), need, left, slits, slB, slF, slT, at9, wd9, got, ans, worst) out)) (by rfl) (by rfl) ?_
  exact L5_1 (r + 1) 0 (by omega) (by omega)

set_option maxHeartbeats 4000000 in
set_option maxRecDepth 100000 in
theorem m_sumOf_4 {G : zT} {S : zS} {X : zXr} {out : Nat → Int64} {s : (Nat → Int32)} {past : (Nat → Int32)} {aside : (Nat → Int32)} {pasts : Nat} {txt : (Nat → Int32)} {typed : Nat} {thrown : Int32} {line : (Nat → Int32)} {need : (Nat → Int32)} {left : (Nat → Int32)} {slits : Nat} {slB : (Nat → Int32)} {slF : (Nat → Int32)} {slT : (Nat → Int32)} {at9 : Nat} {wd9 : Int32} {got : (Nat → Int32)} {ans : Int32} {worst : UInt32} (hG : zAl G = false) {c r w cnt lim : Nat} (hM : zMd s c r w cnt lim) (v : Int32) : zRun G mX10_sumOf 0 0 [.ref 114, .int v, .int (nI 4)] (zHp S X (s, past, aside, pasts, txt, typed, thrown, line, need, left, slits, slB, slF, slT, at9, wd9, got, ans, worst) out) (.inr (some (.int (nI (zSN (fun y => if y < w then zCt (fun b => rW s y b == v && rBeg (rW s y) b) c else 0) r))))) (zHp S X (s, past, aside, pasts, txt, typed, thrown, (zIt (fun y L => if y < w then zFl (rW s y) L c else L) r line), need, left, slits, slB, slF, slT, at9, wd9, got, ans, worst) out) := by
  have hM9 := hM
  obtain ⟨h0, h1, h2, h3, h4, hc1, hc, hr1, hr, hw, hn, hl⟩ := hM
  refine zRun_of (by decide +kernel) rfl rfl (Nat.le_of_ble_eq_true rfl) ?_
  suffices hs : ∀ (o9 : zO) (h9 : zH), (Sum.inr (some (.int (nI (zSN (fun y => if y < w then zCt (fun b => rW s y b == v && rBeg (rW s y) b) c else 0) r)))) : zO) = o9 → (zHp S X (s, past, aside, pasts, txt, typed, thrown, (zIt (fun y L => if y < w then zFl (rW s y) L c else L) r line), need, left, slits, slB, slF, slT, at9, wd9, got, ans, worst) out) = h9 → zPW G mX10_sumOf 0 0 o9 h9 0 0 0 [(0, .ref 114), (1, .int v), (2, .int (nI 4))] [] (zHp S X (s, past, aside, pasts, txt, typed, thrown, line, need, left, slits, slB, slF, slT, at9, wd9, got, ans, worst) out) from hs _ _ rfl rfl
  intro o9 h9 ho9 hh9
  refine z_iconst (v := nI 0) dX10_sumOf_0 (by decide) ?_
  refine z_istore_n (lv' := [(3, .int (nI 0)), (0, .ref 114), (1, .int v), (2, .int (nI 4))]) dX10_sumOf_1 rfl (by decide) rfl ?_
  refine z_iconst (v := nI 0) dX10_sumOf_2 (by decide) ?_
  refine z_istore (lv' := [(4, .int (nI 0)), (3, .int (nI 0)), (0, .ref 114), (1, .int v), (2, .int (nI 4))]) dX10_sumOf_3 (by decide) rfl ?_
  have L5_1 : ∀ (d k : Nat), k ≤ r → r + 1 ≤ k + d → zPW G mX10_sumOf 0 0 o9 h9 0 0 5 [(4, .int (nI k)), (3, .int (nI (zSN (fun y => if y < w then zCt (fun b => rW s y b == v && rBeg (rW s y) b) c else 0) k))), (0, .ref 114), (1, .int v), (2, .int (nI 4))] [] (zHp S X (s, past, aside, pasts, txt, typed, thrown, (zIt (fun y L => if y < w then zFl (rW s y) L c else L) k line), need, left, slits, slB, slF, slT, at9, wd9, got, ans, worst) out) := by
    intro d
    induction d with
    | zero => intro k hk hd; exact absurd hd (by omega)
    | succ d ih =>
      intro k hk_k hd_k
      have ih5 := ih
      clear ih
      refine z_iload 0 dX10_sumOf_5 rfl ?_
      refine z_aload_n 2 dX10_sumOf_7 rfl rfl ?_
      refine z_get (v := .ref 115) 0 zgo_114 rfl inX10 (by decide) zw_1178 rfl rfl dX10_sumOf_8 ?_
      refine z_iconst (v := nI 1) dX10_sumOf_11 (by decide) ?_
      refine z_ialdN (f := s) (n := 1371) (j := 1) zga_115 (by omega) (by decide) dX10_sumOf_12 ?_
      refine z_top (v2 := .int (nI r)) (by rw [h1]) ?_
      refine z_icmp_ge (tgt := 116) dX10_sumOf_13 (by decide) (fun c_13 => ?_) (fun c_13 => ?_)
      · skip
        have f_13 := m_le (by omega) (by omega) c_13
        have e_k : k = r := by omega
        rw [e_k]
        refine z_iload_n 1 dX10_sumOf_116 rfl rfl ?_
        exact z_iret rfl dX10_sumOf_117 (zo_i ho9 (by rfl)) (zo_h hh9 (by rfl)) (Nat.zero_le _) (Nat.zero_le _)
      · skip
        have f_13 := m_nle (by omega) (by omega) c_13
        refine z_iload_n 4 dX10_sumOf_16 rfl rfl ?_
        refine z_if_eq (tgt := 25) dX10_sumOf_17 (by decide) (fun c_17 => ?_) (fun c_17 => ?_)
        · exfalso; revert c_17; decide
        · skip
          have f_17 := m_z_eq_f (by omega) c_17
          refine z_iload_n 4 dX10_sumOf_20 rfl rfl ?_
          refine z_iconst (v := nI 5) dX10_sumOf_21 (by decide) ?_
          refine z_icmp_ne (tgt := 74) dX10_sumOf_22 (by decide) (fun c_22 => ?_) (fun c_22 => ?_)
          · skip
            have f_22 := m_ne (by omega) (by omega) c_22
            refine z_aload_n 2 dX10_sumOf_74 rfl rfl ?_
            refine z_iload 0 dX10_sumOf_75 rfl ?_
            refine z_callV (N := mX10_isWoven) 1 [.int (nI k)] [] lX10_isWoven ⟨zw_1324, zw_1326, zw_56⟩ rfl zgo_114 rfl rfl (Nat.le_of_ble_eq_true rfl) (by decide) ⟨zlt, zlt⟩ ⟨Nat.zero_le _, Nat.zero_le _⟩ (fun _ => rfl) (m_isWoven hG hM9 (nI k)) dX10_sumOf_77 ?_
            refine z_top (v2 := .int (zB (decide (k < w)))) (by rw [zIn_n (by omega) (by omega)]) ?_
            refine z_if_eq (tgt := 110) dX10_sumOf_80 (by decide) (fun c_80 => ?_) (fun c_80 => ?_)
            · skip
              have b_80 := zB_0.mp c_80
              have g_80 : ¬ k < w := of_decide_eq_false b_80
              refine z_iinc (v := nI (k + 1)) (lv' := [(4, .int (nI (k + 1))), (3, .int (nI (zSN (fun y => if y < w then zCt (fun b => rW s y b == v && rBeg (rW s y) b) c else 0) k))), (0, .ref 114), (1, .int v), (2, .int (nI 4))]) 0 dX10_sumOf_110 rfl (nI_1 _) (by decide) rfl ?_
              refine z_goto (tgt := 5) dX10_sumOf_113 (by decide) ?_
              refine z_sub [0, 1, 2, 3, 4] (lv' := [(4, .int (nI (k + 1))), (3, .int (nI (zSN (fun y => if y < w then zCt (fun b => rW s y b == v && rBeg (rW s y) b) c else 0) k))), (0, .ref 114), (1, .int v), (2, .int (nI 4))]) rfl ?_
              refine z_eqs (lv2 := [(4, .int (nI ((k + 1)))), (3, .int (nI (zSN (fun y => if y < w then zCt (fun b => rW s y b == v && rBeg (rW s y) b) c else 0) (k + 1)))), (0, .ref 114), (1, .int v), (2, .int (nI 4))]) (h2 := (zHp S X (s, past, aside, pasts, txt, typed, thrown, (zIt (fun y L => if y < w then zFl (rW s y) L c else L) (k + 1) line), need, left, slits, slB, slF, slT, at9, wd9, got, ans, worst) out)) (by first | rw [zSN_E (f := (fun y => if y < w then zCt (fun b => rW s y b == v && rBeg (rW s y) b) c else 0)) (if_pos g_80)] | rw [zSN_E (f := (fun y => if y < w then zCt (fun b => rW s y b == v && rBeg (rW s y) b) c else 0)) (if_neg g_80)]; rfl) (by first | rw [show zIt (fun y L => if y < w then zFl (rW s y) L c else L) (k + 1) line = zFl (rW s k) (zIt (fun y L => if y < w then zFl (rW s y) L c else L) k line) c from if_pos g_80] | rw [show zIt (fun y L => if y < w then zFl (rW s y) L c else L) (k + 1) line = zIt (fun y L => if y < w then zFl (rW s y) L c else L) k line from if_neg g_80]) ?_
              exact ih5 (k + 1) (by omega) (by omega)
            · skip
              have b_80 := zB_tt c_80
              have g_80 : k < w := of_decide_eq_true b_80
              refine z_aload_n 2 dX10_sumOf_83 rfl rfl ?_
              refine z_iload 0 dX10_sumOf_84 rfl ?_
              refine z_callV (N := mX10_copies) 1 [.int (nI k)] [] lX10_copies ⟨zw_1440, zw_1442, zw_79⟩ rfl zgo_114 rfl rfl (Nat.le_of_ble_eq_true rfl) (by decide) ⟨zlt, zlt⟩ ⟨Nat.zero_le _, Nat.zero_le _⟩ zal (m_copies hG hM9 k (by omega)) dX10_sumOf_86 ?_
              refine z_iload_n 1 dX10_sumOf_89 rfl rfl ?_
              refine z_iload_n 4 dX10_sumOf_90 rfl rfl ?_
              refine z_iconst (v := nI 1) dX10_sumOf_91 (by decide) ?_
              refine z_icmp_ne (tgt := 103) dX10_sumOf_92 (by decide) (fun c_92 => ?_) (fun c_92 => ?_)
              · skip
                have f_92 := m_ne (by omega) (by omega) c_92
                refine z_aload_n 2 dX10_sumOf_103 rfl rfl ?_
                refine z_iload_n 3 dX10_sumOf_104 rfl rfl ?_
                refine z_callV (N := mX10_runsOf) 1 [.int v] [.int (nI (zSN (fun y => if y < w then zCt (fun b => rW s y b == v && rBeg (rW s y) b) c else 0) k))] lX10_runsOf ⟨zw_1364, zw_1366, zw_64⟩ rfl zgo_114 rfl rfl (Nat.le_of_ble_eq_true rfl) (by decide) ⟨zlt, zlt⟩ ⟨Nat.zero_le _, Nat.zero_le _⟩ (fun _ => rfl) (m_runsOf hG hM9 v) dX10_sumOf_105 ?_
                refine z_top (v2 := .int (nI (zCt (fun b => (rW s k) b == v && rBeg (rW s k) b) c))) (by exact congrArg (fun n => Value.int (nI n)) (zCt_cg (fun b hb => by simp only [zFl_in hb, rBeg_fl hb]))) ?_
                refine z_iaddN (a := zSN (fun y => if y < w then zCt (fun b => rW s y b == v && rBeg (rW s y) b) c else 0) k) (b := zCt (fun b => (rW s k) b == v && rBeg (rW s k) b) c) dX10_sumOf_108 ?_
                refine z_istore_n (lv' := [(3, .int (nI ((zSN (fun y => if y < w then zCt (fun b => rW s y b == v && rBeg (rW s y) b) c else 0) k) + zCt (fun b => (rW s k) b == v && rBeg (rW s k) b) c))), (4, .int (nI k)), (0, .ref 114), (1, .int v), (2, .int (nI 4))]) dX10_sumOf_109 rfl (by decide) rfl ?_
                refine z_iinc (v := nI (k + 1)) (lv' := [(4, .int (nI (k + 1))), (3, .int (nI ((zSN (fun y => if y < w then zCt (fun b => rW s y b == v && rBeg (rW s y) b) c else 0) k) + zCt (fun b => (rW s k) b == v && rBeg (rW s k) b) c))), (0, .ref 114), (1, .int v), (2, .int (nI 4))]) 1 dX10_sumOf_110 rfl (nI_1 _) (by decide) rfl ?_
                refine z_goto (tgt := 5) dX10_sumOf_113 (by decide) ?_
                refine z_sub [0, 1, 2, 3, 4] (lv' := [(4, .int (nI (k + 1))), (3, .int (nI ((zSN (fun y => if y < w then zCt (fun b => rW s y b == v && rBeg (rW s y) b) c else 0) k) + zCt (fun b => (rW s k) b == v && rBeg (rW s k) b) c))), (0, .ref 114), (1, .int v), (2, .int (nI 4))]) rfl ?_
                refine z_eqs (lv2 := [(4, .int (nI ((k + 1)))), (3, .int (nI (zSN (fun y => if y < w then zCt (fun b => rW s y b == v && rBeg (rW s y) b) c else 0) (k + 1)))), (0, .ref 114), (1, .int v), (2, .int (nI 4))]) (h2 := (zHp S X (s, past, aside, pasts, txt, typed, thrown, (zIt (fun y L => if y < w then zFl (rW s y) L c else L) (k + 1) line), need, left, slits, slB, slF, slT, at9, wd9, got, ans, worst) out)) (by first | rw [zSN_E (f := (fun y => if y < w then zCt (fun b => rW s y b == v && rBeg (rW s y) b) c else 0)) (if_pos g_80)] | rw [zSN_E (f := (fun y => if y < w then zCt (fun b => rW s y b == v && rBeg (rW s y) b) c else 0)) (if_neg g_80)]; rfl) (by first | rw [show zIt (fun y L => if y < w then zFl (rW s y) L c else L) (k + 1) line = zFl (rW s k) (zIt (fun y L => if y < w then zFl (rW s y) L c else L) k line) c from if_pos g_80] | rw [show zIt (fun y L => if y < w then zFl (rW s y) L c else L) (k + 1) line = zIt (fun y L => if y < w then zFl (rW s y) L c else L) k line from if_neg g_80]) ?_
                exact ih5 (k + 1) (by omega) (by omega)
              · exfalso; revert c_92; decide
          · exfalso; revert c_22; decide
  refine z_sub [0, 1, 2, 3, 4] (lv' := [(4, .int (nI 0)), (3, .int (nI 0)), (0, .ref 114), (1, .int v), (2, .int (nI 4))]) rfl ?_
  refine z_eqs (lv2 := [(4, .int (nI 0)), (3, .int (nI (zSN (fun y => if y < w then zCt (fun b => rW s y b == v && rBeg (rW s y) b) c else 0) 0))), (0, .ref 114), (1, .int v), (2, .int (nI 4))]) (h2 := (zHp S X (s, past, aside, pasts, txt, typed, thrown, (zIt (fun y L => if y < w then zFl (rW s y) L c else L) 0 line), need, left, slits, slB, slF, slT, at9, wd9, got, ans, worst) out)) (by rfl) (by rfl) ?_
  exact L5_1 (r + 1) 0 (by omega) (by omega)

set_option maxHeartbeats 4000000 in
set_option maxRecDepth 100000 in
theorem m_sumOf_5 {G : zT} {S : zS} {X : zXr} {out : Nat → Int64} {s : (Nat → Int32)} {past : (Nat → Int32)} {aside : (Nat → Int32)} {pasts : Nat} {txt : (Nat → Int32)} {typed : Nat} {thrown : Int32} {line : (Nat → Int32)} {need : (Nat → Int32)} {left : (Nat → Int32)} {slits : Nat} {slB : (Nat → Int32)} {slF : (Nat → Int32)} {slT : (Nat → Int32)} {at9 : Nat} {wd9 : Int32} {got : (Nat → Int32)} {ans : Int32} {worst : UInt32} (hG : zAl G = false) {c r w cnt lim : Nat} (hM : zMd s c r w cnt lim) (v : Int32) : zRun G mX10_sumOf 0 0 [.ref 114, .int v, .int (nI 5)] (zHp S X (s, past, aside, pasts, txt, typed, thrown, line, need, left, slits, slB, slF, slT, at9, wd9, got, ans, worst) out) (.inr (some (.int (nI (zSN (fun y => if y < w then 0 else zCt (fun b => rD s c y b == v) c + zCt (fun b => rD s c y b == v && rBeg (rD s c y) b) c) r))))) (zHp S X (s, past, aside, pasts, txt, typed, thrown, (zIt (fun y L => zFl (rD s c y) L c) r line), need, left, slits, slB, slF, slT, at9, wd9, got, ans, worst) out) := by
  have hM9 := hM
  obtain ⟨h0, h1, h2, h3, h4, hc1, hc, hr1, hr, hw, hn, hl⟩ := hM
  refine zRun_of (by decide +kernel) rfl rfl (Nat.le_of_ble_eq_true rfl) ?_
  suffices hs : ∀ (o9 : zO) (h9 : zH), (Sum.inr (some (.int (nI (zSN (fun y => if y < w then 0 else zCt (fun b => rD s c y b == v) c + zCt (fun b => rD s c y b == v && rBeg (rD s c y) b) c) r)))) : zO) = o9 → (zHp S X (s, past, aside, pasts, txt, typed, thrown, (zIt (fun y L => zFl (rD s c y) L c) r line), need, left, slits, slB, slF, slT, at9, wd9, got, ans, worst) out) = h9 → zPW G mX10_sumOf 0 0 o9 h9 0 0 0 [(0, .ref 114), (1, .int v), (2, .int (nI 5))] [] (zHp S X (s, past, aside, pasts, txt, typed, thrown, line, need, left, slits, slB, slF, slT, at9, wd9, got, ans, worst) out) from hs _ _ rfl rfl
  intro o9 h9 ho9 hh9
  refine z_iconst (v := nI 0) dX10_sumOf_0 (by decide) ?_
  refine z_istore_n (lv' := [(3, .int (nI 0)), (0, .ref 114), (1, .int v), (2, .int (nI 5))]) dX10_sumOf_1 rfl (by decide) rfl ?_
  refine z_iconst (v := nI 0) dX10_sumOf_2 (by decide) ?_
  refine z_istore (lv' := [(4, .int (nI 0)), (3, .int (nI 0)), (0, .ref 114), (1, .int v), (2, .int (nI 5))]) dX10_sumOf_3 (by decide) rfl ?_
  have L5_1 : ∀ (d k : Nat), k ≤ r → r + 1 ≤ k + d → zPW G mX10_sumOf 0 0 o9 h9 0 0 5 [(4, .int (nI k)), (3, .int (nI (zSN (fun y => if y < w then 0 else zCt (fun b => rD s c y b == v) c + zCt (fun b => rD s c y b == v && rBeg (rD s c y) b) c) k))), (0, .ref 114), (1, .int v), (2, .int (nI 5))] [] (zHp S X (s, past, aside, pasts, txt, typed, thrown, (zIt (fun y L => zFl (rD s c y) L c) k line), need, left, slits, slB, slF, slT, at9, wd9, got, ans, worst) out) := by
    intro d
    induction d with
    | zero => intro k hk hd; exact absurd hd (by omega)
    | succ d ih =>
      intro k hk_k hd_k
      have ih5 := ih
      clear ih
      refine z_iload 0 dX10_sumOf_5 rfl ?_
      refine z_aload_n 2 dX10_sumOf_7 rfl rfl ?_
      refine z_get (v := .ref 115) 0 zgo_114 rfl inX10 (by decide) zw_1178 rfl rfl dX10_sumOf_8 ?_
      refine z_iconst (v := nI 1) dX10_sumOf_11 (by decide) ?_
      refine z_ialdN (f := s) (n := 1371) (j := 1) zga_115 (by omega) (by decide) dX10_sumOf_12 ?_
      refine z_top (v2 := .int (nI r)) (by rw [h1]) ?_
      refine z_icmp_ge (tgt := 116) dX10_sumOf_13 (by decide) (fun c_13 => ?_) (fun c_13 => ?_)
      · skip
        have f_13 := m_le (by omega) (by omega) c_13
        have e_k : k = r := by omega
        rw [e_k]
        refine z_iload_n 1 dX10_sumOf_116 rfl rfl ?_
        exact z_iret rfl dX10_sumOf_117 (zo_i ho9 (by rfl)) (zo_h hh9 (by rfl)) (Nat.zero_le _) (Nat.zero_le _)
      · skip
        have f_13 := m_nle (by omega) (by omega) c_13
        refine z_iload_n 4 dX10_sumOf_16 rfl rfl ?_
        refine z_if_eq (tgt := 25) dX10_sumOf_17 (by decide) (fun c_17 => ?_) (fun c_17 => ?_)
        · exfalso; revert c_17; decide
        · skip
          have f_17 := m_z_eq_f (by omega) c_17
          refine z_iload_n 4 dX10_sumOf_20 rfl rfl ?_
          refine z_iconst (v := nI 5) dX10_sumOf_21 (by decide) ?_
          refine z_icmp_ne (tgt := 74) dX10_sumOf_22 (by decide) (fun c_22 => ?_) (fun c_22 => ?_)
          · exfalso; revert c_22; decide
          · skip
            have f_22 := m_eq (by omega) (by omega) c_22
            refine z_aload_n 2 dX10_sumOf_25 rfl rfl ?_
            refine z_iload 0 dX10_sumOf_26 rfl ?_
            refine z_iconst (v := nI 0) dX10_sumOf_28 (by decide) ?_
            refine z_callV (N := mX10_draws) 2 [.int (nI k), .int (nI 0)] [] lX10_draws ⟨zw_1356, zw_1358, zw_62⟩ rfl zgo_114 rfl rfl (Nat.le_of_ble_eq_true rfl) (by decide) ⟨zlt, zlt⟩ ⟨Nat.zero_le _, Nat.zero_le _⟩ zal (m_draws0 hG hM9 k (by omega)) dX10_sumOf_29 ?_
            refine z_iload_n 1 dX10_sumOf_32 rfl rfl ?_
            refine z_iload_n 4 dX10_sumOf_33 rfl rfl ?_
            refine z_if_ne (tgt := 45) dX10_sumOf_34 (by decide) (fun c_34 => ?_) (fun c_34 => ?_)
            · skip
              have f_34 := m_z_ne_t (by omega) c_34
              refine z_aload_n 2 dX10_sumOf_45 rfl rfl ?_
              refine z_iload 0 dX10_sumOf_46 rfl ?_
              refine z_callV (N := mX10_isWoven) 1 [.int (nI k)] [.int (nI (zSN (fun y => if y < w then 0 else zCt (fun b => rD s c y b == v) c + zCt (fun b => rD s c y b == v && rBeg (rD s c y) b) c) k))] lX10_isWoven ⟨zw_1324, zw_1326, zw_56⟩ rfl zgo_114 rfl rfl (Nat.le_of_ble_eq_true rfl) (by decide) ⟨zlt, zlt⟩ ⟨Nat.zero_le _, Nat.zero_le _⟩ (fun _ => rfl) (m_isWoven hG hM9 (nI k)) dX10_sumOf_48 ?_
              refine z_top (v2 := .int (zB (decide (k < w)))) (by rw [zIn_n (by omega) (by omega)]) ?_
              refine z_if_eq (tgt := 58) dX10_sumOf_51 (by decide) (fun c_51 => ?_) (fun c_51 => ?_)
              · skip
                have b_51 := zB_0.mp c_51
                have g_51 : ¬ k < w := of_decide_eq_false b_51
                refine z_aload_n 2 dX10_sumOf_58 rfl rfl ?_
                refine z_iload_n 3 dX10_sumOf_59 rfl rfl ?_
                refine z_callV (N := mX10_cellsOf) 1 [.int v] [.int (nI (zSN (fun y => if y < w then 0 else zCt (fun b => rD s c y b == v) c + zCt (fun b => rD s c y b == v && rBeg (rD s c y) b) c) k))] lX10_cellsOf ⟨zw_1372, zw_1374, zw_66⟩ rfl zgo_114 rfl rfl (Nat.le_of_ble_eq_true rfl) (by decide) ⟨zlt, zlt⟩ ⟨Nat.zero_le _, Nat.zero_le _⟩ (fun _ => rfl) (m_cellsOf hG hM9 v) dX10_sumOf_60 ?_
                refine z_top (v2 := .int (nI (zCt (fun b => (rD s c k) b == v) c))) (by exact congrArg (fun n => Value.int (nI n)) (zCt_cg (fun b hb => by simp only [zFl_in hb]))) ?_
                refine z_aload_n 2 dX10_sumOf_63 rfl rfl ?_
                refine z_iload_n 3 dX10_sumOf_64 rfl rfl ?_
                refine z_callV (N := mX10_runsOf) 1 [.int v] [.int (nI (zCt (fun b => (rD s c k) b == v) c)), .int (nI (zSN (fun y => if y < w then 0 else zCt (fun b => rD s c y b == v) c + zCt (fun b => rD s c y b == v && rBeg (rD s c y) b) c) k))] lX10_runsOf ⟨zw_1364, zw_1366, zw_64⟩ rfl zgo_114 rfl rfl (Nat.le_of_ble_eq_true rfl) (by decide) ⟨zlt, zlt⟩ ⟨Nat.zero_le _, Nat.zero_le _⟩ (fun _ => rfl) (m_runsOf hG hM9 v) dX10_sumOf_65 ?_
                refine z_top (v2 := .int (nI (zCt (fun b => (rD s c k) b == v && rBeg (rD s c k) b) c))) (by exact congrArg (fun n => Value.int (nI n)) (zCt_cg (fun b hb => by simp only [zFl_in hb, rBeg_fl hb]))) ?_
                refine z_iaddN (a := zCt (fun b => (rD s c k) b == v) c) (b := zCt (fun b => (rD s c k) b == v && rBeg (rD s c k) b) c) dX10_sumOf_68 ?_
                refine z_iaddN (a := zSN (fun y => if y < w then 0 else zCt (fun b => rD s c y b == v) c + zCt (fun b => rD s c y b == v && rBeg (rD s c y) b) c) k) (b := (zCt (fun b => (rD s c k) b == v) c) + zCt (fun b => (rD s c k) b == v && rBeg (rD s c k) b) c) dX10_sumOf_69 ?_
                refine z_istore_n (lv' := [(3, .int (nI ((zSN (fun y => if y < w then 0 else zCt (fun b => rD s c y b == v) c + zCt (fun b => rD s c y b == v && rBeg (rD s c y) b) c) k) + ((zCt (fun b => (rD s c k) b == v) c) + zCt (fun b => (rD s c k) b == v && rBeg (rD s c k) b) c)))), (4, .int (nI k)), (0, .ref 114), (1, .int v), (2, .int (nI 5))]) dX10_sumOf_70 rfl (by decide) rfl ?_
                refine z_goto (tgt := 110) dX10_sumOf_71 (by decide) ?_
                refine z_iinc (v := nI (k + 1)) (lv' := [(4, .int (nI (k + 1))), (3, .int (nI ((zSN (fun y => if y < w then 0 else zCt (fun b => rD s c y b == v) c + zCt (fun b => rD s c y b == v && rBeg (rD s c y) b) c) k) + ((zCt (fun b => (rD s c k) b == v) c) + zCt (fun b => (rD s c k) b == v && rBeg (rD s c k) b) c)))), (0, .ref 114), (1, .int v), (2, .int (nI 5))]) 1 dX10_sumOf_110 rfl (nI_1 _) (by decide) rfl ?_
                refine z_goto (tgt := 5) dX10_sumOf_113 (by decide) ?_
                refine z_sub [0, 1, 2, 3, 4] (lv' := [(4, .int (nI (k + 1))), (3, .int (nI ((zSN (fun y => if y < w then 0 else zCt (fun b => rD s c y b == v) c + zCt (fun b => rD s c y b == v && rBeg (rD s c y) b) c) k) + ((zCt (fun b => (rD s c k) b == v) c) + zCt (fun b => (rD s c k) b == v && rBeg (rD s c k) b) c)))), (0, .ref 114), (1, .int v), (2, .int (nI 5))]) rfl ?_
                refine z_eqs (lv2 := [(4, .int (nI ((k + 1)))), (3, .int (nI (zSN (fun y => if y < w then 0 else zCt (fun b => rD s c y b == v) c + zCt (fun b => rD s c y b == v && rBeg (rD s c y) b) c) (k + 1)))), (0, .ref 114), (1, .int v), (2, .int (nI 5))]) (h2 := (zHp S X (s, past, aside, pasts, txt, typed, thrown, (zIt (fun y L => zFl (rD s c y) L c) (k + 1) line), need, left, slits, slB, slF, slT, at9, wd9, got, ans, worst) out)) (by first | rw [zSN_E (f := (fun y => if y < w then 0 else zCt (fun b => rD s c y b == v) c + zCt (fun b => rD s c y b == v && rBeg (rD s c y) b) c)) (if_pos g_51)] | rw [zSN_E (f := (fun y => if y < w then 0 else zCt (fun b => rD s c y b == v) c + zCt (fun b => rD s c y b == v && rBeg (rD s c y) b) c)) (if_neg g_51)]) (by rfl) ?_
                exact ih5 (k + 1) (by omega) (by omega)
              · skip
                have b_51 := zB_tt c_51
                have g_51 : k < w := of_decide_eq_true b_51
                refine z_iconst (v := nI 0) dX10_sumOf_54 (by decide) ?_
                refine z_goto (tgt := 69) dX10_sumOf_55 (by decide) ?_
                refine z_iaddN (a := zSN (fun y => if y < w then 0 else zCt (fun b => rD s c y b == v) c + zCt (fun b => rD s c y b == v && rBeg (rD s c y) b) c) k) (b := 0) dX10_sumOf_69 ?_
                refine z_istore_n (lv' := [(3, .int (nI ((zSN (fun y => if y < w then 0 else zCt (fun b => rD s c y b == v) c + zCt (fun b => rD s c y b == v && rBeg (rD s c y) b) c) k) + 0))), (4, .int (nI k)), (0, .ref 114), (1, .int v), (2, .int (nI 5))]) dX10_sumOf_70 rfl (by decide) rfl ?_
                refine z_goto (tgt := 110) dX10_sumOf_71 (by decide) ?_
                refine z_iinc (v := nI (k + 1)) (lv' := [(4, .int (nI (k + 1))), (3, .int (nI ((zSN (fun y => if y < w then 0 else zCt (fun b => rD s c y b == v) c + zCt (fun b => rD s c y b == v && rBeg (rD s c y) b) c) k) + 0))), (0, .ref 114), (1, .int v), (2, .int (nI 5))]) 1 dX10_sumOf_110 rfl (nI_1 _) (by decide) rfl ?_
                refine z_goto (tgt := 5) dX10_sumOf_113 (by decide) ?_
                refine z_sub [0, 1, 2, 3, 4] (lv' := [(4, .int (nI (k + 1))), (3, .int (nI ((zSN (fun y => if y < w then 0 else zCt (fun b => rD s c y b == v) c + zCt (fun b => rD s c y b == v && rBeg (rD s c y) b) c) k) + 0))), (0, .ref 114), (1, .int v), (2, .int (nI 5))]) rfl ?_
                refine z_eqs (lv2 := [(4, .int (nI ((k + 1)))), (3, .int (nI (zSN (fun y => if y < w then 0 else zCt (fun b => rD s c y b == v) c + zCt (fun b => rD s c y b == v && rBeg (rD s c y) b) c) (k + 1)))), (0, .ref 114), (1, .int v), (2, .int (nI 5))]) (h2 := (zHp S X (s, past, aside, pasts, txt, typed, thrown, (zIt (fun y L => zFl (rD s c y) L c) (k + 1) line), need, left, slits, slB, slF, slT, at9, wd9, got, ans, worst) out)) (by first | rw [zSN_E (f := (fun y => if y < w then 0 else zCt (fun b => rD s c y b == v) c + zCt (fun b => rD s c y b == v && rBeg (rD s c y) b) c)) (if_pos g_51)] | rw [zSN_E (f := (fun y => if y < w then 0 else zCt (fun b => rD s c y b == v) c + zCt (fun b => rD s c y b == v && rBeg (rD s c y) b) c)) (if_neg g_51)]) (by rfl) ?_
                exact ih5 (k + 1) (by omega) (by omega)
            · exfalso; revert c_34; decide
  refine z_sub [0, 1, 2, 3, 4] (lv' := [(4, .int (nI 0)), (3, .int (nI 0)), (0, .ref 114), (1, .int v), (2, .int (nI 5))]) rfl ?_
  refine z_eqs (lv2 := [(4, .int (nI 0)), (3, .int (nI (zSN (fun y => if y < w then 0 else zCt (fun b => rD s c y b == v) c + zCt (fun b => rD s c y b == v && rBeg (rD s c y) b) c) 0))), (0, .ref 114), (1, .int v), (2, .int (nI 5))]) (h2 := (zHp S X (s, past, aside, pasts, txt, typed, thrown, (zIt (fun y L => zFl (rD s c y) L c) 0 line), need, left, slits, slB, slF, slT, at9, wd9, got, ans, worst) out)) (by rfl) (by rfl) ?_
  exact L5_1 (r + 1) 0 (by omega) (by omega)

set_option maxHeartbeats 4000000 in
set_option maxRecDepth 100000 in
theorem m_colorOf_0 {G : zT} {S : zS} {X : zXr} {out : Nat → Int64} {s : (Nat → Int32)} {past : (Nat → Int32)} {aside : (Nat → Int32)} {pasts : Nat} {txt : (Nat → Int32)} {typed : Nat} {thrown : Int32} {line : (Nat → Int32)} {need : (Nat → Int32)} {left : (Nat → Int32)} {slits : Nat} {slB : (Nat → Int32)} {slF : (Nat → Int32)} {slT : (Nat → Int32)} {at9 : Nat} {wd9 : Int32} {got : (Nat → Int32)} {ans : Int32} {worst : UInt32} (hG : zAl G = false) {c r w cnt lim : Nat} (hM : zMd s c r w cnt lim) (v : Int32) : zRun G mX10_colorOf 0 0 [.ref 114, .int v, .int (nI 0)] (zHp S X (s, past, aside, pasts, txt, typed, thrown, line, need, left, slits, slB, slF, slT, at9, wd9, got, ans, worst) out) (.inr (some (.int (nI (zSN (fun y => zCt (fun b => rD s c y b == v) c) r))))) (zHp S X (s, past, aside, pasts, txt, typed, thrown, (zIt (fun y L => zFl (rD s c y) L c) r line), need, left, slits, slB, slF, slT, at9, wd9, got, ans, worst) out) := by
  have hM9 := hM
  obtain ⟨h0, h1, h2, h3, h4, hc1, hc, hr1, hr, hw, hn, hl⟩ := hM
  refine zRun_of (by decide +kernel) rfl rfl (Nat.le_of_ble_eq_true rfl) ?_
  suffices hs : ∀ (o9 : zO) (h9 : zH), (Sum.inr (some (.int (nI (zSN (fun y => zCt (fun b => rD s c y b == v) c) r)))) : zO) = o9 → (zHp S X (s, past, aside, pasts, txt, typed, thrown, (zIt (fun y L => zFl (rD s c y) L c) r line), need, left, slits, slB, slF, slT, at9, wd9, got, ans, worst) out) = h9 → zPW G mX10_colorOf 0 0 o9 h9 0 0 0 [(0, .ref 114), (1, .int v), (2, .int (nI 0))] [] (zHp S X (s, past, aside, pasts, txt, typed, thrown, line, need, left, slits, slB, slF, slT, at9, wd9, got, ans, worst) out) from hs _ _ rfl rfl
  intro o9 h9 ho9 hh9
  refine z_iload_n 2 dX10_colorOf_0 rfl rfl ?_
  refine z_iconst (v := nI 2) dX10_colorOf_1 (by decide) ?_
  refine z_icmp_ne (tgt := 13) dX10_colorOf_2 (by decide) (fun c_2 => ?_) (fun c_2 => ?_)
  · skip
    have f_2 := m_ne (by omega) (by omega) c_2
    refine z_iload_n 2 dX10_colorOf_13 rfl rfl ?_
    refine z_iconst (v := nI 3) dX10_colorOf_14 (by decide) ?_
    refine z_icmp_ne (tgt := 26) dX10_colorOf_15 (by decide) (fun c_15 => ?_) (fun c_15 => ?_)
    · skip
      have f_15 := m_ne (by omega) (by omega) c_15
      refine z_aload_n 0 dX10_colorOf_26 rfl rfl ?_
      refine z_iload_n 1 dX10_colorOf_27 rfl rfl ?_
      refine z_iload_n 2 dX10_colorOf_28 rfl rfl ?_
      refine z_callV (N := mX10_sumOf) 2 [.int v, .int (nI 0)] [] lX10_sumOf ⟨zw_1484, zw_1486, zw_88⟩ rfl zgo_114 rfl rfl (Nat.le_of_ble_eq_true rfl) (by decide) ⟨zlt, zlt⟩ ⟨Nat.zero_le _, Nat.zero_le _⟩ zal (m_sumOf_0 hG hM9 v) dX10_colorOf_29 ?_
      exact z_iret rfl dX10_colorOf_32 (zo_i ho9 (by rfl)) (zo_h hh9 (by rfl)) (Nat.zero_le _) (Nat.zero_le _)
    · exfalso; revert c_15; decide
  · exfalso; revert c_2; decide

set_option maxHeartbeats 4000000 in
set_option maxRecDepth 100000 in
theorem m_colorOf_1 {G : zT} {S : zS} {X : zXr} {out : Nat → Int64} {s : (Nat → Int32)} {past : (Nat → Int32)} {aside : (Nat → Int32)} {pasts : Nat} {txt : (Nat → Int32)} {typed : Nat} {thrown : Int32} {line : (Nat → Int32)} {need : (Nat → Int32)} {left : (Nat → Int32)} {slits : Nat} {slB : (Nat → Int32)} {slF : (Nat → Int32)} {slT : (Nat → Int32)} {at9 : Nat} {wd9 : Int32} {got : (Nat → Int32)} {ans : Int32} {worst : UInt32} (hG : zAl G = false) {c r w cnt lim : Nat} (hM : zMd s c r w cnt lim) (v : Int32) : zRun G mX10_colorOf 0 0 [.ref 114, .int v, .int (nI 1)] (zHp S X (s, past, aside, pasts, txt, typed, thrown, line, need, left, slits, slB, slF, slT, at9, wd9, got, ans, worst) out) (.inr (some (.int (nI (zSN (fun y => if y < w then zCt (fun b => rW s y b == v) c else 0) r))))) (zHp S X (s, past, aside, pasts, txt, typed, thrown, (zIt (fun y L => if y < w then zFl (rW s y) L c else L) r line), need, left, slits, slB, slF, slT, at9, wd9, got, ans, worst) out) := by
  have hM9 := hM
  obtain ⟨h0, h1, h2, h3, h4, hc1, hc, hr1, hr, hw, hn, hl⟩ := hM
  refine zRun_of (by decide +kernel) rfl rfl (Nat.le_of_ble_eq_true rfl) ?_
  suffices hs : ∀ (o9 : zO) (h9 : zH), (Sum.inr (some (.int (nI (zSN (fun y => if y < w then zCt (fun b => rW s y b == v) c else 0) r)))) : zO) = o9 → (zHp S X (s, past, aside, pasts, txt, typed, thrown, (zIt (fun y L => if y < w then zFl (rW s y) L c else L) r line), need, left, slits, slB, slF, slT, at9, wd9, got, ans, worst) out) = h9 → zPW G mX10_colorOf 0 0 o9 h9 0 0 0 [(0, .ref 114), (1, .int v), (2, .int (nI 1))] [] (zHp S X (s, past, aside, pasts, txt, typed, thrown, line, need, left, slits, slB, slF, slT, at9, wd9, got, ans, worst) out) from hs _ _ rfl rfl
  intro o9 h9 ho9 hh9
  refine z_iload_n 2 dX10_colorOf_0 rfl rfl ?_
  refine z_iconst (v := nI 2) dX10_colorOf_1 (by decide) ?_
  refine z_icmp_ne (tgt := 13) dX10_colorOf_2 (by decide) (fun c_2 => ?_) (fun c_2 => ?_)
  · skip
    have f_2 := m_ne (by omega) (by omega) c_2
    refine z_iload_n 2 dX10_colorOf_13 rfl rfl ?_
    refine z_iconst (v := nI 3) dX10_colorOf_14 (by decide) ?_
    refine z_icmp_ne (tgt := 26) dX10_colorOf_15 (by decide) (fun c_15 => ?_) (fun c_15 => ?_)
    · skip
      have f_15 := m_ne (by omega) (by omega) c_15
      refine z_aload_n 0 dX10_colorOf_26 rfl rfl ?_
      refine z_iload_n 1 dX10_colorOf_27 rfl rfl ?_
      refine z_iload_n 2 dX10_colorOf_28 rfl rfl ?_
      refine z_callV (N := mX10_sumOf) 2 [.int v, .int (nI 1)] [] lX10_sumOf ⟨zw_1484, zw_1486, zw_88⟩ rfl zgo_114 rfl rfl (Nat.le_of_ble_eq_true rfl) (by decide) ⟨zlt, zlt⟩ ⟨Nat.zero_le _, Nat.zero_le _⟩ zal (m_sumOf_1 hG hM9 v) dX10_colorOf_29 ?_
      exact z_iret rfl dX10_colorOf_32 (zo_i ho9 (by rfl)) (zo_h hh9 (by rfl)) (Nat.zero_le _) (Nat.zero_le _)
    · exfalso; revert c_15; decide
  · exfalso; revert c_2; decide

set_option maxHeartbeats 4000000 in
set_option maxRecDepth 100000 in
theorem m_colorOf_2 {G : zT} {S : zS} {X : zXr} {out : Nat → Int64} {s : (Nat → Int32)} {past : (Nat → Int32)} {aside : (Nat → Int32)} {pasts : Nat} {txt : (Nat → Int32)} {typed : Nat} {thrown : Int32} {line : (Nat → Int32)} {need : (Nat → Int32)} {left : (Nat → Int32)} {slits : Nat} {slB : (Nat → Int32)} {slF : (Nat → Int32)} {slT : (Nat → Int32)} {at9 : Nat} {wd9 : Int32} {got : (Nat → Int32)} {ans : Int32} {worst : UInt32} (hG : zAl G = false) {c r w cnt lim : Nat} (hM : zMd s c r w cnt lim) (v : Int32) : zRun G mX10_colorOf 0 0 [.ref 114, .int v, .int (nI 2)] (zHp S X (s, past, aside, pasts, txt, typed, thrown, line, need, left, slits, slB, slF, slT, at9, wd9, got, ans, worst) out) (.inr (some (.int (rUn s v cnt)))) (zHp S X (s, past, aside, pasts, txt, typed, thrown, line, need, left, slits, slB, slF, slT, at9, wd9, got, ans, worst) out) := by
  have hM9 := hM
  obtain ⟨h0, h1, h2, h3, h4, hc1, hc, hr1, hr, hw, hn, hl⟩ := hM
  refine zRun_of (by decide +kernel) rfl rfl (Nat.le_of_ble_eq_true rfl) ?_
  suffices hs : ∀ (o9 : zO) (h9 : zH), (Sum.inr (some (.int (rUn s v cnt))) : zO) = o9 → (zHp S X (s, past, aside, pasts, txt, typed, thrown, line, need, left, slits, slB, slF, slT, at9, wd9, got, ans, worst) out) = h9 → zPW G mX10_colorOf 0 0 o9 h9 0 0 0 [(0, .ref 114), (1, .int v), (2, .int (nI 2))] [] (zHp S X (s, past, aside, pasts, txt, typed, thrown, line, need, left, slits, slB, slF, slT, at9, wd9, got, ans, worst) out) from hs _ _ rfl rfl
  intro o9 h9 ho9 hh9
  refine z_iload_n 2 dX10_colorOf_0 rfl rfl ?_
  refine z_iconst (v := nI 2) dX10_colorOf_1 (by decide) ?_
  refine z_icmp_ne (tgt := 13) dX10_colorOf_2 (by decide) (fun c_2 => ?_) (fun c_2 => ?_)
  · exfalso; revert c_2; decide
  · skip
    have f_2 := m_eq (by omega) (by omega) c_2
    refine z_aload_n 0 dX10_colorOf_5 rfl rfl ?_
    refine z_iload_n 1 dX10_colorOf_6 rfl rfl ?_
    refine z_callV (N := mX10_unitsOf) 1 [.int v] [] lX10_unitsOf ⟨zw_1376, zw_1378, zw_67⟩ rfl zgo_114 rfl rfl (Nat.le_of_ble_eq_true rfl) (by decide) ⟨zlt, zlt⟩ ⟨Nat.zero_le _, Nat.zero_le _⟩ (fun _ => rfl) (m_unitsOf hG hM9 v) dX10_colorOf_7 ?_
    refine z_goto (tgt := 32) dX10_colorOf_10 (by decide) ?_
    exact z_iret rfl dX10_colorOf_32 (zo_i ho9 (by rfl)) (zo_h hh9 (by rfl)) (Nat.zero_le _) (Nat.zero_le _)

set_option maxHeartbeats 4000000 in
set_option maxRecDepth 100000 in
theorem m_colorOf_3 {G : zT} {S : zS} {X : zXr} {out : Nat → Int64} {s : (Nat → Int32)} {past : (Nat → Int32)} {aside : (Nat → Int32)} {pasts : Nat} {txt : (Nat → Int32)} {typed : Nat} {thrown : Int32} {line : (Nat → Int32)} {need : (Nat → Int32)} {left : (Nat → Int32)} {slits : Nat} {slB : (Nat → Int32)} {slF : (Nat → Int32)} {slT : (Nat → Int32)} {at9 : Nat} {wd9 : Int32} {got : (Nat → Int32)} {ans : Int32} {worst : UInt32} (hG : zAl G = false) {c r w cnt lim : Nat} (hM : zMd s c r w cnt lim) (v : Int32) : zRun G mX10_colorOf 0 0 [.ref 114, .int v, .int (nI 3)] (zHp S X (s, past, aside, pasts, txt, typed, thrown, line, need, left, slits, slB, slF, slT, at9, wd9, got, ans, worst) out) (.inr (some (.int (nI (zCt (fun l => s (7 + 4 * l) == v) cnt))))) (zHp S X (s, past, aside, pasts, txt, typed, thrown, line, need, left, slits, slB, slF, slT, at9, wd9, got, ans, worst) out) := by
  have hM9 := hM
  obtain ⟨h0, h1, h2, h3, h4, hc1, hc, hr1, hr, hw, hn, hl⟩ := hM
  refine zRun_of (by decide +kernel) rfl rfl (Nat.le_of_ble_eq_true rfl) ?_
  suffices hs : ∀ (o9 : zO) (h9 : zH), (Sum.inr (some (.int (nI (zCt (fun l => s (7 + 4 * l) == v) cnt)))) : zO) = o9 → (zHp S X (s, past, aside, pasts, txt, typed, thrown, line, need, left, slits, slB, slF, slT, at9, wd9, got, ans, worst) out) = h9 → zPW G mX10_colorOf 0 0 o9 h9 0 0 0 [(0, .ref 114), (1, .int v), (2, .int (nI 3))] [] (zHp S X (s, past, aside, pasts, txt, typed, thrown, line, need, left, slits, slB, slF, slT, at9, wd9, got, ans, worst) out) from hs _ _ rfl rfl
  intro o9 h9 ho9 hh9
  refine z_iload_n 2 dX10_colorOf_0 rfl rfl ?_
  refine z_iconst (v := nI 2) dX10_colorOf_1 (by decide) ?_
  refine z_icmp_ne (tgt := 13) dX10_colorOf_2 (by decide) (fun c_2 => ?_) (fun c_2 => ?_)
  · skip
    have f_2 := m_ne (by omega) (by omega) c_2
    refine z_iload_n 2 dX10_colorOf_13 rfl rfl ?_
    refine z_iconst (v := nI 3) dX10_colorOf_14 (by decide) ?_
    refine z_icmp_ne (tgt := 26) dX10_colorOf_15 (by decide) (fun c_15 => ?_) (fun c_15 => ?_)
    · exfalso; revert c_15; decide
    · skip
      have f_15 := m_eq (by omega) (by omega) c_15
      refine z_aload_n 0 dX10_colorOf_18 rfl rfl ?_
      refine z_iload_n 1 dX10_colorOf_19 rfl rfl ?_
      refine z_callV (N := mX10_lotsOf) 1 [.int v] [] lX10_lotsOf ⟨zw_1480, zw_1482, zw_87⟩ rfl zgo_114 rfl rfl (Nat.le_of_ble_eq_true rfl) (by decide) ⟨zlt, zlt⟩ ⟨Nat.zero_le _, Nat.zero_le _⟩ (fun _ => rfl) (m_lotsOf hG hM9 v) dX10_colorOf_20 ?_
      refine z_goto (tgt := 32) dX10_colorOf_23 (by decide) ?_
      exact z_iret rfl dX10_colorOf_32 (zo_i ho9 (by rfl)) (zo_h hh9 (by rfl)) (Nat.zero_le _) (Nat.zero_le _)
  · exfalso; revert c_2; decide

set_option maxHeartbeats 4000000 in
set_option maxRecDepth 100000 in
theorem m_colorOf_4 {G : zT} {S : zS} {X : zXr} {out : Nat → Int64} {s : (Nat → Int32)} {past : (Nat → Int32)} {aside : (Nat → Int32)} {pasts : Nat} {txt : (Nat → Int32)} {typed : Nat} {thrown : Int32} {line : (Nat → Int32)} {need : (Nat → Int32)} {left : (Nat → Int32)} {slits : Nat} {slB : (Nat → Int32)} {slF : (Nat → Int32)} {slT : (Nat → Int32)} {at9 : Nat} {wd9 : Int32} {got : (Nat → Int32)} {ans : Int32} {worst : UInt32} (hG : zAl G = false) {c r w cnt lim : Nat} (hM : zMd s c r w cnt lim) (v : Int32) : zRun G mX10_colorOf 0 0 [.ref 114, .int v, .int (nI 4)] (zHp S X (s, past, aside, pasts, txt, typed, thrown, line, need, left, slits, slB, slF, slT, at9, wd9, got, ans, worst) out) (.inr (some (.int (nI (zSN (fun y => if y < w then zCt (fun b => rW s y b == v && rBeg (rW s y) b) c else 0) r))))) (zHp S X (s, past, aside, pasts, txt, typed, thrown, (zIt (fun y L => if y < w then zFl (rW s y) L c else L) r line), need, left, slits, slB, slF, slT, at9, wd9, got, ans, worst) out) := by
  have hM9 := hM
  obtain ⟨h0, h1, h2, h3, h4, hc1, hc, hr1, hr, hw, hn, hl⟩ := hM
  refine zRun_of (by decide +kernel) rfl rfl (Nat.le_of_ble_eq_true rfl) ?_
  suffices hs : ∀ (o9 : zO) (h9 : zH), (Sum.inr (some (.int (nI (zSN (fun y => if y < w then zCt (fun b => rW s y b == v && rBeg (rW s y) b) c else 0) r)))) : zO) = o9 → (zHp S X (s, past, aside, pasts, txt, typed, thrown, (zIt (fun y L => if y < w then zFl (rW s y) L c else L) r line), need, left, slits, slB, slF, slT, at9, wd9, got, ans, worst) out) = h9 → zPW G mX10_colorOf 0 0 o9 h9 0 0 0 [(0, .ref 114), (1, .int v), (2, .int (nI 4))] [] (zHp S X (s, past, aside, pasts, txt, typed, thrown, line, need, left, slits, slB, slF, slT, at9, wd9, got, ans, worst) out) from hs _ _ rfl rfl
  intro o9 h9 ho9 hh9
  refine z_iload_n 2 dX10_colorOf_0 rfl rfl ?_
  refine z_iconst (v := nI 2) dX10_colorOf_1 (by decide) ?_
  refine z_icmp_ne (tgt := 13) dX10_colorOf_2 (by decide) (fun c_2 => ?_) (fun c_2 => ?_)
  · skip
    have f_2 := m_ne (by omega) (by omega) c_2
    refine z_iload_n 2 dX10_colorOf_13 rfl rfl ?_
    refine z_iconst (v := nI 3) dX10_colorOf_14 (by decide) ?_
    refine z_icmp_ne (tgt := 26) dX10_colorOf_15 (by decide) (fun c_15 => ?_) (fun c_15 => ?_)
    · skip
      have f_15 := m_ne (by omega) (by omega) c_15
      refine z_aload_n 0 dX10_colorOf_26 rfl rfl ?_
      refine z_iload_n 1 dX10_colorOf_27 rfl rfl ?_
      refine z_iload_n 2 dX10_colorOf_28 rfl rfl ?_
      refine z_callV (N := mX10_sumOf) 2 [.int v, .int (nI 4)] [] lX10_sumOf ⟨zw_1484, zw_1486, zw_88⟩ rfl zgo_114 rfl rfl (Nat.le_of_ble_eq_true rfl) (by decide) ⟨zlt, zlt⟩ ⟨Nat.zero_le _, Nat.zero_le _⟩ zal (m_sumOf_4 hG hM9 v) dX10_colorOf_29 ?_
      exact z_iret rfl dX10_colorOf_32 (zo_i ho9 (by rfl)) (zo_h hh9 (by rfl)) (Nat.zero_le _) (Nat.zero_le _)
    · exfalso; revert c_15; decide
  · exfalso; revert c_2; decide

set_option maxHeartbeats 4000000 in
set_option maxRecDepth 100000 in
theorem m_colorOf_5 {G : zT} {S : zS} {X : zXr} {out : Nat → Int64} {s : (Nat → Int32)} {past : (Nat → Int32)} {aside : (Nat → Int32)} {pasts : Nat} {txt : (Nat → Int32)} {typed : Nat} {thrown : Int32} {line : (Nat → Int32)} {need : (Nat → Int32)} {left : (Nat → Int32)} {slits : Nat} {slB : (Nat → Int32)} {slF : (Nat → Int32)} {slT : (Nat → Int32)} {at9 : Nat} {wd9 : Int32} {got : (Nat → Int32)} {ans : Int32} {worst : UInt32} (hG : zAl G = false) {c r w cnt lim : Nat} (hM : zMd s c r w cnt lim) (v : Int32) : zRun G mX10_colorOf 0 0 [.ref 114, .int v, .int (nI 5)] (zHp S X (s, past, aside, pasts, txt, typed, thrown, line, need, left, slits, slB, slF, slT, at9, wd9, got, ans, worst) out) (.inr (some (.int (nI (zSN (fun y => if y < w then 0 else zCt (fun b => rD s c y b == v) c + zCt (fun b => rD s c y b == v && rBeg (rD s c y) b) c) r))))) (zHp S X (s, past, aside, pasts, txt, typed, thrown, (zIt (fun y L => zFl (rD s c y) L c) r line), need, left, slits, slB, slF, slT, at9, wd9, got, ans, worst) out) := by
  have hM9 := hM
  obtain ⟨h0, h1, h2, h3, h4, hc1, hc, hr1, hr, hw, hn, hl⟩ := hM
  refine zRun_of (by decide +kernel) rfl rfl (Nat.le_of_ble_eq_true rfl) ?_
  suffices hs : ∀ (o9 : zO) (h9 : zH), (Sum.inr (some (.int (nI (zSN (fun y => if y < w then 0 else zCt (fun b => rD s c y b == v) c + zCt (fun b => rD s c y b == v && rBeg (rD s c y) b) c) r)))) : zO) = o9 → (zHp S X (s, past, aside, pasts, txt, typed, thrown, (zIt (fun y L => zFl (rD s c y) L c) r line), need, left, slits, slB, slF, slT, at9, wd9, got, ans, worst) out) = h9 → zPW G mX10_colorOf 0 0 o9 h9 0 0 0 [(0, .ref 114), (1, .int v), (2, .int (nI 5))] [] (zHp S X (s, past, aside, pasts, txt, typed, thrown, line, need, left, slits, slB, slF, slT, at9, wd9, got, ans, worst) out) from hs _ _ rfl rfl
  intro o9 h9 ho9 hh9
  refine z_iload_n 2 dX10_colorOf_0 rfl rfl ?_
  refine z_iconst (v := nI 2) dX10_colorOf_1 (by decide) ?_
  refine z_icmp_ne (tgt := 13) dX10_colorOf_2 (by decide) (fun c_2 => ?_) (fun c_2 => ?_)
  · skip
    have f_2 := m_ne (by omega) (by omega) c_2
    refine z_iload_n 2 dX10_colorOf_13 rfl rfl ?_
    refine z_iconst (v := nI 3) dX10_colorOf_14 (by decide) ?_
    refine z_icmp_ne (tgt := 26) dX10_colorOf_15 (by decide) (fun c_15 => ?_) (fun c_15 => ?_)
    · skip
      have f_15 := m_ne (by omega) (by omega) c_15
      refine z_aload_n 0 dX10_colorOf_26 rfl rfl ?_
      refine z_iload_n 1 dX10_colorOf_27 rfl rfl ?_
      refine z_iload_n 2 dX10_colorOf_28 rfl rfl ?_
      refine z_callV (N := mX10_sumOf) 2 [.int v, .int (nI 5)] [] lX10_sumOf ⟨zw_1484, zw_1486, zw_88⟩ rfl zgo_114 rfl rfl (Nat.le_of_ble_eq_true rfl) (by decide) ⟨zlt, zlt⟩ ⟨Nat.zero_le _, Nat.zero_le _⟩ zal (m_sumOf_5 hG hM9 v) dX10_colorOf_29 ?_
      exact z_iret rfl dX10_colorOf_32 (zo_i ho9 (by rfl)) (zo_h hh9 (by rfl)) (Nat.zero_le _) (Nat.zero_le _)
    · exfalso; revert c_15; decide
  · exfalso; revert c_2; decide

theorem m_colorOf {G : zT} {S : zS} {X : zXr} {out : Nat → Int64} {s : (Nat → Int32)} {past : (Nat → Int32)} {aside : (Nat → Int32)} {pasts : Nat} {txt : (Nat → Int32)} {typed : Nat} {thrown : Int32} {line : (Nat → Int32)} {need : (Nat → Int32)} {left : (Nat → Int32)} {slits : Nat} {slB : (Nat → Int32)} {slF : (Nat → Int32)} {slT : (Nat → Int32)} {at9 : Nat} {wd9 : Int32} {got : (Nat → Int32)} {ans : Int32} {worst : UInt32} (hG : zAl G = false) {c r w cnt lim : Nat} (hM : zMd s c r w cnt lim) (v : Int32) (t : Nat) (ht : t ≤ 5) : zRun G mX10_colorOf 0 0 [.ref 114, .int v, .int (nI t)] (zHp S X (s, past, aside, pasts, txt, typed, thrown, line, need, left, slits, slB, slF, slT, at9, wd9, got, ans, worst) out) (.inr (some (.int (rCo s c r w cnt v t)))) (zHp S X (s, past, aside, pasts, txt, typed, thrown, (rCoL s c r w t line), need, left, slits, slB, slF, slT, at9, wd9, got, ans, worst) out) := by
  rcases (show t = 0 ∨ t = 1 ∨ t = 2 ∨ t = 3 ∨ t = 4 ∨ t = 5 by omega) with rfl | rfl | rfl | rfl | rfl | rfl
  · exact m_colorOf_0 hG hM v
  · exact m_colorOf_1 hG hM v
  · exact m_colorOf_2 hG hM v
  · exact m_colorOf_3 hG hM v
  · exact m_colorOf_4 hG hM v
  · exact m_colorOf_5 hG hM v

set_option maxHeartbeats 4000000 in
set_option maxRecDepth 100000 in
theorem m_slitOf_0 {G : zT} {S : zS} {X : zXr} {out : Nat → Int64} {s : (Nat → Int32)} {past : (Nat → Int32)} {aside : (Nat → Int32)} {pasts : Nat} {txt : (Nat → Int32)} {typed : Nat} {thrown : Int32} {line : (Nat → Int32)} {need : (Nat → Int32)} {left : (Nat → Int32)} {slits : Nat} {slB : (Nat → Int32)} {slF : (Nat → Int32)} {slT : (Nat → Int32)} {at9 : Nat} {wd9 : Int32} {got : (Nat → Int32)} {ans : Int32} {worst : UInt32} (hG : zAl G = false) (k : Nat) (hk : k < slits) (hsl : rSl (slits, slB, slF, slT)) : zRun G mX10_slitOf 0 0 [.ref 114, .int (nI k), .int (nI 0)] (zHp S X (s, past, aside, pasts, txt, typed, thrown, line, need, left, slits, slB, slF, slT, at9, wd9, got, ans, worst) out) (.inr (some (.int (slB k)))) (zHp S X (s, past, aside, pasts, txt, typed, thrown, line, need, left, slits, slB, slF, slT, at9, wd9, got, ans, worst) out) := by
  have hs160 : slits ≤ 160 := hsl.1
  refine zRun_of (by decide +kernel) rfl rfl (Nat.le_of_ble_eq_true rfl) ?_
  suffices hs : ∀ (o9 : zO) (h9 : zH), (Sum.inr (some (.int (slB k))) : zO) = o9 → (zHp S X (s, past, aside, pasts, txt, typed, thrown, line, need, left, slits, slB, slF, slT, at9, wd9, got, ans, worst) out) = h9 → zPW G mX10_slitOf 0 0 o9 h9 0 0 0 [(0, .ref 114), (1, .int (nI k)), (2, .int (nI 0))] [] (zHp S X (s, past, aside, pasts, txt, typed, thrown, line, need, left, slits, slB, slF, slT, at9, wd9, got, ans, worst) out) from hs _ _ rfl rfl
  intro o9 h9 ho9 hh9
  refine z_iload_n 2 dX10_slitOf_0 rfl rfl ?_
  refine z_if_ne (tgt := 13) dX10_slitOf_1 (by decide) (fun c_1 => ?_) (fun c_1 => ?_)
  · exfalso; revert c_1; decide
  · skip
    have f_1 := m_z_ne_f (by omega) c_1
    refine z_aload_n 0 dX10_slitOf_4 rfl rfl ?_
    refine z_get (v := .ref 122) 11 zgo_114 rfl inX10 (by decide) zw_1189 rfl rfl dX10_slitOf_5 ?_
    refine z_iload_n 1 dX10_slitOf_8 rfl rfl ?_
    refine z_ialdN (f := slB) (n := 160) (j := k) zga_122 (by omega) (by decide) dX10_slitOf_9 ?_
    refine z_goto (tgt := 54) dX10_slitOf_10 (by decide) ?_
    exact z_iret rfl dX10_slitOf_54 (zo_i ho9 (by rfl)) (zo_h hh9 (by rfl)) (Nat.zero_le _) (Nat.zero_le _)

set_option maxHeartbeats 4000000 in
set_option maxRecDepth 100000 in
theorem m_slitOf_1 {G : zT} {S : zS} {X : zXr} {out : Nat → Int64} {s : (Nat → Int32)} {past : (Nat → Int32)} {aside : (Nat → Int32)} {pasts : Nat} {txt : (Nat → Int32)} {typed : Nat} {thrown : Int32} {line : (Nat → Int32)} {need : (Nat → Int32)} {left : (Nat → Int32)} {slits : Nat} {slB : (Nat → Int32)} {slF : (Nat → Int32)} {slT : (Nat → Int32)} {at9 : Nat} {wd9 : Int32} {got : (Nat → Int32)} {ans : Int32} {worst : UInt32} (hG : zAl G = false) (k : Nat) (hk : k < slits) (hsl : rSl (slits, slB, slF, slT)) : zRun G mX10_slitOf 0 0 [.ref 114, .int (nI k), .int (nI 1)] (zHp S X (s, past, aside, pasts, txt, typed, thrown, line, need, left, slits, slB, slF, slT, at9, wd9, got, ans, worst) out) (.inr (some (.int (slF k)))) (zHp S X (s, past, aside, pasts, txt, typed, thrown, line, need, left, slits, slB, slF, slT, at9, wd9, got, ans, worst) out) := by
  have hs160 : slits ≤ 160 := hsl.1
  refine zRun_of (by decide +kernel) rfl rfl (Nat.le_of_ble_eq_true rfl) ?_
  suffices hs : ∀ (o9 : zO) (h9 : zH), (Sum.inr (some (.int (slF k))) : zO) = o9 → (zHp S X (s, past, aside, pasts, txt, typed, thrown, line, need, left, slits, slB, slF, slT, at9, wd9, got, ans, worst) out) = h9 → zPW G mX10_slitOf 0 0 o9 h9 0 0 0 [(0, .ref 114), (1, .int (nI k)), (2, .int (nI 1))] [] (zHp S X (s, past, aside, pasts, txt, typed, thrown, line, need, left, slits, slB, slF, slT, at9, wd9, got, ans, worst) out) from hs _ _ rfl rfl
  intro o9 h9 ho9 hh9
  refine z_iload_n 2 dX10_slitOf_0 rfl rfl ?_
  refine z_if_ne (tgt := 13) dX10_slitOf_1 (by decide) (fun c_1 => ?_) (fun c_1 => ?_)
  · skip
    have f_1 := m_z_ne_t (by omega) c_1
    refine z_iload_n 2 dX10_slitOf_13 rfl rfl ?_
    refine z_iconst (v := nI 1) dX10_slitOf_14 (by decide) ?_
    refine z_icmp_ne (tgt := 27) dX10_slitOf_15 (by decide) (fun c_15 => ?_) (fun c_15 => ?_)
    · exfalso; revert c_15; decide
    · skip
      have f_15 := m_eq (by omega) (by omega) c_15
      refine z_aload_n 0 dX10_slitOf_18 rfl rfl ?_
      refine z_get (v := .ref 123) 12 zgo_114 rfl inX10 (by decide) zw_1190 rfl rfl dX10_slitOf_19 ?_
      refine z_iload_n 1 dX10_slitOf_22 rfl rfl ?_
      refine z_ialdN (f := slF) (n := 160) (j := k) zga_123 (by omega) (by decide) dX10_slitOf_23 ?_
      refine z_goto (tgt := 54) dX10_slitOf_24 (by decide) ?_
      exact z_iret rfl dX10_slitOf_54 (zo_i ho9 (by rfl)) (zo_h hh9 (by rfl)) (Nat.zero_le _) (Nat.zero_le _)
  · exfalso; revert c_1; decide

set_option maxHeartbeats 4000000 in
set_option maxRecDepth 100000 in
theorem m_slitOf_2 {G : zT} {S : zS} {X : zXr} {out : Nat → Int64} {s : (Nat → Int32)} {past : (Nat → Int32)} {aside : (Nat → Int32)} {pasts : Nat} {txt : (Nat → Int32)} {typed : Nat} {thrown : Int32} {line : (Nat → Int32)} {need : (Nat → Int32)} {left : (Nat → Int32)} {slits : Nat} {slB : (Nat → Int32)} {slF : (Nat → Int32)} {slT : (Nat → Int32)} {at9 : Nat} {wd9 : Int32} {got : (Nat → Int32)} {ans : Int32} {worst : UInt32} (hG : zAl G = false) (k : Nat) (hk : k < slits) (hsl : rSl (slits, slB, slF, slT)) : zRun G mX10_slitOf 0 0 [.ref 114, .int (nI k), .int (nI 2)] (zHp S X (s, past, aside, pasts, txt, typed, thrown, line, need, left, slits, slB, slF, slT, at9, wd9, got, ans, worst) out) (.inr (some (.int (slT k)))) (zHp S X (s, past, aside, pasts, txt, typed, thrown, line, need, left, slits, slB, slF, slT, at9, wd9, got, ans, worst) out) := by
  have hs160 : slits ≤ 160 := hsl.1
  refine zRun_of (by decide +kernel) rfl rfl (Nat.le_of_ble_eq_true rfl) ?_
  suffices hs : ∀ (o9 : zO) (h9 : zH), (Sum.inr (some (.int (slT k))) : zO) = o9 → (zHp S X (s, past, aside, pasts, txt, typed, thrown, line, need, left, slits, slB, slF, slT, at9, wd9, got, ans, worst) out) = h9 → zPW G mX10_slitOf 0 0 o9 h9 0 0 0 [(0, .ref 114), (1, .int (nI k)), (2, .int (nI 2))] [] (zHp S X (s, past, aside, pasts, txt, typed, thrown, line, need, left, slits, slB, slF, slT, at9, wd9, got, ans, worst) out) from hs _ _ rfl rfl
  intro o9 h9 ho9 hh9
  refine z_iload_n 2 dX10_slitOf_0 rfl rfl ?_
  refine z_if_ne (tgt := 13) dX10_slitOf_1 (by decide) (fun c_1 => ?_) (fun c_1 => ?_)
  · skip
    have f_1 := m_z_ne_t (by omega) c_1
    refine z_iload_n 2 dX10_slitOf_13 rfl rfl ?_
    refine z_iconst (v := nI 1) dX10_slitOf_14 (by decide) ?_
    refine z_icmp_ne (tgt := 27) dX10_slitOf_15 (by decide) (fun c_15 => ?_) (fun c_15 => ?_)
    · skip
      have f_15 := m_ne (by omega) (by omega) c_15
      refine z_iload_n 2 dX10_slitOf_27 rfl rfl ?_
      refine z_iconst (v := nI 2) dX10_slitOf_28 (by decide) ?_
      refine z_icmp_ne (tgt := 41) dX10_slitOf_29 (by decide) (fun c_29 => ?_) (fun c_29 => ?_)
      · exfalso; revert c_29; decide
      · skip
        have f_29 := m_eq (by omega) (by omega) c_29
        refine z_aload_n 0 dX10_slitOf_32 rfl rfl ?_
        refine z_get (v := .ref 124) 13 zgo_114 rfl inX10 (by decide) zw_1191 rfl rfl dX10_slitOf_33 ?_
        refine z_iload_n 1 dX10_slitOf_36 rfl rfl ?_
        refine z_ialdN (f := slT) (n := 160) (j := k) zga_124 (by omega) (by decide) dX10_slitOf_37 ?_
        refine z_goto (tgt := 54) dX10_slitOf_38 (by decide) ?_
        exact z_iret rfl dX10_slitOf_54 (zo_i ho9 (by rfl)) (zo_h hh9 (by rfl)) (Nat.zero_le _) (Nat.zero_le _)
    · exfalso; revert c_15; decide
  · exfalso; revert c_1; decide

set_option maxHeartbeats 4000000 in
set_option maxRecDepth 100000 in
theorem m_slitOf_3 {G : zT} {S : zS} {X : zXr} {out : Nat → Int64} {s : (Nat → Int32)} {past : (Nat → Int32)} {aside : (Nat → Int32)} {pasts : Nat} {txt : (Nat → Int32)} {typed : Nat} {thrown : Int32} {line : (Nat → Int32)} {need : (Nat → Int32)} {left : (Nat → Int32)} {slits : Nat} {slB : (Nat → Int32)} {slF : (Nat → Int32)} {slT : (Nat → Int32)} {at9 : Nat} {wd9 : Int32} {got : (Nat → Int32)} {ans : Int32} {worst : UInt32} (hG : zAl G = false) (k : Nat) (hk : k < slits) (hsl : rSl (slits, slB, slF, slT)) : zRun G mX10_slitOf 0 0 [.ref 114, .int (nI k), .int (nI 3)] (zHp S X (s, past, aside, pasts, txt, typed, thrown, line, need, left, slits, slB, slF, slT, at9, wd9, got, ans, worst) out) (.inr (some (.int (zB (s (rSx slB slF k) == nI 1))))) (zHp S X (s, past, aside, pasts, txt, typed, thrown, line, need, left, slits, slB, slF, slT, at9, wd9, got, ans, worst) out) := by
  have hs160 : slits ≤ 160 := hsl.1
  refine zRun_of (by decide +kernel) rfl rfl (Nat.le_of_ble_eq_true rfl) ?_
  suffices hs : ∀ (o9 : zO) (h9 : zH), (Sum.inr (some (.int (zB (s (rSx slB slF k) == nI 1)))) : zO) = o9 → (zHp S X (s, past, aside, pasts, txt, typed, thrown, line, need, left, slits, slB, slF, slT, at9, wd9, got, ans, worst) out) = h9 → zPW G mX10_slitOf 0 0 o9 h9 0 0 0 [(0, .ref 114), (1, .int (nI k)), (2, .int (nI 3))] [] (zHp S X (s, past, aside, pasts, txt, typed, thrown, line, need, left, slits, slB, slF, slT, at9, wd9, got, ans, worst) out) from hs _ _ rfl rfl
  intro o9 h9 ho9 hh9
  refine z_iload_n 2 dX10_slitOf_0 rfl rfl ?_
  refine z_if_ne (tgt := 13) dX10_slitOf_1 (by decide) (fun c_1 => ?_) (fun c_1 => ?_)
  · skip
    have f_1 := m_z_ne_t (by omega) c_1
    refine z_iload_n 2 dX10_slitOf_13 rfl rfl ?_
    refine z_iconst (v := nI 1) dX10_slitOf_14 (by decide) ?_
    refine z_icmp_ne (tgt := 27) dX10_slitOf_15 (by decide) (fun c_15 => ?_) (fun c_15 => ?_)
    · skip
      have f_15 := m_ne (by omega) (by omega) c_15
      refine z_iload_n 2 dX10_slitOf_27 rfl rfl ?_
      refine z_iconst (v := nI 2) dX10_slitOf_28 (by decide) ?_
      refine z_icmp_ne (tgt := 41) dX10_slitOf_29 (by decide) (fun c_29 => ?_) (fun c_29 => ?_)
      · skip
        have f_29 := m_ne (by omega) (by omega) c_29
        refine z_aload_n 0 dX10_slitOf_41 rfl rfl ?_
        refine z_iload_n 1 dX10_slitOf_42 rfl rfl ?_
        refine z_callV (N := mX10_isSewn) 1 [.int (nI k)] [] lX10_isSewn ⟨zw_1412, zw_1414, zw_74⟩ rfl zgo_114 rfl rfl (Nat.le_of_ble_eq_true rfl) (by decide) ⟨zlt, zlt⟩ ⟨Nat.zero_le _, Nat.zero_le _⟩ (fun _ => rfl) (m_isSewn hG k (by omega) hsl) dX10_slitOf_43 ?_
        refine z_if_eq (tgt := 53) dX10_slitOf_46 (by decide) (fun c_46 => ?_) (fun c_46 => ?_)
        · skip
          have b_46 := zB_0.mp c_46
          refine z_iconst (v := nI 0) dX10_slitOf_53 (by decide) ?_
          exact z_iret rfl dX10_slitOf_54 (zo_i ho9 (by first | rfl | (rw [b_46]; rfl))) (zo_h hh9 (by rfl)) (Nat.zero_le _) (Nat.zero_le _)
        · skip
          have b_46 := zB_tt c_46
          refine z_iconst (v := nI 1) dX10_slitOf_49 (by decide) ?_
          refine z_goto (tgt := 54) dX10_slitOf_50 (by decide) ?_
          exact z_iret rfl dX10_slitOf_54 (zo_i ho9 (by first | rfl | (rw [b_46]; rfl))) (zo_h hh9 (by rfl)) (Nat.zero_le _) (Nat.zero_le _)
      · exfalso; revert c_29; decide
    · exfalso; revert c_15; decide
  · exfalso; revert c_1; decide

theorem m_slitOf {G : zT} {S : zS} {X : zXr} {out : Nat → Int64} {s : (Nat → Int32)} {past : (Nat → Int32)} {aside : (Nat → Int32)} {pasts : Nat} {txt : (Nat → Int32)} {typed : Nat} {thrown : Int32} {line : (Nat → Int32)} {need : (Nat → Int32)} {left : (Nat → Int32)} {slits : Nat} {slB : (Nat → Int32)} {slF : (Nat → Int32)} {slT : (Nat → Int32)} {at9 : Nat} {wd9 : Int32} {got : (Nat → Int32)} {ans : Int32} {worst : UInt32} (hG : zAl G = false) (k : Nat) (hk : k < slits) (hsl : rSl (slits, slB, slF, slT)) (t : Nat) (ht : t ≤ 3) : zRun G mX10_slitOf 0 0 [.ref 114, .int (nI k), .int (nI t)] (zHp S X (s, past, aside, pasts, txt, typed, thrown, line, need, left, slits, slB, slF, slT, at9, wd9, got, ans, worst) out) (.inr (some (.int (rSt s (slits, slB, slF, slT) k t)))) (zHp S X (s, past, aside, pasts, txt, typed, thrown, line, need, left, slits, slB, slF, slT, at9, wd9, got, ans, worst) out) := by
  rcases (show t = 0 ∨ t = 1 ∨ t = 2 ∨ t = 3 by omega) with rfl | rfl | rfl | rfl
  · exact m_slitOf_0 hG k hk hsl
  · exact m_slitOf_1 hG k hk hsl
  · exact m_slitOf_2 hG k hk hsl
  · exact m_slitOf_3 hG k hk hsl

set_option maxHeartbeats 4000000 in
set_option maxRecDepth 100000 in
theorem m_over_5 {G : zT} {S : zS} {X : zXr} {out : Nat → Int64} {s : (Nat → Int32)} {past : (Nat → Int32)} {aside : (Nat → Int32)} {pasts : Nat} {txt : (Nat → Int32)} {typed : Nat} {thrown : Int32} {line : (Nat → Int32)} {need : (Nat → Int32)} {left : (Nat → Int32)} {slits : Nat} {slB : (Nat → Int32)} {slF : (Nat → Int32)} {slT : (Nat → Int32)} {at9 : Nat} {wd9 : Int32} {got : (Nat → Int32)} {ans : Int32} {worst : UInt32} (hG : zAl G = false) {c r w cnt lim : Nat} (hM : zMd s c r w cnt lim) : zRun G mX10_over 0 0 [.ref 114, .int (nI 5)] (zHp S X (s, past, aside, pasts, txt, typed, thrown, line, need, left, slits, slB, slF, slT, at9, wd9, got, ans, worst) out) (.inr (some (.int (nI (zSN (fun y => zCt (fun b => !(rW s y b == rD s c y b)) c) w))))) (zHp S X (s, past, aside, pasts, txt, typed, thrown, line, need, left, slits, slB, slF, slT, at9, wd9, got, ans, worst) out) := by
  have hM9 := hM
  obtain ⟨h0, h1, h2, h3, h4, hc1, hc, hr1, hr, hw, hn, hl⟩ := hM
  refine zRun_of (by decide +kernel) rfl rfl (Nat.le_of_ble_eq_true rfl) ?_
  suffices hs : ∀ (o9 : zO) (h9 : zH), (Sum.inr (some (.int (nI (zSN (fun y => zCt (fun b => !(rW s y b == rD s c y b)) c) w)))) : zO) = o9 → (zHp S X (s, past, aside, pasts, txt, typed, thrown, line, need, left, slits, slB, slF, slT, at9, wd9, got, ans, worst) out) = h9 → zPW G mX10_over 0 0 o9 h9 0 0 0 [(0, .ref 114), (1, .int (nI 5))] [] (zHp S X (s, past, aside, pasts, txt, typed, thrown, line, need, left, slits, slB, slF, slT, at9, wd9, got, ans, worst) out) from hs _ _ rfl rfl
  intro o9 h9 ho9 hh9
  refine z_iconst (v := nI 0) dX10_over_0 (by decide) ?_
  refine z_istore_n (lv' := [(2, .int (nI 0)), (0, .ref 114), (1, .int (nI 5))]) dX10_over_1 rfl (by decide) rfl ?_
  refine z_iconst (v := nI 0) dX10_over_2 (by decide) ?_
  refine z_istore_n (lv' := [(3, .int (nI 0)), (2, .int (nI 0)), (0, .ref 114), (1, .int (nI 5))]) dX10_over_3 rfl (by decide) rfl ?_
  have L4_1 : ∀ (d k : Nat), k ≤ w → w + 1 ≤ k + d → zPW G mX10_over 0 0 o9 h9 0 0 4 [(3, .int (nI k)), (2, .int (nI (zSN (fun y => zCt (fun b => !(rW s y b == rD s c y b)) c) k))), (0, .ref 114), (1, .int (nI 5))] [] (zHp S X (s, past, aside, pasts, txt, typed, thrown, line, need, left, slits, slB, slF, slT, at9, wd9, got, ans, worst) out) := by
    intro d
    induction d with
    | zero => intro k hk hd; exact absurd hd (by omega)
    | succ d ih =>
      intro k hk_k hd_k
      have ih4 := ih
      clear ih
      refine z_iload_n 0 dX10_over_4 rfl rfl ?_
      refine z_aload_n 2 dX10_over_5 rfl rfl ?_
      refine z_get (v := .ref 115) 0 zgo_114 rfl inX10 (by decide) zw_1178 rfl rfl dX10_over_6 ?_
      refine z_iconst (v := nI 2) dX10_over_9 (by decide) ?_
      refine z_ialdN (f := s) (n := 1371) (j := 2) zga_115 (by omega) (by decide) dX10_over_10 ?_
      refine z_top (v2 := .int (nI w)) (by rw [h2]) ?_
      refine z_icmp_ge (tgt := 80) dX10_over_11 (by decide) (fun c_11 => ?_) (fun c_11 => ?_)
      · skip
        have f_11 := m_le (by omega) (by omega) c_11
        have e_k : k = w := by omega
        rw [e_k]
        refine z_iload_n 1 dX10_over_80 rfl rfl ?_
        exact z_iret rfl dX10_over_81 (zo_i ho9 (by rfl)) (zo_h hh9 (by rfl)) (Nat.zero_le _) (Nat.zero_le _)
      · skip
        have f_11 := m_nle (by omega) (by omega) c_11
        refine z_iload_n 3 dX10_over_14 rfl rfl ?_
        refine z_iconst (v := nI 5) dX10_over_15 (by decide) ?_
        refine z_icmp_ne (tgt := 27) dX10_over_16 (by decide) (fun c_16 => ?_) (fun c_16 => ?_)
        · exfalso; revert c_16; decide
        · skip
          have f_16 := m_eq (by omega) (by omega) c_16
          refine z_aload_n 2 dX10_over_19 rfl rfl ?_
          refine z_iload_n 0 dX10_over_20 rfl rfl ?_
          refine z_callV (N := mX10_wrong) 1 [.int (nI k)] [] lX10_wrong ⟨zw_1452, zw_1454, zw_82⟩ rfl zgo_114 rfl rfl (Nat.le_of_ble_eq_true rfl) (by decide) ⟨zlt, zlt⟩ ⟨Nat.zero_le _, Nat.zero_le _⟩ (fun _ => rfl) (m_wrong hG hM9 k (by omega)) dX10_over_21 ?_
          refine z_goto (tgt := 46) dX10_over_24 (by decide) ?_
          refine z_istore (lv' := [(4, .int (nI (zCt (fun b => !(rW s k b == rD s c k b)) c))), (3, .int (nI k)), (2, .int (nI (zSN (fun y => zCt (fun b => !(rW s y b == rD s c y b)) c) k))), (0, .ref 114), (1, .int (nI 5))]) dX10_over_46 (by decide) rfl ?_
          refine z_iload_n 4 dX10_over_48 rfl rfl ?_
          refine z_bipush (v := nI 11) dX10_over_49 (by decide) ?_
          refine z_icmp_ne (tgt := 69) dX10_over_51 (by decide) (fun c_51 => ?_) (fun c_51 => ?_)
          · skip
            have f_51 := m_ne (by omega) (by omega) c_51
            refine z_iload_n 2 dX10_over_69 rfl rfl ?_
            refine z_iload 0 dX10_over_70 rfl ?_
            refine z_iaddN (a := zSN (fun y => zCt (fun b => !(rW s y b == rD s c y b)) c) k) (b := zCt (fun b => !(rW s k b == rD s c k b)) c) dX10_over_72 ?_
            refine z_istore_n (lv' := [(2, .int (nI ((zSN (fun y => zCt (fun b => !(rW s y b == rD s c y b)) c) k) + zCt (fun b => !(rW s k b == rD s c k b)) c))), (4, .int (nI (zCt (fun b => !(rW s k b == rD s c k b)) c))), (3, .int (nI k)), (0, .ref 114), (1, .int (nI 5))]) dX10_over_73 rfl (by decide) rfl ?_
            refine z_iinc (v := nI (k + 1)) (lv' := [(3, .int (nI (k + 1))), (2, .int (nI ((zSN (fun y => zCt (fun b => !(rW s y b == rD s c y b)) c) k) + zCt (fun b => !(rW s k b == rD s c k b)) c))), (4, .int (nI (zCt (fun b => !(rW s k b == rD s c k b)) c))), (0, .ref 114), (1, .int (nI 5))]) 2 dX10_over_74 rfl (nI_1 _) (by decide) rfl ?_
            refine z_goto (tgt := 4) dX10_over_77 (by decide) ?_
            refine z_sub [0, 1, 3, 4] (lv' := [(3, .int (nI (k + 1))), (2, .int (nI ((zSN (fun y => zCt (fun b => !(rW s y b == rD s c y b)) c) k) + zCt (fun b => !(rW s k b == rD s c k b)) c))), (0, .ref 114), (1, .int (nI 5))]) rfl ?_
            refine z_eqs (lv2 := [(3, .int (nI ((k + 1)))), (2, .int (nI (zSN (fun y => zCt (fun b => !(rW s y b == rD s c y b)) c) (k + 1)))), (0, .ref 114), (1, .int (nI 5))]) (h2 := (zHp S X (s, past, aside, pasts, txt, typed, thrown, line, need, left, slits, slB, slF, slT, at9, wd9, got, ans, worst) out)) (by rfl) (by rfl) ?_
            exact ih4 (k + 1) (by omega) (by omega)
          · exfalso; revert c_51; decide
  refine z_sub [0, 1, 2, 3] (lv' := [(3, .int (nI 0)), (2, .int (nI 0)), (0, .ref 114), (1, .int (nI 5))]) rfl ?_
  refine z_eqs (lv2 := [(3, .int (nI 0)), (2, .int (nI (zSN (fun y => zCt (fun b => !(rW s y b == rD s c y b)) c) 0))), (0, .ref 114), (1, .int (nI 5))]) (h2 := (zHp S X (s, past, aside, pasts, txt, typed, thrown, line, need, left, slits, slB, slF, slT, at9, wd9, got, ans, worst) out)) (by rfl) (by rfl) ?_
  exact L4_1 (w + 1) 0 (by omega) (by omega)

set_option maxHeartbeats 4000000 in
set_option maxRecDepth 100000 in
theorem m_over_12 {G : zT} {S : zS} {X : zXr} {out : Nat → Int64} {s : (Nat → Int32)} {past : (Nat → Int32)} {aside : (Nat → Int32)} {pasts : Nat} {txt : (Nat → Int32)} {typed : Nat} {thrown : Int32} {line : (Nat → Int32)} {need : (Nat → Int32)} {left : (Nat → Int32)} {slits : Nat} {slB : (Nat → Int32)} {slF : (Nat → Int32)} {slT : (Nat → Int32)} {at9 : Nat} {wd9 : Int32} {got : (Nat → Int32)} {ans : Int32} {worst : UInt32} (hG : zAl G = false) {c r w cnt lim : Nat} (hM : zMd s c r w cnt lim) : zRun G mX10_over 0 0 [.ref 114, .int (nI 12)] (zHp S X (s, past, aside, pasts, txt, typed, thrown, line, need, left, slits, slB, slF, slT, at9, wd9, got, ans, worst) out) (.inr (some (.int (nI (zSN (fun y => rFre s (rW s y) c y) w))))) (zHp S X (s, past, aside, pasts, txt, typed, thrown, (zIt (fun y L => zFl (rW s y) L c) w line), need, left, slits, slB, slF, slT, at9, wd9, got, ans, worst) out) := by
  have hM9 := hM
  obtain ⟨h0, h1, h2, h3, h4, hc1, hc, hr1, hr, hw, hn, hl⟩ := hM
  refine zRun_of (by decide +kernel) rfl rfl (Nat.le_of_ble_eq_true rfl) ?_
  suffices hs : ∀ (o9 : zO) (h9 : zH), (Sum.inr (some (.int (nI (zSN (fun y => rFre s (rW s y) c y) w)))) : zO) = o9 → (zHp S X (s, past, aside, pasts, txt, typed, thrown, (zIt (fun y L => zFl (rW s y) L c) w line), need, left, slits, slB, slF, slT, at9, wd9, got, ans, worst) out) = h9 → zPW G mX10_over 0 0 o9 h9 0 0 0 [(0, .ref 114), (1, .int (nI 12))] [] (zHp S X (s, past, aside, pasts, txt, typed, thrown, line, need, left, slits, slB, slF, slT, at9, wd9, got, ans, worst) out) from hs _ _ rfl rfl
  intro o9 h9 ho9 hh9
  refine z_iconst (v := nI 0) dX10_over_0 (by decide) ?_
  refine z_istore_n (lv' := [(2, .int (nI 0)), (0, .ref 114), (1, .int (nI 12))]) dX10_over_1 rfl (by decide) rfl ?_
  refine z_iconst (v := nI 0) dX10_over_2 (by decide) ?_
  refine z_istore_n (lv' := [(3, .int (nI 0)), (2, .int (nI 0)), (0, .ref 114), (1, .int (nI 12))]) dX10_over_3 rfl (by decide) rfl ?_
  have L4_1 : ∀ (d k : Nat), k ≤ w → w + 1 ≤ k + d → zPW G mX10_over 0 0 o9 h9 0 0 4 [(3, .int (nI k)), (2, .int (nI (zSN (fun y => rFre s (rW s y) c y) k))), (0, .ref 114), (1, .int (nI 12))] [] (zHp S X (s, past, aside, pasts, txt, typed, thrown, (zIt (fun y L => zFl (rW s y) L c) k line), need, left, slits, slB, slF, slT, at9, wd9, got, ans, worst) out) := by
    intro d
    induction d with
    | zero => intro k hk hd; exact absurd hd (by omega)
    | succ d ih =>
      intro k hk_k hd_k
      have ih4 := ih
      clear ih
      refine z_iload_n 0 dX10_over_4 rfl rfl ?_
      refine z_aload_n 2 dX10_over_5 rfl rfl ?_
      refine z_get (v := .ref 115) 0 zgo_114 rfl inX10 (by decide) zw_1178 rfl rfl dX10_over_6 ?_
      refine z_iconst (v := nI 2) dX10_over_9 (by decide) ?_
      refine z_ialdN (f := s) (n := 1371) (j := 2) zga_115 (by omega) (by decide) dX10_over_10 ?_
      refine z_top (v2 := .int (nI w)) (by rw [h2]) ?_
      refine z_icmp_ge (tgt := 80) dX10_over_11 (by decide) (fun c_11 => ?_) (fun c_11 => ?_)
      · skip
        have f_11 := m_le (by omega) (by omega) c_11
        have e_k : k = w := by omega
        rw [e_k]
        refine z_iload_n 1 dX10_over_80 rfl rfl ?_
        exact z_iret rfl dX10_over_81 (zo_i ho9 (by rfl)) (zo_h hh9 (by rfl)) (Nat.zero_le _) (Nat.zero_le _)
      · skip
        have f_11 := m_nle (by omega) (by omega) c_11
        refine z_iload_n 3 dX10_over_14 rfl rfl ?_
        refine z_iconst (v := nI 5) dX10_over_15 (by decide) ?_
        refine z_icmp_ne (tgt := 27) dX10_over_16 (by decide) (fun c_16 => ?_) (fun c_16 => ?_)
        · skip
          have f_16 := m_ne (by omega) (by omega) c_16
          refine z_iload_n 3 dX10_over_27 rfl rfl ?_
          refine z_bipush (v := nI 11) dX10_over_28 (by decide) ?_
          refine z_icmp_ne (tgt := 41) dX10_over_30 (by decide) (fun c_30 => ?_) (fun c_30 => ?_)
          · skip
            have f_30 := m_ne (by omega) (by omega) c_30
            refine z_aload_n 2 dX10_over_41 rfl rfl ?_
            refine z_iload_n 0 dX10_over_42 rfl rfl ?_
            refine z_callV (N := mX10_fresh) 1 [.int (nI k)] [] lX10_fresh ⟨zw_1448, zw_1450, zw_81⟩ rfl zgo_114 rfl rfl (Nat.le_of_ble_eq_true rfl) (by decide) ⟨zlt, zlt⟩ ⟨Nat.zero_le _, Nat.zero_le _⟩ zal (m_fresh hG hM9 k (by omega)) dX10_over_43 ?_
            refine z_top (v2 := .int (nI (rFre s (rW s k) c k))) (by rw [rFre_fl]) ?_
            refine z_istore (lv' := [(4, .int (nI (rFre s (rW s k) c k))), (3, .int (nI k)), (2, .int (nI (zSN (fun y => rFre s (rW s y) c y) k))), (0, .ref 114), (1, .int (nI 12))]) dX10_over_46 (by decide) rfl ?_
            refine z_iload_n 4 dX10_over_48 rfl rfl ?_
            refine z_bipush (v := nI 11) dX10_over_49 (by decide) ?_
            refine z_icmp_ne (tgt := 69) dX10_over_51 (by decide) (fun c_51 => ?_) (fun c_51 => ?_)
            · skip
              have f_51 := m_ne (by omega) (by omega) c_51
              refine z_iload_n 2 dX10_over_69 rfl rfl ?_
              refine z_iload 0 dX10_over_70 rfl ?_
              refine z_iaddN (a := zSN (fun y => rFre s (rW s y) c y) k) (b := rFre s (rW s k) c k) dX10_over_72 ?_
              refine z_istore_n (lv' := [(2, .int (nI ((zSN (fun y => rFre s (rW s y) c y) k) + rFre s (rW s k) c k))), (4, .int (nI (rFre s (rW s k) c k))), (3, .int (nI k)), (0, .ref 114), (1, .int (nI 12))]) dX10_over_73 rfl (by decide) rfl ?_
              refine z_iinc (v := nI (k + 1)) (lv' := [(3, .int (nI (k + 1))), (2, .int (nI ((zSN (fun y => rFre s (rW s y) c y) k) + rFre s (rW s k) c k))), (4, .int (nI (rFre s (rW s k) c k))), (0, .ref 114), (1, .int (nI 12))]) 2 dX10_over_74 rfl (nI_1 _) (by decide) rfl ?_
              refine z_goto (tgt := 4) dX10_over_77 (by decide) ?_
              refine z_sub [0, 1, 3, 4] (lv' := [(3, .int (nI (k + 1))), (2, .int (nI ((zSN (fun y => rFre s (rW s y) c y) k) + rFre s (rW s k) c k))), (0, .ref 114), (1, .int (nI 12))]) rfl ?_
              refine z_eqs (lv2 := [(3, .int (nI ((k + 1)))), (2, .int (nI (zSN (fun y => rFre s (rW s y) c y) (k + 1)))), (0, .ref 114), (1, .int (nI 12))]) (h2 := (zHp S X (s, past, aside, pasts, txt, typed, thrown, (zIt (fun y L => zFl (rW s y) L c) (k + 1) line), need, left, slits, slB, slF, slT, at9, wd9, got, ans, worst) out)) (by rfl) (by rfl) ?_
              exact ih4 (k + 1) (by omega) (by omega)
            · exfalso; revert c_51; decide
          · exfalso; revert c_30; decide
        · exfalso; revert c_16; decide
  refine z_sub [0, 1, 2, 3] (lv' := [(3, .int (nI 0)), (2, .int (nI 0)), (0, .ref 114), (1, .int (nI 12))]) rfl ?_
  refine z_eqs (lv2 := [(3, .int (nI 0)), (2, .int (nI (zSN (fun y => rFre s (rW s y) c y) 0))), (0, .ref 114), (1, .int (nI 12))]) (h2 := (zHp S X (s, past, aside, pasts, txt, typed, thrown, (zIt (fun y L => zFl (rW s y) L c) 0 line), need, left, slits, slB, slF, slT, at9, wd9, got, ans, worst) out)) (by rfl) (by rfl) ?_
  exact L4_1 (w + 1) 0 (by omega) (by omega)

set_option maxHeartbeats 4000000 in
set_option maxRecDepth 100000 in
theorem m_over_11 {G : zT} {S : zS} {X : zXr} {out : Nat → Int64} {s : (Nat → Int32)} {past : (Nat → Int32)} {aside : (Nat → Int32)} {pasts : Nat} {txt : (Nat → Int32)} {typed : Nat} {thrown : Int32} {line : (Nat → Int32)} {need : (Nat → Int32)} {left : (Nat → Int32)} {slits : Nat} {slB : (Nat → Int32)} {slF : (Nat → Int32)} {slT : (Nat → Int32)} {at9 : Nat} {wd9 : Int32} {got : (Nat → Int32)} {ans : Int32} {worst : UInt32} (hG : zAl G = false) {c r w cnt lim : Nat} (hM : zMd s c r w cnt lim) : zRun G mX10_over 0 0 [.ref 114, .int (nI 11)] (zHp S X (s, past, aside, pasts, txt, typed, thrown, line, need, left, slits, slB, slF, slT, at9, wd9, got, ans, worst) out) (.inr (some (.int (nI (zMx (fun y => zCt (rBeg (rW s y)) c) w))))) (zHp S X (s, past, aside, pasts, txt, typed, thrown, (zIt (fun y L => zFl (rW s y) L c) w line), need, left, slits, slB, slF, slT, at9, wd9, got, ans, worst) out) := by
  have hM9 := hM
  obtain ⟨h0, h1, h2, h3, h4, hc1, hc, hr1, hr, hw, hn, hl⟩ := hM
  refine zRun_of (by decide +kernel) rfl rfl (Nat.le_of_ble_eq_true rfl) ?_
  suffices hs : ∀ (o9 : zO) (h9 : zH), (Sum.inr (some (.int (nI (zMx (fun y => zCt (rBeg (rW s y)) c) w)))) : zO) = o9 → (zHp S X (s, past, aside, pasts, txt, typed, thrown, (zIt (fun y L => zFl (rW s y) L c) w line), need, left, slits, slB, slF, slT, at9, wd9, got, ans, worst) out) = h9 → zPW G mX10_over 0 0 o9 h9 0 0 0 [(0, .ref 114), (1, .int (nI 11))] [] (zHp S X (s, past, aside, pasts, txt, typed, thrown, line, need, left, slits, slB, slF, slT, at9, wd9, got, ans, worst) out) from hs _ _ rfl rfl
  intro o9 h9 ho9 hh9
  refine z_iconst (v := nI 0) dX10_over_0 (by decide) ?_
  refine z_istore_n (lv' := [(2, .int (nI 0)), (0, .ref 114), (1, .int (nI 11))]) dX10_over_1 rfl (by decide) rfl ?_
  refine z_iconst (v := nI 0) dX10_over_2 (by decide) ?_
  refine z_istore_n (lv' := [(3, .int (nI 0)), (2, .int (nI 0)), (0, .ref 114), (1, .int (nI 11))]) dX10_over_3 rfl (by decide) rfl ?_
  have L4_1 : ∀ (d k : Nat), k ≤ w → w + 1 ≤ k + d → zPW G mX10_over 0 0 o9 h9 0 0 4 [(3, .int (nI k)), (2, .int (nI (zMx (fun y => zCt (rBeg (rW s y)) c) k))), (0, .ref 114), (1, .int (nI 11))] [] (zHp S X (s, past, aside, pasts, txt, typed, thrown, (zIt (fun y L => zFl (rW s y) L c) k line), need, left, slits, slB, slF, slT, at9, wd9, got, ans, worst) out) := by
    intro d
    induction d with
    | zero => intro k hk hd; exact absurd hd (by omega)
    | succ d ih =>
      intro k hk_k hd_k
      have ih4 := ih
      clear ih
      refine z_iload_n 0 dX10_over_4 rfl rfl ?_
      refine z_aload_n 2 dX10_over_5 rfl rfl ?_
      refine z_get (v := .ref 115) 0 zgo_114 rfl inX10 (by decide) zw_1178 rfl rfl dX10_over_6 ?_
      refine z_iconst (v := nI 2) dX10_over_9 (by decide) ?_
      refine z_ialdN (f := s) (n := 1371) (j := 2) zga_115 (by omega) (by decide) dX10_over_10 ?_
      refine z_top (v2 := .int (nI w)) (by rw [h2]) ?_
      refine z_icmp_ge (tgt := 80) dX10_over_11 (by decide) (fun c_11 => ?_) (fun c_11 => ?_)
      · skip
        have f_11 := m_le (by omega) (by omega) c_11
        have e_k : k = w := by omega
        rw [e_k]
        refine z_iload_n 1 dX10_over_80 rfl rfl ?_
        exact z_iret rfl dX10_over_81 (zo_i ho9 (by rfl)) (zo_h hh9 (by rfl)) (Nat.zero_le _) (Nat.zero_le _)
      · skip
        have f_11 := m_nle (by omega) (by omega) c_11
        refine z_iload_n 3 dX10_over_14 rfl rfl ?_
        refine z_iconst (v := nI 5) dX10_over_15 (by decide) ?_
        refine z_icmp_ne (tgt := 27) dX10_over_16 (by decide) (fun c_16 => ?_) (fun c_16 => ?_)
        · skip
          have f_16 := m_ne (by omega) (by omega) c_16
          refine z_iload_n 3 dX10_over_27 rfl rfl ?_
          refine z_bipush (v := nI 11) dX10_over_28 (by decide) ?_
          refine z_icmp_ne (tgt := 41) dX10_over_30 (by decide) (fun c_30 => ?_) (fun c_30 => ?_)
          · exfalso; revert c_30; decide
          · skip
            have f_30 := m_eq (by omega) (by omega) c_30
            refine z_aload_n 2 dX10_over_33 rfl rfl ?_
            refine z_iload_n 0 dX10_over_34 rfl rfl ?_
            refine z_callV (N := mX10_shuttles) 1 [.int (nI k)] [] lX10_shuttles ⟨zw_1436, zw_1438, zw_78⟩ rfl zgo_114 rfl rfl (Nat.le_of_ble_eq_true rfl) (by decide) ⟨zlt, zlt⟩ ⟨Nat.zero_le _, Nat.zero_le _⟩ zal (m_shuttles hG hM9 k (by omega)) dX10_over_35 ?_
            refine z_top (v2 := .int (nI (zCt (rBeg (rW s k)) c))) (by exact congrArg (fun n => Value.int (nI n)) (zCt_cg (fun b hb => rBeg_fl hb))) ?_
            refine z_goto (tgt := 46) dX10_over_38 (by decide) ?_
            refine z_istore (lv' := [(4, .int (nI (zCt (rBeg (rW s k)) c))), (3, .int (nI k)), (2, .int (nI (zMx (fun y => zCt (rBeg (rW s y)) c) k))), (0, .ref 114), (1, .int (nI 11))]) dX10_over_46 (by decide) rfl ?_
            refine z_iload_n 4 dX10_over_48 rfl rfl ?_
            refine z_bipush (v := nI 11) dX10_over_49 (by decide) ?_
            refine z_icmp_ne (tgt := 69) dX10_over_51 (by decide) (fun c_51 => ?_) (fun c_51 => ?_)
            · exfalso; revert c_51; decide
            · skip
              have f_51 := m_eq (by omega) (by omega) c_51
              have J73_58 : zPW G mX10_over 0 0 o9 h9 0 0 73 [(4, .int (nI (zCt (rBeg (rW s k)) c))), (3, .int (nI k)), (2, .int (nI (zMx (fun y => zCt (rBeg (rW s y)) c) k))), (0, .ref 114), (1, .int (nI 11))] [.int (nI (zMx (fun y => zCt (rBeg (rW s y)) c) (k + 1)))] (zHp S X (s, past, aside, pasts, txt, typed, thrown, (zFl (rW s k) (zIt (fun y L => zFl (rW s y) L c) k line) c), need, left, slits, slB, slF, slT, at9, wd9, got, ans, worst) out) := by
                refine z_istore_n (lv' := [(2, .int (nI (zMx (fun y => zCt (rBeg (rW s y)) c) (k + 1)))), (4, .int (nI (zCt (rBeg (rW s k)) c))), (3, .int (nI k)), (0, .ref 114), (1, .int (nI 11))]) dX10_over_73 rfl (by decide) rfl ?_
                refine z_iinc (v := nI (k + 1)) (lv' := [(3, .int (nI (k + 1))), (2, .int (nI (zMx (fun y => zCt (rBeg (rW s y)) c) (k + 1)))), (4, .int (nI (zCt (rBeg (rW s k)) c))), (0, .ref 114), (1, .int (nI 11))]) 2 dX10_over_74 rfl (nI_1 _) (by decide) rfl ?_
                refine z_goto (tgt := 4) dX10_over_77 (by decide) ?_
                refine z_sub [0, 1, 3, 4] (lv' := [(3, .int (nI (k + 1))), (2, .int (nI (zMx (fun y => zCt (rBeg (rW s y)) c) (k + 1)))), (0, .ref 114), (1, .int (nI 11))]) rfl ?_
                refine z_eqs (lv2 := [(3, .int (nI ((k + 1)))), (2, .int (nI (zMx (fun y => zCt (rBeg (rW s y)) c) (k + 1)))), (0, .ref 114), (1, .int (nI 11))]) (h2 := (zHp S X (s, past, aside, pasts, txt, typed, thrown, (zIt (fun y L => zFl (rW s y) L c) (k + 1) line), need, left, slits, slB, slF, slT, at9, wd9, got, ans, worst) out)) (by rfl) (by rfl) ?_
                exact ih4 (k + 1) (by omega) (by omega)
              refine z_iload 0 dX10_over_54 rfl ?_
              refine z_iload_n 2 dX10_over_56 rfl rfl ?_
              refine z_icmp_le (tgt := 65) dX10_over_57 (by decide) (fun c_57 => ?_) (fun c_57 => ?_)
              · skip
                have g_57 := m_le (Nat.lt_of_le_of_lt (zCt_le _ _) (by omega)) (Nat.lt_of_le_of_lt (zMx_le (fun _ => zCt_le _ _) _) (by omega)) c_57
                refine z_iload_n 2 dX10_over_65 rfl rfl ?_
                refine z_goto (tgt := 73) dX10_over_66 (by decide) ?_
                refine z_top (v2 := .int (nI (zMx (fun y => zCt (rBeg (rW s y)) c) (k + 1)))) (by first | exact congrArg (fun n => Value.int (nI n)) (Nat.max_eq_right (Nat.le_of_lt g_57)).symm | exact congrArg (fun n => Value.int (nI n)) (Nat.max_eq_left g_57).symm) ?_
                exact J73_58
              · skip
                have g_57 := m_nle (Nat.lt_of_le_of_lt (zCt_le _ _) (by omega)) (Nat.lt_of_le_of_lt (zMx_le (fun _ => zCt_le _ _) _) (by omega)) c_57
                refine z_iload 0 dX10_over_60 rfl ?_
                refine z_goto (tgt := 73) dX10_over_62 (by decide) ?_
                refine z_top (v2 := .int (nI (zMx (fun y => zCt (rBeg (rW s y)) c) (k + 1)))) (by first | exact congrArg (fun n => Value.int (nI n)) (Nat.max_eq_right (Nat.le_of_lt g_57)).symm | exact congrArg (fun n => Value.int (nI n)) (Nat.max_eq_left g_57).symm) ?_
                exact J73_58
        · exfalso; revert c_16; decide
  refine z_sub [0, 1, 2, 3] (lv' := [(3, .int (nI 0)), (2, .int (nI 0)), (0, .ref 114), (1, .int (nI 11))]) rfl ?_
  refine z_eqs (lv2 := [(3, .int (nI 0)), (2, .int (nI (zMx (fun y => zCt (rBeg (rW s y)) c) 0))), (0, .ref 114), (1, .int (nI 11))]) (h2 := (zHp S X (s, past, aside, pasts, txt, typed, thrown, (zIt (fun y L => zFl (rW s y) L c) 0 line), need, left, slits, slB, slF, slT, at9, wd9, got, ans, worst) out)) (by rfl) (by rfl) ?_
  exact L4_1 (w + 1) 0 (by omega) (by omega)

set_option maxHeartbeats 4000000 in
set_option maxRecDepth 100000 in
theorem m_cell {G : zT} {S : zS} {X : zXr} {out : Nat → Int64} {s : (Nat → Int32)} {past : (Nat → Int32)} {aside : (Nat → Int32)} {pasts : Nat} {txt : (Nat → Int32)} {typed : Nat} {thrown : Int32} {line : (Nat → Int32)} {need : (Nat → Int32)} {left : (Nat → Int32)} {slits : Nat} {slB : (Nat → Int32)} {slF : (Nat → Int32)} {slT : (Nat → Int32)} {at9 : Nat} {wd9 : Int32} {got : (Nat → Int32)} {ans : Int32} {worst : UInt32} (hG : zAl G = false) {c r w cnt lim : Nat} (hM : zMd s c r w cnt lim) (x y t : Nat) (hx : x < c) (hy : y < r) (ht : zFr (nI 0) (nI t) (nI 3) = true) (ht3 : t ≤ 3) : zRun G mX10_cell 0 0 [.ref 114, .int (nI x), .int (nI y), .int (nI t)] (zHp S X (s, past, aside, pasts, txt, typed, thrown, line, need, left, slits, slB, slF, slT, at9, wd9, got, ans, worst) out) (.inr (some (.int (rCe s c w x y t)))) (zHp S X (s, past, aside, pasts, txt, typed, (nI 0), line, need, left, slits, slB, slF, slT, at9, wd9, got, ans, worst) out) := by
  have hM9 := hM
  obtain ⟨h0, h1, h2, h3, h4, hc1, hc, hr1, hr, hw, hn, hl⟩ := hM
  refine zRun_of (by decide +kernel) rfl rfl (Nat.le_of_ble_eq_true rfl) ?_
  suffices hs : ∀ (o9 : zO) (h9 : zH), (Sum.inr (some (.int (rCe s c w x y t))) : zO) = o9 → (zHp S X (s, past, aside, pasts, txt, typed, (nI 0), line, need, left, slits, slB, slF, slT, at9, wd9, got, ans, worst) out) = h9 → zPW G mX10_cell 0 0 o9 h9 0 0 0 [(0, .ref 114), (1, .int (nI x)), (2, .int (nI y)), (3, .int (nI t))] [] (zHp S X (s, past, aside, pasts, txt, typed, thrown, line, need, left, slits, slB, slF, slT, at9, wd9, got, ans, worst) out) from hs _ _ rfl rfl
  intro o9 h9 ho9 hh9
  refine z_aload_n 0 dX10_cell_0 rfl rfl ?_
  refine z_iload_n 1 dX10_cell_1 rfl rfl ?_
  refine z_iload_n 2 dX10_cell_2 rfl rfl ?_
  refine z_callV (N := mX10_isCell) 2 [.int (nI x), .int (nI y)] [] lX10_isCell ⟨zw_1279, zw_1281, zw_50⟩ rfl zgo_114 rfl rfl (Nat.le_of_ble_eq_true rfl) (by decide) ⟨zlt, zlt⟩ ⟨Nat.zero_le _, Nat.zero_le _⟩ (fun _ => rfl) (m_isCell hG hM9 (nI x) (nI y)) dX10_cell_3 ?_
  refine z_if_ne (tgt := 15) dX10_cell_6 (by decide) (fun c_6 => ?_) (fun c_6 => ?_)
  · skip
    have b_6 := zB_tt c_6
    refine z_iload_n 3 dX10_cell_15 rfl rfl ?_
    refine z_iconst (v := nI 0) dX10_cell_16 (by decide) ?_
    refine z_iconst (v := nI 3) dX10_cell_17 (by decide) ?_
    refine z_callS (N := mX10_in) 3 [.int (nI t), .int (nI 0), .int (nI 3)] [] lX10_in ⟨zw_1252, zw_1253⟩ rfl rfl rfl (Nat.le_of_ble_eq_true rfl) (by decide) ⟨zlt, zlt⟩ hG ⟨Nat.zero_le _, Nat.zero_le _⟩ (m_in hG (nI t) (nI 0) (nI 3)) dX10_cell_18 ?_
    refine z_if_eq (tgt := 38) dX10_cell_21 (by decide) (fun c_21 => ?_) (fun c_21 => ?_)
    · exfalso; rw [ht] at c_21; exact absurd c_21 (by decide)
    · skip
      have b_21 := zB_tt c_21
      refine z_aload_n 0 dX10_cell_24 rfl rfl ?_
      refine z_aload_n 0 dX10_cell_25 rfl rfl ?_
      refine z_iload_n 1 dX10_cell_26 rfl rfl ?_
      refine z_iload_n 2 dX10_cell_27 rfl rfl ?_
      refine z_iload_n 3 dX10_cell_28 rfl rfl ?_
      refine z_callV (N := mX10_cellOf) 3 [.int (nI x), .int (nI y), .int (nI t)] [.ref 114] lX10_cellOf ⟨zw_1424, zw_1426, zw_76⟩ rfl zgo_114 rfl rfl (Nat.le_of_ble_eq_true rfl) (by decide) ⟨zlt, zlt⟩ ⟨Nat.zero_le _, Nat.zero_le _⟩ (fun _ => rfl) (m_cellOf hG hM9 x y t (by omega) (by omega) (by omega)) dX10_cell_29 ?_
      refine z_callV (N := mX10_tells) 1 [.int (rCe s c w x y t)] [] lX10_tells ⟨zw_1267, zw_1269, zw_48⟩ rfl zgo_114 rfl rfl (Nat.le_of_ble_eq_true rfl) (by decide) ⟨zlt, zlt⟩ ⟨Nat.zero_le _, Nat.zero_le _⟩ zal (m_tells hG (rCe s c w x y t)) dX10_cell_32 ?_
      refine z_goto (tgt := 43) dX10_cell_35 (by decide) ?_
      exact z_iret rfl dX10_cell_43 (zo_i ho9 (by rfl)) (zo_h hh9 (by rfl)) (Nat.zero_le _) (Nat.zero_le _)
  · exfalso; rw [zIn_n (by omega) (by omega), zIn_n (by omega) (by omega), decide_eq_true hx, decide_eq_true hy] at c_6; exact absurd c_6 (by decide)

set_option maxHeartbeats 4000000 in
set_option maxRecDepth 100000 in
theorem m_cell_1 {G : zT} {S : zS} {X : zXr} {out : Nat → Int64} {s : (Nat → Int32)} {past : (Nat → Int32)} {aside : (Nat → Int32)} {pasts : Nat} {txt : (Nat → Int32)} {typed : Nat} {thrown : Int32} {line : (Nat → Int32)} {need : (Nat → Int32)} {left : (Nat → Int32)} {slits : Nat} {slB : (Nat → Int32)} {slF : (Nat → Int32)} {slT : (Nat → Int32)} {at9 : Nat} {wd9 : Int32} {got : (Nat → Int32)} {ans : Int32} {worst : UInt32} (hG : zAl G = false) {c r w cnt lim : Nat} (hM : zMd s c r w cnt lim) (x y t : Int32) (hx : (zIn x (nI c) && zIn y (nI r)) = false) : zRun G mX10_cell 0 0 [.ref 114, .int x, .int y, .int t] (zHp S X (s, past, aside, pasts, txt, typed, thrown, line, need, left, slits, slB, slF, slT, at9, wd9, got, ans, worst) out) (.inr (some (.int (nI 0)))) (zHp S X (s, past, aside, pasts, txt, typed, (nI 1), line, need, left, slits, slB, slF, slT, at9, wd9, got, ans, worst) out) := by
  have hM9 := hM
  obtain ⟨h0, h1, h2, h3, h4, hc1, hc, hr1, hr, hw, hn, hl⟩ := hM
  refine zRun_of (by decide +kernel) rfl rfl (Nat.le_of_ble_eq_true rfl) ?_
  suffices hs : ∀ (o9 : zO) (h9 : zH), (Sum.inr (some (.int (nI 0))) : zO) = o9 → (zHp S X (s, past, aside, pasts, txt, typed, (nI 1), line, need, left, slits, slB, slF, slT, at9, wd9, got, ans, worst) out) = h9 → zPW G mX10_cell 0 0 o9 h9 0 0 0 [(0, .ref 114), (1, .int x), (2, .int y), (3, .int t)] [] (zHp S X (s, past, aside, pasts, txt, typed, thrown, line, need, left, slits, slB, slF, slT, at9, wd9, got, ans, worst) out) from hs _ _ rfl rfl
  intro o9 h9 ho9 hh9
  refine z_aload_n 0 dX10_cell_0 rfl rfl ?_
  refine z_iload_n 1 dX10_cell_1 rfl rfl ?_
  refine z_iload_n 2 dX10_cell_2 rfl rfl ?_
  refine z_callV (N := mX10_isCell) 2 [.int x, .int y] [] lX10_isCell ⟨zw_1279, zw_1281, zw_50⟩ rfl zgo_114 rfl rfl (Nat.le_of_ble_eq_true rfl) (by decide) ⟨zlt, zlt⟩ ⟨Nat.zero_le _, Nat.zero_le _⟩ (fun _ => rfl) (m_isCell hG hM9 x y) dX10_cell_3 ?_
  refine z_if_ne (tgt := 15) dX10_cell_6 (by decide) (fun c_6 => ?_) (fun c_6 => ?_)
  · exfalso; rw [hx] at c_6; exact c_6 rfl
  · skip
    have b_6 := zB_0.mp c_6
    refine z_aload_n 0 dX10_cell_9 rfl rfl ?_
    refine z_iconst (v := nI 1) dX10_cell_10 (by decide) ?_
    refine z_callV (N := mX10_fails) 1 [.int (nI 1)] [] lX10_fails ⟨zw_1259, zw_1261, zw_46⟩ rfl zgo_114 rfl rfl (Nat.le_of_ble_eq_true rfl) (by decide) ⟨zlt, zlt⟩ ⟨Nat.zero_le _, Nat.zero_le _⟩ zal (m_fails hG (nI 1)) dX10_cell_11 ?_
    exact z_iret rfl dX10_cell_14 (zo_i ho9 (by rfl)) (zo_h hh9 (by rfl)) (Nat.zero_le _) (Nat.zero_le _)

set_option maxHeartbeats 4000000 in
set_option maxRecDepth 100000 in
theorem m_cell_2 {G : zT} {S : zS} {X : zXr} {out : Nat → Int64} {s : (Nat → Int32)} {past : (Nat → Int32)} {aside : (Nat → Int32)} {pasts : Nat} {txt : (Nat → Int32)} {typed : Nat} {thrown : Int32} {line : (Nat → Int32)} {need : (Nat → Int32)} {left : (Nat → Int32)} {slits : Nat} {slB : (Nat → Int32)} {slF : (Nat → Int32)} {slT : (Nat → Int32)} {at9 : Nat} {wd9 : Int32} {got : (Nat → Int32)} {ans : Int32} {worst : UInt32} (hG : zAl G = false) {c r w cnt lim : Nat} (hM : zMd s c r w cnt lim) (x y t : Int32) (hx : (zIn x (nI c) && zIn y (nI r)) = true) (ht : zFr (nI 0) t (nI 3) = false) : zRun G mX10_cell 0 0 [.ref 114, .int x, .int y, .int t] (zHp S X (s, past, aside, pasts, txt, typed, thrown, line, need, left, slits, slB, slF, slT, at9, wd9, got, ans, worst) out) (.inr (some (.int (nI 0)))) (zHp S X (s, past, aside, pasts, txt, typed, (nI 2), line, need, left, slits, slB, slF, slT, at9, wd9, got, ans, worst) out) := by
  have hM9 := hM
  obtain ⟨h0, h1, h2, h3, h4, hc1, hc, hr1, hr, hw, hn, hl⟩ := hM
  refine zRun_of (by decide +kernel) rfl rfl (Nat.le_of_ble_eq_true rfl) ?_
  suffices hs : ∀ (o9 : zO) (h9 : zH), (Sum.inr (some (.int (nI 0))) : zO) = o9 → (zHp S X (s, past, aside, pasts, txt, typed, (nI 2), line, need, left, slits, slB, slF, slT, at9, wd9, got, ans, worst) out) = h9 → zPW G mX10_cell 0 0 o9 h9 0 0 0 [(0, .ref 114), (1, .int x), (2, .int y), (3, .int t)] [] (zHp S X (s, past, aside, pasts, txt, typed, thrown, line, need, left, slits, slB, slF, slT, at9, wd9, got, ans, worst) out) from hs _ _ rfl rfl
  intro o9 h9 ho9 hh9
  refine z_aload_n 0 dX10_cell_0 rfl rfl ?_
  refine z_iload_n 1 dX10_cell_1 rfl rfl ?_
  refine z_iload_n 2 dX10_cell_2 rfl rfl ?_
  refine z_callV (N := mX10_isCell) 2 [.int x, .int y] [] lX10_isCell ⟨zw_1279, zw_1281, zw_50⟩ rfl zgo_114 rfl rfl (Nat.le_of_ble_eq_true rfl) (by decide) ⟨zlt, zlt⟩ ⟨Nat.zero_le _, Nat.zero_le _⟩ (fun _ => rfl) (m_isCell hG hM9 x y) dX10_cell_3 ?_
  refine z_if_ne (tgt := 15) dX10_cell_6 (by decide) (fun c_6 => ?_) (fun c_6 => ?_)
  · skip
    have b_6 := zB_tt c_6
    refine z_iload_n 3 dX10_cell_15 rfl rfl ?_
    refine z_iconst (v := nI 0) dX10_cell_16 (by decide) ?_
    refine z_iconst (v := nI 3) dX10_cell_17 (by decide) ?_
    refine z_callS (N := mX10_in) 3 [.int t, .int (nI 0), .int (nI 3)] [] lX10_in ⟨zw_1252, zw_1253⟩ rfl rfl rfl (Nat.le_of_ble_eq_true rfl) (by decide) ⟨zlt, zlt⟩ hG ⟨Nat.zero_le _, Nat.zero_le _⟩ (m_in hG t (nI 0) (nI 3)) dX10_cell_18 ?_
    refine z_if_eq (tgt := 38) dX10_cell_21 (by decide) (fun c_21 => ?_) (fun c_21 => ?_)
    · skip
      have b_21 := zB_0.mp c_21
      refine z_aload_n 0 dX10_cell_38 rfl rfl ?_
      refine z_iconst (v := nI 2) dX10_cell_39 (by decide) ?_
      refine z_callV (N := mX10_fails) 1 [.int (nI 2)] [] lX10_fails ⟨zw_1259, zw_1261, zw_46⟩ rfl zgo_114 rfl rfl (Nat.le_of_ble_eq_true rfl) (by decide) ⟨zlt, zlt⟩ ⟨Nat.zero_le _, Nat.zero_le _⟩ zal (m_fails hG (nI 2)) dX10_cell_40 ?_
      exact z_iret rfl dX10_cell_43 (zo_i ho9 (by rfl)) (zo_h hh9 (by rfl)) (Nat.zero_le _) (Nat.zero_le _)
    · exfalso; rw [ht] at c_21; exact c_21 rfl
  · exfalso; rw [hx] at c_6; exact absurd c_6 (by decide)

set_option maxHeartbeats 4000000 in
set_option maxRecDepth 100000 in
theorem m_row {G : zT} {S : zS} {X : zXr} {out : Nat → Int64} {s : (Nat → Int32)} {past : (Nat → Int32)} {aside : (Nat → Int32)} {pasts : Nat} {txt : (Nat → Int32)} {typed : Nat} {thrown : Int32} {line : (Nat → Int32)} {need : (Nat → Int32)} {left : (Nat → Int32)} {slits : Nat} {slB : (Nat → Int32)} {slF : (Nat → Int32)} {slT : (Nat → Int32)} {at9 : Nat} {wd9 : Int32} {got : (Nat → Int32)} {ans : Int32} {worst : UInt32} (hG : zAl G = false) {c r w cnt lim : Nat} (hM : zMd s c r w cnt lim) (y t : Nat) (hy : y < w) (ht : zFr (nI 0) (nI t) (nI 4) = true) (ht4 : t ≤ 4) : zRun G mX10_row 0 0 [.ref 114, .int (nI y), .int (nI t)] (zHp S X (s, past, aside, pasts, txt, typed, thrown, line, need, left, slits, slB, slF, slT, at9, wd9, got, ans, worst) out) (.inr (some (.int (rRo s c cnt y t)))) (zHp S X (s, past, aside, pasts, txt, typed, (nI 0), (rRoL s c y t line), need, left, slits, slB, slF, slT, at9, wd9, got, ans, worst) out) := by
  have hM9 := hM
  obtain ⟨h0, h1, h2, h3, h4, hc1, hc, hr1, hr, hw, hn, hl⟩ := hM
  refine zRun_of (by decide +kernel) rfl rfl (Nat.le_of_ble_eq_true rfl) ?_
  suffices hs : ∀ (o9 : zO) (h9 : zH), (Sum.inr (some (.int (rRo s c cnt y t))) : zO) = o9 → (zHp S X (s, past, aside, pasts, txt, typed, (nI 0), (rRoL s c y t line), need, left, slits, slB, slF, slT, at9, wd9, got, ans, worst) out) = h9 → zPW G mX10_row 0 0 o9 h9 0 0 0 [(0, .ref 114), (1, .int (nI y)), (2, .int (nI t))] [] (zHp S X (s, past, aside, pasts, txt, typed, thrown, line, need, left, slits, slB, slF, slT, at9, wd9, got, ans, worst) out) from hs _ _ rfl rfl
  intro o9 h9 ho9 hh9
  refine z_aload_n 0 dX10_row_0 rfl rfl ?_
  refine z_iload_n 1 dX10_row_1 rfl rfl ?_
  refine z_callV (N := mX10_isWoven) 1 [.int (nI y)] [] lX10_isWoven ⟨zw_1324, zw_1326, zw_56⟩ rfl zgo_114 rfl rfl (Nat.le_of_ble_eq_true rfl) (by decide) ⟨zlt, zlt⟩ ⟨Nat.zero_le _, Nat.zero_le _⟩ (fun _ => rfl) (m_isWoven hG hM9 (nI y)) dX10_row_2 ?_
  refine z_if_ne (tgt := 14) dX10_row_5 (by decide) (fun c_5 => ?_) (fun c_5 => ?_)
  · skip
    have b_5 := zB_tt c_5
    refine z_iload_n 2 dX10_row_14 rfl rfl ?_
    refine z_iconst (v := nI 0) dX10_row_15 (by decide) ?_
    refine z_iconst (v := nI 4) dX10_row_16 (by decide) ?_
    refine z_callS (N := mX10_in) 3 [.int (nI t), .int (nI 0), .int (nI 4)] [] lX10_in ⟨zw_1252, zw_1253⟩ rfl rfl rfl (Nat.le_of_ble_eq_true rfl) (by decide) ⟨zlt, zlt⟩ hG ⟨Nat.zero_le _, Nat.zero_le _⟩ (m_in hG (nI t) (nI 0) (nI 4)) dX10_row_17 ?_
    refine z_if_eq (tgt := 36) dX10_row_20 (by decide) (fun c_20 => ?_) (fun c_20 => ?_)
    · exfalso; rw [ht] at c_20; exact absurd c_20 (by decide)
    · skip
      have b_20 := zB_tt c_20
      refine z_aload_n 0 dX10_row_23 rfl rfl ?_
      refine z_aload_n 0 dX10_row_24 rfl rfl ?_
      refine z_iload_n 1 dX10_row_25 rfl rfl ?_
      refine z_iload_n 2 dX10_row_26 rfl rfl ?_
      refine z_callV (N := mX10_rowOf) 2 [.int (nI y), .int (nI t)] [.ref 114] lX10_rowOf ⟨zw_1432, zw_1434, zw_77⟩ rfl zgo_114 rfl rfl (Nat.le_of_ble_eq_true rfl) (by decide) ⟨zlt, zlt⟩ ⟨Nat.zero_le _, Nat.zero_le _⟩ zal (m_rowOf hG hM9 y (by omega) t (by omega)) dX10_row_27 ?_
      refine z_callV (N := mX10_tells) 1 [.int (rRo s c cnt y t)] [] lX10_tells ⟨zw_1267, zw_1269, zw_48⟩ rfl zgo_114 rfl rfl (Nat.le_of_ble_eq_true rfl) (by decide) ⟨zlt, zlt⟩ ⟨Nat.zero_le _, Nat.zero_le _⟩ zal (m_tells hG (rRo s c cnt y t)) dX10_row_30 ?_
      refine z_goto (tgt := 41) dX10_row_33 (by decide) ?_
      exact z_iret rfl dX10_row_41 (zo_i ho9 (by rfl)) (zo_h hh9 (by rfl)) (Nat.zero_le _) (Nat.zero_le _)
  · exfalso; rw [zIn_n (by omega) (by omega), decide_eq_true hy] at c_5; exact absurd c_5 (by decide)

set_option maxHeartbeats 4000000 in
set_option maxRecDepth 100000 in
theorem m_row_1 {G : zT} {S : zS} {X : zXr} {out : Nat → Int64} {s : (Nat → Int32)} {past : (Nat → Int32)} {aside : (Nat → Int32)} {pasts : Nat} {txt : (Nat → Int32)} {typed : Nat} {thrown : Int32} {line : (Nat → Int32)} {need : (Nat → Int32)} {left : (Nat → Int32)} {slits : Nat} {slB : (Nat → Int32)} {slF : (Nat → Int32)} {slT : (Nat → Int32)} {at9 : Nat} {wd9 : Int32} {got : (Nat → Int32)} {ans : Int32} {worst : UInt32} (hG : zAl G = false) {c r w cnt lim : Nat} (hM : zMd s c r w cnt lim) (y t : Int32) (hy : zIn y (nI w) = false) : zRun G mX10_row 0 0 [.ref 114, .int y, .int t] (zHp S X (s, past, aside, pasts, txt, typed, thrown, line, need, left, slits, slB, slF, slT, at9, wd9, got, ans, worst) out) (.inr (some (.int (nI 0)))) (zHp S X (s, past, aside, pasts, txt, typed, (nI 1), line, need, left, slits, slB, slF, slT, at9, wd9, got, ans, worst) out) := by
  have hM9 := hM
  obtain ⟨h0, h1, h2, h3, h4, hc1, hc, hr1, hr, hw, hn, hl⟩ := hM
  refine zRun_of (by decide +kernel) rfl rfl (Nat.le_of_ble_eq_true rfl) ?_
  suffices hs : ∀ (o9 : zO) (h9 : zH), (Sum.inr (some (.int (nI 0))) : zO) = o9 → (zHp S X (s, past, aside, pasts, txt, typed, (nI 1), line, need, left, slits, slB, slF, slT, at9, wd9, got, ans, worst) out) = h9 → zPW G mX10_row 0 0 o9 h9 0 0 0 [(0, .ref 114), (1, .int y), (2, .int t)] [] (zHp S X (s, past, aside, pasts, txt, typed, thrown, line, need, left, slits, slB, slF, slT, at9, wd9, got, ans, worst) out) from hs _ _ rfl rfl
  intro o9 h9 ho9 hh9
  refine z_aload_n 0 dX10_row_0 rfl rfl ?_
  refine z_iload_n 1 dX10_row_1 rfl rfl ?_
  refine z_callV (N := mX10_isWoven) 1 [.int y] [] lX10_isWoven ⟨zw_1324, zw_1326, zw_56⟩ rfl zgo_114 rfl rfl (Nat.le_of_ble_eq_true rfl) (by decide) ⟨zlt, zlt⟩ ⟨Nat.zero_le _, Nat.zero_le _⟩ (fun _ => rfl) (m_isWoven hG hM9 y) dX10_row_2 ?_
  refine z_if_ne (tgt := 14) dX10_row_5 (by decide) (fun c_5 => ?_) (fun c_5 => ?_)
  · exfalso; rw [hy] at c_5; exact c_5 rfl
  · skip
    have b_5 := zB_0.mp c_5
    refine z_aload_n 0 dX10_row_8 rfl rfl ?_
    refine z_iconst (v := nI 1) dX10_row_9 (by decide) ?_
    refine z_callV (N := mX10_fails) 1 [.int (nI 1)] [] lX10_fails ⟨zw_1259, zw_1261, zw_46⟩ rfl zgo_114 rfl rfl (Nat.le_of_ble_eq_true rfl) (by decide) ⟨zlt, zlt⟩ ⟨Nat.zero_le _, Nat.zero_le _⟩ zal (m_fails hG (nI 1)) dX10_row_10 ?_
    exact z_iret rfl dX10_row_13 (zo_i ho9 (by rfl)) (zo_h hh9 (by rfl)) (Nat.zero_le _) (Nat.zero_le _)

set_option maxHeartbeats 4000000 in
set_option maxRecDepth 100000 in
theorem m_row_2 {G : zT} {S : zS} {X : zXr} {out : Nat → Int64} {s : (Nat → Int32)} {past : (Nat → Int32)} {aside : (Nat → Int32)} {pasts : Nat} {txt : (Nat → Int32)} {typed : Nat} {thrown : Int32} {line : (Nat → Int32)} {need : (Nat → Int32)} {left : (Nat → Int32)} {slits : Nat} {slB : (Nat → Int32)} {slF : (Nat → Int32)} {slT : (Nat → Int32)} {at9 : Nat} {wd9 : Int32} {got : (Nat → Int32)} {ans : Int32} {worst : UInt32} (hG : zAl G = false) {c r w cnt lim : Nat} (hM : zMd s c r w cnt lim) (y t : Int32) (hy : zIn y (nI w) = true) (ht : zFr (nI 0) t (nI 4) = false) : zRun G mX10_row 0 0 [.ref 114, .int y, .int t] (zHp S X (s, past, aside, pasts, txt, typed, thrown, line, need, left, slits, slB, slF, slT, at9, wd9, got, ans, worst) out) (.inr (some (.int (nI 0)))) (zHp S X (s, past, aside, pasts, txt, typed, (nI 2), line, need, left, slits, slB, slF, slT, at9, wd9, got, ans, worst) out) := by
  have hM9 := hM
  obtain ⟨h0, h1, h2, h3, h4, hc1, hc, hr1, hr, hw, hn, hl⟩ := hM
  refine zRun_of (by decide +kernel) rfl rfl (Nat.le_of_ble_eq_true rfl) ?_
  suffices hs : ∀ (o9 : zO) (h9 : zH), (Sum.inr (some (.int (nI 0))) : zO) = o9 → (zHp S X (s, past, aside, pasts, txt, typed, (nI 2), line, need, left, slits, slB, slF, slT, at9, wd9, got, ans, worst) out) = h9 → zPW G mX10_row 0 0 o9 h9 0 0 0 [(0, .ref 114), (1, .int y), (2, .int t)] [] (zHp S X (s, past, aside, pasts, txt, typed, thrown, line, need, left, slits, slB, slF, slT, at9, wd9, got, ans, worst) out) from hs _ _ rfl rfl
  intro o9 h9 ho9 hh9
  refine z_aload_n 0 dX10_row_0 rfl rfl ?_
  refine z_iload_n 1 dX10_row_1 rfl rfl ?_
  refine z_callV (N := mX10_isWoven) 1 [.int y] [] lX10_isWoven ⟨zw_1324, zw_1326, zw_56⟩ rfl zgo_114 rfl rfl (Nat.le_of_ble_eq_true rfl) (by decide) ⟨zlt, zlt⟩ ⟨Nat.zero_le _, Nat.zero_le _⟩ (fun _ => rfl) (m_isWoven hG hM9 y) dX10_row_2 ?_
  refine z_if_ne (tgt := 14) dX10_row_5 (by decide) (fun c_5 => ?_) (fun c_5 => ?_)
  · skip
    have b_5 := zB_tt c_5
    refine z_iload_n 2 dX10_row_14 rfl rfl ?_
    refine z_iconst (v := nI 0) dX10_row_15 (by decide) ?_
    refine z_iconst (v := nI 4) dX10_row_16 (by decide) ?_
    refine z_callS (N := mX10_in) 3 [.int t, .int (nI 0), .int (nI 4)] [] lX10_in ⟨zw_1252, zw_1253⟩ rfl rfl rfl (Nat.le_of_ble_eq_true rfl) (by decide) ⟨zlt, zlt⟩ hG ⟨Nat.zero_le _, Nat.zero_le _⟩ (m_in hG t (nI 0) (nI 4)) dX10_row_17 ?_
    refine z_if_eq (tgt := 36) dX10_row_20 (by decide) (fun c_20 => ?_) (fun c_20 => ?_)
    · skip
      have b_20 := zB_0.mp c_20
      refine z_aload_n 0 dX10_row_36 rfl rfl ?_
      refine z_iconst (v := nI 2) dX10_row_37 (by decide) ?_
      refine z_callV (N := mX10_fails) 1 [.int (nI 2)] [] lX10_fails ⟨zw_1259, zw_1261, zw_46⟩ rfl zgo_114 rfl rfl (Nat.le_of_ble_eq_true rfl) (by decide) ⟨zlt, zlt⟩ ⟨Nat.zero_le _, Nat.zero_le _⟩ zal (m_fails hG (nI 2)) dX10_row_38 ?_
      exact z_iret rfl dX10_row_41 (zo_i ho9 (by rfl)) (zo_h hh9 (by rfl)) (Nat.zero_le _) (Nat.zero_le _)
    · exfalso; rw [ht] at c_20; exact c_20 rfl
  · exfalso; rw [hy] at c_5; exact absurd c_5 (by decide)

set_option maxHeartbeats 4000000 in
set_option maxRecDepth 100000 in
theorem m_lot {G : zT} {S : zS} {X : zXr} {out : Nat → Int64} {s : (Nat → Int32)} {past : (Nat → Int32)} {aside : (Nat → Int32)} {pasts : Nat} {txt : (Nat → Int32)} {typed : Nat} {thrown : Int32} {line : (Nat → Int32)} {need : (Nat → Int32)} {left : (Nat → Int32)} {slits : Nat} {slB : (Nat → Int32)} {slF : (Nat → Int32)} {slT : (Nat → Int32)} {at9 : Nat} {wd9 : Int32} {got : (Nat → Int32)} {ans : Int32} {worst : UInt32} (hG : zAl G = false) {c r w cnt lim : Nat} (hM : zMd s c r w cnt lim) (l t : Nat) (hl9 : l < cnt) (ht : zFr (nI 0) (nI t) (nI 5) = true) (ht5 : t ≤ 5) : zRun G mX10_lot 0 0 [.ref 114, .int (nI l), .int (nI t)] (zHp S X (s, past, aside, pasts, txt, typed, thrown, line, need, left, slits, slB, slF, slT, at9, wd9, got, ans, worst) out) (.inr (some (.int (rLo s c w cnt l t)))) (zHp S X (s, past, aside, pasts, txt, typed, (nI 0), line, need, left, slits, slB, slF, slT, at9, wd9, got, ans, worst) out) := by
  have hM9 := hM
  obtain ⟨h0, h1, h2, h3, h4, hc1, hc, hr1, hr, hw, hn, hl⟩ := hM
  refine zRun_of (by decide +kernel) rfl rfl (Nat.le_of_ble_eq_true rfl) ?_
  suffices hs : ∀ (o9 : zO) (h9 : zH), (Sum.inr (some (.int (rLo s c w cnt l t))) : zO) = o9 → (zHp S X (s, past, aside, pasts, txt, typed, (nI 0), line, need, left, slits, slB, slF, slT, at9, wd9, got, ans, worst) out) = h9 → zPW G mX10_lot 0 0 o9 h9 0 0 0 [(0, .ref 114), (1, .int (nI l)), (2, .int (nI t))] [] (zHp S X (s, past, aside, pasts, txt, typed, thrown, line, need, left, slits, slB, slF, slT, at9, wd9, got, ans, worst) out) from hs _ _ rfl rfl
  intro o9 h9 ho9 hh9
  refine z_iload_n 1 dX10_lot_0 rfl rfl ?_
  refine z_iconst (v := nI 0) dX10_lot_1 (by decide) ?_
  refine z_aload_n 0 dX10_lot_2 rfl rfl ?_
  refine z_get (v := .ref 115) 0 zgo_114 rfl inX10 (by decide) zw_1178 rfl rfl dX10_lot_3 ?_
  refine z_iconst (v := nI 3) dX10_lot_6 (by decide) ?_
  refine z_ialdN (f := s) (n := 1371) (j := 3) zga_115 (by omega) (by decide) dX10_lot_7 ?_
  refine z_top (v2 := .int (nI cnt)) (by rw [h3]) ?_
  refine z_iconst (v := nI 1) dX10_lot_8 (by decide) ?_
  refine z_isub dX10_lot_9 ?_
  refine z_callS (N := mX10_in) 3 [.int (nI l), .int (nI 0), .int ((nI cnt) - (nI 1))] [] lX10_in ⟨zw_1252, zw_1253⟩ rfl rfl rfl (Nat.le_of_ble_eq_true rfl) (by decide) ⟨zlt, zlt⟩ hG ⟨Nat.zero_le _, Nat.zero_le _⟩ (m_in hG (nI l) (nI 0) ((nI cnt) - (nI 1))) dX10_lot_10 ?_
  refine z_top (v2 := .int (zB (zIn (nI l) (nI cnt)))) (by rw [zFr_in (by omega)]) ?_
  refine z_if_ne (tgt := 22) dX10_lot_13 (by decide) (fun c_13 => ?_) (fun c_13 => ?_)
  · skip
    have b_13 := zB_tt c_13
    refine z_iload_n 2 dX10_lot_22 rfl rfl ?_
    refine z_iconst (v := nI 0) dX10_lot_23 (by decide) ?_
    refine z_iconst (v := nI 5) dX10_lot_24 (by decide) ?_
    refine z_callS (N := mX10_in) 3 [.int (nI t), .int (nI 0), .int (nI 5)] [] lX10_in ⟨zw_1252, zw_1253⟩ rfl rfl rfl (Nat.le_of_ble_eq_true rfl) (by decide) ⟨zlt, zlt⟩ hG ⟨Nat.zero_le _, Nat.zero_le _⟩ (m_in hG (nI t) (nI 0) (nI 5)) dX10_lot_25 ?_
    refine z_if_eq (tgt := 44) dX10_lot_28 (by decide) (fun c_28 => ?_) (fun c_28 => ?_)
    · exfalso; rw [ht] at c_28; exact absurd c_28 (by decide)
    · skip
      have b_28 := zB_tt c_28
      refine z_aload_n 0 dX10_lot_31 rfl rfl ?_
      refine z_aload_n 0 dX10_lot_32 rfl rfl ?_
      refine z_iload_n 1 dX10_lot_33 rfl rfl ?_
      refine z_iload_n 2 dX10_lot_34 rfl rfl ?_
      refine z_callV (N := mX10_lotOf) 2 [.int (nI l), .int (nI t)] [.ref 114] lX10_lotOf ⟨zw_1464, zw_1466, zw_84⟩ rfl zgo_114 rfl rfl (Nat.le_of_ble_eq_true rfl) (by decide) ⟨zlt, zlt⟩ ⟨Nat.zero_le _, Nat.zero_le _⟩ (fun _ => rfl) (m_lotOf hG hM9 l (by omega) t (by omega)) dX10_lot_35 ?_
      refine z_callV (N := mX10_tells) 1 [.int (rLo s c w cnt l t)] [] lX10_tells ⟨zw_1267, zw_1269, zw_48⟩ rfl zgo_114 rfl rfl (Nat.le_of_ble_eq_true rfl) (by decide) ⟨zlt, zlt⟩ ⟨Nat.zero_le _, Nat.zero_le _⟩ zal (m_tells hG (rLo s c w cnt l t)) dX10_lot_38 ?_
      refine z_goto (tgt := 49) dX10_lot_41 (by decide) ?_
      exact z_iret rfl dX10_lot_49 (zo_i ho9 (by rfl)) (zo_h hh9 (by rfl)) (Nat.zero_le _) (Nat.zero_le _)
  · exfalso; rw [zIn_n (by omega) (by omega), decide_eq_true hl9] at c_13; exact absurd c_13 (by decide)

set_option maxHeartbeats 4000000 in
set_option maxRecDepth 100000 in
theorem m_lot_1 {G : zT} {S : zS} {X : zXr} {out : Nat → Int64} {s : (Nat → Int32)} {past : (Nat → Int32)} {aside : (Nat → Int32)} {pasts : Nat} {txt : (Nat → Int32)} {typed : Nat} {thrown : Int32} {line : (Nat → Int32)} {need : (Nat → Int32)} {left : (Nat → Int32)} {slits : Nat} {slB : (Nat → Int32)} {slF : (Nat → Int32)} {slT : (Nat → Int32)} {at9 : Nat} {wd9 : Int32} {got : (Nat → Int32)} {ans : Int32} {worst : UInt32} (hG : zAl G = false) {c r w cnt lim : Nat} (hM : zMd s c r w cnt lim) (l t : Int32) (hl9 : zIn l (nI cnt) = false) : zRun G mX10_lot 0 0 [.ref 114, .int l, .int t] (zHp S X (s, past, aside, pasts, txt, typed, thrown, line, need, left, slits, slB, slF, slT, at9, wd9, got, ans, worst) out) (.inr (some (.int (nI 0)))) (zHp S X (s, past, aside, pasts, txt, typed, (nI 1), line, need, left, slits, slB, slF, slT, at9, wd9, got, ans, worst) out) := by
  have hM9 := hM
  obtain ⟨h0, h1, h2, h3, h4, hc1, hc, hr1, hr, hw, hn, hl⟩ := hM
  refine zRun_of (by decide +kernel) rfl rfl (Nat.le_of_ble_eq_true rfl) ?_
  suffices hs : ∀ (o9 : zO) (h9 : zH), (Sum.inr (some (.int (nI 0))) : zO) = o9 → (zHp S X (s, past, aside, pasts, txt, typed, (nI 1), line, need, left, slits, slB, slF, slT, at9, wd9, got, ans, worst) out) = h9 → zPW G mX10_lot 0 0 o9 h9 0 0 0 [(0, .ref 114), (1, .int l), (2, .int t)] [] (zHp S X (s, past, aside, pasts, txt, typed, thrown, line, need, left, slits, slB, slF, slT, at9, wd9, got, ans, worst) out) from hs _ _ rfl rfl
  intro o9 h9 ho9 hh9
  refine z_iload_n 1 dX10_lot_0 rfl rfl ?_
  refine z_iconst (v := nI 0) dX10_lot_1 (by decide) ?_
  refine z_aload_n 0 dX10_lot_2 rfl rfl ?_
  refine z_get (v := .ref 115) 0 zgo_114 rfl inX10 (by decide) zw_1178 rfl rfl dX10_lot_3 ?_
  refine z_iconst (v := nI 3) dX10_lot_6 (by decide) ?_
  refine z_ialdN (f := s) (n := 1371) (j := 3) zga_115 (by omega) (by decide) dX10_lot_7 ?_
  refine z_top (v2 := .int (nI cnt)) (by rw [h3]) ?_
  refine z_iconst (v := nI 1) dX10_lot_8 (by decide) ?_
  refine z_isub dX10_lot_9 ?_
  refine z_callS (N := mX10_in) 3 [.int l, .int (nI 0), .int ((nI cnt) - (nI 1))] [] lX10_in ⟨zw_1252, zw_1253⟩ rfl rfl rfl (Nat.le_of_ble_eq_true rfl) (by decide) ⟨zlt, zlt⟩ hG ⟨Nat.zero_le _, Nat.zero_le _⟩ (m_in hG l (nI 0) ((nI cnt) - (nI 1))) dX10_lot_10 ?_
  refine z_top (v2 := .int (zB (zIn l (nI cnt)))) (by rw [zFr_in (by omega)]) ?_
  refine z_if_ne (tgt := 22) dX10_lot_13 (by decide) (fun c_13 => ?_) (fun c_13 => ?_)
  · exfalso; rw [hl9] at c_13; exact c_13 rfl
  · skip
    have b_13 := zB_0.mp c_13
    refine z_aload_n 0 dX10_lot_16 rfl rfl ?_
    refine z_iconst (v := nI 1) dX10_lot_17 (by decide) ?_
    refine z_callV (N := mX10_fails) 1 [.int (nI 1)] [] lX10_fails ⟨zw_1259, zw_1261, zw_46⟩ rfl zgo_114 rfl rfl (Nat.le_of_ble_eq_true rfl) (by decide) ⟨zlt, zlt⟩ ⟨Nat.zero_le _, Nat.zero_le _⟩ zal (m_fails hG (nI 1)) dX10_lot_18 ?_
    exact z_iret rfl dX10_lot_21 (zo_i ho9 (by rfl)) (zo_h hh9 (by rfl)) (Nat.zero_le _) (Nat.zero_le _)

set_option maxHeartbeats 4000000 in
set_option maxRecDepth 100000 in
theorem m_lot_2 {G : zT} {S : zS} {X : zXr} {out : Nat → Int64} {s : (Nat → Int32)} {past : (Nat → Int32)} {aside : (Nat → Int32)} {pasts : Nat} {txt : (Nat → Int32)} {typed : Nat} {thrown : Int32} {line : (Nat → Int32)} {need : (Nat → Int32)} {left : (Nat → Int32)} {slits : Nat} {slB : (Nat → Int32)} {slF : (Nat → Int32)} {slT : (Nat → Int32)} {at9 : Nat} {wd9 : Int32} {got : (Nat → Int32)} {ans : Int32} {worst : UInt32} (hG : zAl G = false) {c r w cnt lim : Nat} (hM : zMd s c r w cnt lim) (l t : Int32) (hl9 : zIn l (nI cnt) = true) (ht : zFr (nI 0) t (nI 5) = false) : zRun G mX10_lot 0 0 [.ref 114, .int l, .int t] (zHp S X (s, past, aside, pasts, txt, typed, thrown, line, need, left, slits, slB, slF, slT, at9, wd9, got, ans, worst) out) (.inr (some (.int (nI 0)))) (zHp S X (s, past, aside, pasts, txt, typed, (nI 2), line, need, left, slits, slB, slF, slT, at9, wd9, got, ans, worst) out) := by
  have hM9 := hM
  obtain ⟨h0, h1, h2, h3, h4, hc1, hc, hr1, hr, hw, hn, hl⟩ := hM
  refine zRun_of (by decide +kernel) rfl rfl (Nat.le_of_ble_eq_true rfl) ?_
  suffices hs : ∀ (o9 : zO) (h9 : zH), (Sum.inr (some (.int (nI 0))) : zO) = o9 → (zHp S X (s, past, aside, pasts, txt, typed, (nI 2), line, need, left, slits, slB, slF, slT, at9, wd9, got, ans, worst) out) = h9 → zPW G mX10_lot 0 0 o9 h9 0 0 0 [(0, .ref 114), (1, .int l), (2, .int t)] [] (zHp S X (s, past, aside, pasts, txt, typed, thrown, line, need, left, slits, slB, slF, slT, at9, wd9, got, ans, worst) out) from hs _ _ rfl rfl
  intro o9 h9 ho9 hh9
  refine z_iload_n 1 dX10_lot_0 rfl rfl ?_
  refine z_iconst (v := nI 0) dX10_lot_1 (by decide) ?_
  refine z_aload_n 0 dX10_lot_2 rfl rfl ?_
  refine z_get (v := .ref 115) 0 zgo_114 rfl inX10 (by decide) zw_1178 rfl rfl dX10_lot_3 ?_
  refine z_iconst (v := nI 3) dX10_lot_6 (by decide) ?_
  refine z_ialdN (f := s) (n := 1371) (j := 3) zga_115 (by omega) (by decide) dX10_lot_7 ?_
  refine z_top (v2 := .int (nI cnt)) (by rw [h3]) ?_
  refine z_iconst (v := nI 1) dX10_lot_8 (by decide) ?_
  refine z_isub dX10_lot_9 ?_
  refine z_callS (N := mX10_in) 3 [.int l, .int (nI 0), .int ((nI cnt) - (nI 1))] [] lX10_in ⟨zw_1252, zw_1253⟩ rfl rfl rfl (Nat.le_of_ble_eq_true rfl) (by decide) ⟨zlt, zlt⟩ hG ⟨Nat.zero_le _, Nat.zero_le _⟩ (m_in hG l (nI 0) ((nI cnt) - (nI 1))) dX10_lot_10 ?_
  refine z_top (v2 := .int (zB (zIn l (nI cnt)))) (by rw [zFr_in (by omega)]) ?_
  refine z_if_ne (tgt := 22) dX10_lot_13 (by decide) (fun c_13 => ?_) (fun c_13 => ?_)
  · skip
    have b_13 := zB_tt c_13
    refine z_iload_n 2 dX10_lot_22 rfl rfl ?_
    refine z_iconst (v := nI 0) dX10_lot_23 (by decide) ?_
    refine z_iconst (v := nI 5) dX10_lot_24 (by decide) ?_
    refine z_callS (N := mX10_in) 3 [.int t, .int (nI 0), .int (nI 5)] [] lX10_in ⟨zw_1252, zw_1253⟩ rfl rfl rfl (Nat.le_of_ble_eq_true rfl) (by decide) ⟨zlt, zlt⟩ hG ⟨Nat.zero_le _, Nat.zero_le _⟩ (m_in hG t (nI 0) (nI 5)) dX10_lot_25 ?_
    refine z_if_eq (tgt := 44) dX10_lot_28 (by decide) (fun c_28 => ?_) (fun c_28 => ?_)
    · skip
      have b_28 := zB_0.mp c_28
      refine z_aload_n 0 dX10_lot_44 rfl rfl ?_
      refine z_iconst (v := nI 2) dX10_lot_45 (by decide) ?_
      refine z_callV (N := mX10_fails) 1 [.int (nI 2)] [] lX10_fails ⟨zw_1259, zw_1261, zw_46⟩ rfl zgo_114 rfl rfl (Nat.le_of_ble_eq_true rfl) (by decide) ⟨zlt, zlt⟩ ⟨Nat.zero_le _, Nat.zero_le _⟩ zal (m_fails hG (nI 2)) dX10_lot_46 ?_
      exact z_iret rfl dX10_lot_49 (zo_i ho9 (by rfl)) (zo_h hh9 (by rfl)) (Nat.zero_le _) (Nat.zero_le _)
    · exfalso; rw [ht] at c_28; exact c_28 rfl
  · exfalso; rw [hl9] at c_13; exact absurd c_13 (by decide)

set_option maxHeartbeats 4000000 in
set_option maxRecDepth 100000 in
theorem m_color {G : zT} {S : zS} {X : zXr} {out : Nat → Int64} {s : (Nat → Int32)} {past : (Nat → Int32)} {aside : (Nat → Int32)} {pasts : Nat} {txt : (Nat → Int32)} {typed : Nat} {thrown : Int32} {line : (Nat → Int32)} {need : (Nat → Int32)} {left : (Nat → Int32)} {slits : Nat} {slB : (Nat → Int32)} {slF : (Nat → Int32)} {slT : (Nat → Int32)} {at9 : Nat} {wd9 : Int32} {got : (Nat → Int32)} {ans : Int32} {worst : UInt32} (hG : zAl G = false) {c r w cnt lim : Nat} (hM : zMd s c r w cnt lim) (v : Int32) (t : Nat) (hv : zFr (nI 0) v (nI 7) = true) (ht : zFr (nI 0) (nI t) (nI 5) = true) (ht5 : t ≤ 5) : zRun G mX10_color 0 0 [.ref 114, .int v, .int (nI t)] (zHp S X (s, past, aside, pasts, txt, typed, thrown, line, need, left, slits, slB, slF, slT, at9, wd9, got, ans, worst) out) (.inr (some (.int (rCo s c r w cnt v t)))) (zHp S X (s, past, aside, pasts, txt, typed, (nI 0), (rCoL s c r w t line), need, left, slits, slB, slF, slT, at9, wd9, got, ans, worst) out) := by
  have hM9 := hM
  obtain ⟨h0, h1, h2, h3, h4, hc1, hc, hr1, hr, hw, hn, hl⟩ := hM
  refine zRun_of (by decide +kernel) rfl rfl (Nat.le_of_ble_eq_true rfl) ?_
  suffices hs : ∀ (o9 : zO) (h9 : zH), (Sum.inr (some (.int (rCo s c r w cnt v t))) : zO) = o9 → (zHp S X (s, past, aside, pasts, txt, typed, (nI 0), (rCoL s c r w t line), need, left, slits, slB, slF, slT, at9, wd9, got, ans, worst) out) = h9 → zPW G mX10_color 0 0 o9 h9 0 0 0 [(0, .ref 114), (1, .int v), (2, .int (nI t))] [] (zHp S X (s, past, aside, pasts, txt, typed, thrown, line, need, left, slits, slB, slF, slT, at9, wd9, got, ans, worst) out) from hs _ _ rfl rfl
  intro o9 h9 ho9 hh9
  refine z_iload_n 1 dX10_color_0 rfl rfl ?_
  refine z_iconst (v := nI 0) dX10_color_1 (by decide) ?_
  refine z_bipush (v := nI 7) dX10_color_2 (by decide) ?_
  refine z_callS (N := mX10_in) 3 [.int v, .int (nI 0), .int (nI 7)] [] lX10_in ⟨zw_1252, zw_1253⟩ rfl rfl rfl (Nat.le_of_ble_eq_true rfl) (by decide) ⟨zlt, zlt⟩ hG ⟨Nat.zero_le _, Nat.zero_le _⟩ (m_in hG v (nI 0) (nI 7)) dX10_color_4 ?_
  refine z_if_eq (tgt := 32) dX10_color_7 (by decide) (fun c_7 => ?_) (fun c_7 => ?_)
  · exfalso; rw [hv] at c_7; exact absurd c_7 (by decide)
  · skip
    have b_7 := zB_tt c_7
    refine z_iload_n 2 dX10_color_10 rfl rfl ?_
    refine z_iconst (v := nI 0) dX10_color_11 (by decide) ?_
    refine z_iconst (v := nI 5) dX10_color_12 (by decide) ?_
    refine z_callS (N := mX10_in) 3 [.int (nI t), .int (nI 0), .int (nI 5)] [] lX10_in ⟨zw_1252, zw_1253⟩ rfl rfl rfl (Nat.le_of_ble_eq_true rfl) (by decide) ⟨zlt, zlt⟩ hG ⟨Nat.zero_le _, Nat.zero_le _⟩ (m_in hG (nI t) (nI 0) (nI 5)) dX10_color_13 ?_
    refine z_if_eq (tgt := 32) dX10_color_16 (by decide) (fun c_16 => ?_) (fun c_16 => ?_)
    · exfalso; rw [ht] at c_16; exact absurd c_16 (by decide)
    · skip
      have b_16 := zB_tt c_16
      refine z_aload_n 0 dX10_color_19 rfl rfl ?_
      refine z_aload_n 0 dX10_color_20 rfl rfl ?_
      refine z_iload_n 1 dX10_color_21 rfl rfl ?_
      refine z_iload_n 2 dX10_color_22 rfl rfl ?_
      refine z_callV (N := mX10_colorOf) 2 [.int v, .int (nI t)] [.ref 114] lX10_colorOf ⟨zw_1476, zw_1478, zw_86⟩ rfl zgo_114 rfl rfl (Nat.le_of_ble_eq_true rfl) (by decide) ⟨zlt, zlt⟩ ⟨Nat.zero_le _, Nat.zero_le _⟩ zal (m_colorOf hG hM9 v t (by omega)) dX10_color_23 ?_
      refine z_callV (N := mX10_tells) 1 [.int (rCo s c r w cnt v t)] [] lX10_tells ⟨zw_1267, zw_1269, zw_48⟩ rfl zgo_114 rfl rfl (Nat.le_of_ble_eq_true rfl) (by decide) ⟨zlt, zlt⟩ ⟨Nat.zero_le _, Nat.zero_le _⟩ zal (m_tells hG (rCo s c r w cnt v t)) dX10_color_26 ?_
      refine z_goto (tgt := 37) dX10_color_29 (by decide) ?_
      exact z_iret rfl dX10_color_37 (zo_i ho9 (by rfl)) (zo_h hh9 (by rfl)) (Nat.zero_le _) (Nat.zero_le _)

set_option maxHeartbeats 4000000 in
set_option maxRecDepth 100000 in
theorem m_color_1 {G : zT} {S : zS} {X : zXr} {out : Nat → Int64} {s : (Nat → Int32)} {past : (Nat → Int32)} {aside : (Nat → Int32)} {pasts : Nat} {txt : (Nat → Int32)} {typed : Nat} {thrown : Int32} {line : (Nat → Int32)} {need : (Nat → Int32)} {left : (Nat → Int32)} {slits : Nat} {slB : (Nat → Int32)} {slF : (Nat → Int32)} {slT : (Nat → Int32)} {at9 : Nat} {wd9 : Int32} {got : (Nat → Int32)} {ans : Int32} {worst : UInt32} (hG : zAl G = false) {c r w cnt lim : Nat} (hM : zMd s c r w cnt lim) (v t : Int32) (hv : (zFr (nI 0) v (nI 7) && zFr (nI 0) t (nI 5)) = false) : zRun G mX10_color 0 0 [.ref 114, .int v, .int t] (zHp S X (s, past, aside, pasts, txt, typed, thrown, line, need, left, slits, slB, slF, slT, at9, wd9, got, ans, worst) out) (.inr (some (.int (nI 0)))) (zHp S X (s, past, aside, pasts, txt, typed, (nI 1), line, need, left, slits, slB, slF, slT, at9, wd9, got, ans, worst) out) := by
  have hM9 := hM
  obtain ⟨h0, h1, h2, h3, h4, hc1, hc, hr1, hr, hw, hn, hl⟩ := hM
  refine zRun_of (by decide +kernel) rfl rfl (Nat.le_of_ble_eq_true rfl) ?_
  suffices hs : ∀ (o9 : zO) (h9 : zH), (Sum.inr (some (.int (nI 0))) : zO) = o9 → (zHp S X (s, past, aside, pasts, txt, typed, (nI 1), line, need, left, slits, slB, slF, slT, at9, wd9, got, ans, worst) out) = h9 → zPW G mX10_color 0 0 o9 h9 0 0 0 [(0, .ref 114), (1, .int v), (2, .int t)] [] (zHp S X (s, past, aside, pasts, txt, typed, thrown, line, need, left, slits, slB, slF, slT, at9, wd9, got, ans, worst) out) from hs _ _ rfl rfl
  intro o9 h9 ho9 hh9
  refine z_iload_n 1 dX10_color_0 rfl rfl ?_
  refine z_iconst (v := nI 0) dX10_color_1 (by decide) ?_
  refine z_bipush (v := nI 7) dX10_color_2 (by decide) ?_
  refine z_callS (N := mX10_in) 3 [.int v, .int (nI 0), .int (nI 7)] [] lX10_in ⟨zw_1252, zw_1253⟩ rfl rfl rfl (Nat.le_of_ble_eq_true rfl) (by decide) ⟨zlt, zlt⟩ hG ⟨Nat.zero_le _, Nat.zero_le _⟩ (m_in hG v (nI 0) (nI 7)) dX10_color_4 ?_
  refine z_if_eq (tgt := 32) dX10_color_7 (by decide) (fun c_7 => ?_) (fun c_7 => ?_)
  · skip
    have b_7 := zB_0.mp c_7
    refine z_aload_n 0 dX10_color_32 rfl rfl ?_
    refine z_iconst (v := nI 1) dX10_color_33 (by decide) ?_
    refine z_callV (N := mX10_fails) 1 [.int (nI 1)] [] lX10_fails ⟨zw_1259, zw_1261, zw_46⟩ rfl zgo_114 rfl rfl (Nat.le_of_ble_eq_true rfl) (by decide) ⟨zlt, zlt⟩ ⟨Nat.zero_le _, Nat.zero_le _⟩ zal (m_fails hG (nI 1)) dX10_color_34 ?_
    exact z_iret rfl dX10_color_37 (zo_i ho9 (by rfl)) (zo_h hh9 (by rfl)) (Nat.zero_le _) (Nat.zero_le _)
  · skip
    have b_7 := zB_tt c_7
    refine z_iload_n 2 dX10_color_10 rfl rfl ?_
    refine z_iconst (v := nI 0) dX10_color_11 (by decide) ?_
    refine z_iconst (v := nI 5) dX10_color_12 (by decide) ?_
    refine z_callS (N := mX10_in) 3 [.int t, .int (nI 0), .int (nI 5)] [] lX10_in ⟨zw_1252, zw_1253⟩ rfl rfl rfl (Nat.le_of_ble_eq_true rfl) (by decide) ⟨zlt, zlt⟩ hG ⟨Nat.zero_le _, Nat.zero_le _⟩ (m_in hG t (nI 0) (nI 5)) dX10_color_13 ?_
    refine z_if_eq (tgt := 32) dX10_color_16 (by decide) (fun c_16 => ?_) (fun c_16 => ?_)
    · skip
      have b_16 := zB_0.mp c_16
      refine z_aload_n 0 dX10_color_32 rfl rfl ?_
      refine z_iconst (v := nI 1) dX10_color_33 (by decide) ?_
      refine z_callV (N := mX10_fails) 1 [.int (nI 1)] [] lX10_fails ⟨zw_1259, zw_1261, zw_46⟩ rfl zgo_114 rfl rfl (Nat.le_of_ble_eq_true rfl) (by decide) ⟨zlt, zlt⟩ ⟨Nat.zero_le _, Nat.zero_le _⟩ zal (m_fails hG (nI 1)) dX10_color_34 ?_
      exact z_iret rfl dX10_color_37 (zo_i ho9 (by rfl)) (zo_h hh9 (by rfl)) (Nat.zero_le _) (Nat.zero_le _)
    · exfalso; rw [zB_tt c_16, b_7] at hv; exact absurd hv (by decide)

set_option maxHeartbeats 4000000 in
set_option maxRecDepth 100000 in
theorem m_slit_no {G : zT} {S : zS} {X : zXr} {out : Nat → Int64} {s : (Nat → Int32)} {past : (Nat → Int32)} {aside : (Nat → Int32)} {pasts : Nat} {txt : (Nat → Int32)} {typed : Nat} {thrown : Int32} {line : (Nat → Int32)} {need : (Nat → Int32)} {left : (Nat → Int32)} {slits : Nat} {slB : (Nat → Int32)} {slF : (Nat → Int32)} {slT : (Nat → Int32)} {at9 : Nat} {wd9 : Int32} {got : (Nat → Int32)} {ans : Int32} {worst : UInt32} (hG : zAl G = false) {c r w cnt lim : Nat} (hM : zMd s c r w cnt lim) (ix : Nat) (t : Int32) (hix : ix < 2 ^ 31) (ht : zFr (nI 0) t (nI 3) = true) (hs9 : (rFd s w lim (c - 1) (0, slB, slF, slT)).1 ≤ ix) : zRun G mX10_slit 0 0 [.ref 114, .int (nI ix), .int t] (zHp S X (s, past, aside, pasts, txt, typed, thrown, line, need, left, slits, slB, slF, slT, at9, wd9, got, ans, worst) out) (.inr (some (.int ((-1))))) (zHp S X (s, past, aside, pasts, txt, typed, (nI 0), line, need, left, (rFd s w lim (c - 1) (0, slB, slF, slT)).1, (rFd s w lim (c - 1) (0, slB, slF, slT)).2.1, (rFd s w lim (c - 1) (0, slB, slF, slT)).2.2.1, (rFd s w lim (c - 1) (0, slB, slF, slT)).2.2.2, at9, wd9, got, ans, worst) out) := by
  have hM9 := hM
  obtain ⟨h0, h1, h2, h3, h4, hc1, hc, hr1, hr, hw, hn, hl⟩ := hM
  have hsl := rFd_sl (s := s) (lm := lim) (B := slB) (F := slF) (T := slT) (show w ≤ 16 by omega) (c - 1) (by omega)
  have hs160 : (rFd s w lim (c - 1) (0, slB, slF, slT)).1 ≤ 160 := hsl.1
  refine zRun_of (by decide +kernel) rfl rfl (Nat.le_of_ble_eq_true rfl) ?_
  suffices hs : ∀ (o9 : zO) (h9 : zH), (Sum.inr (some (.int ((-1)))) : zO) = o9 → (zHp S X (s, past, aside, pasts, txt, typed, (nI 0), line, need, left, (rFd s w lim (c - 1) (0, slB, slF, slT)).1, (rFd s w lim (c - 1) (0, slB, slF, slT)).2.1, (rFd s w lim (c - 1) (0, slB, slF, slT)).2.2.1, (rFd s w lim (c - 1) (0, slB, slF, slT)).2.2.2, at9, wd9, got, ans, worst) out) = h9 → zPW G mX10_slit 0 0 o9 h9 0 0 0 [(0, .ref 114), (1, .int (nI ix)), (2, .int t)] [] (zHp S X (s, past, aside, pasts, txt, typed, thrown, line, need, left, slits, slB, slF, slT, at9, wd9, got, ans, worst) out) from hs _ _ rfl rfl
  intro o9 h9 ho9 hh9
  refine z_iload_n 1 dX10_slit_0 rfl rfl ?_
  refine z_if_lt (tgt := 13) dX10_slit_1 (by decide) (fun c_1 => ?_) (fun c_1 => ?_)
  · exact absurd c_1 (nI_pos (by omega))
  · skip
    refine z_iload_n 2 dX10_slit_4 rfl rfl ?_
    refine z_iconst (v := nI 0) dX10_slit_5 (by decide) ?_
    refine z_iconst (v := nI 3) dX10_slit_6 (by decide) ?_
    refine z_callS (N := mX10_in) 3 [.int t, .int (nI 0), .int (nI 3)] [] lX10_in ⟨zw_1252, zw_1253⟩ rfl rfl rfl (Nat.le_of_ble_eq_true rfl) (by decide) ⟨zlt, zlt⟩ hG ⟨Nat.zero_le _, Nat.zero_le _⟩ (m_in hG t (nI 0) (nI 3)) dX10_slit_7 ?_
    refine z_if_ne (tgt := 19) dX10_slit_10 (by decide) (fun c_10 => ?_) (fun c_10 => ?_)
    · skip
      have b_10 := zB_tt c_10
      refine z_aload_n 0 dX10_slit_19 rfl rfl ?_
      refine z_aload_n 0 dX10_slit_20 rfl rfl ?_
      refine z_get (v := .ref 115) 0 zgo_114 rfl inX10 (by decide) zw_1178 rfl rfl dX10_slit_21 ?_
      refine z_iconst (v := nI 4) dX10_slit_24 (by decide) ?_
      refine z_ialdN (f := s) (n := 1371) (j := 4) zga_115 (by omega) (by decide) dX10_slit_25 ?_
      refine z_top (v2 := .int (nI lim)) (by rw [h4]) ?_
      refine z_callV (N := mX10_finds) 1 [.int (nI lim)] [] lX10_finds ⟨zw_1316, zw_1318, zw_54⟩ rfl zgo_114 rfl rfl (Nat.le_of_ble_eq_true rfl) (by decide) ⟨zlt, zlt⟩ ⟨Nat.zero_le _, Nat.zero_le _⟩ zal (m_finds hG hM9 lim (by omega)) dX10_slit_26 ?_
      refine z_aload_n 0 dX10_slit_29 rfl rfl ?_
      refine z_iload_n 1 dX10_slit_30 rfl rfl ?_
      refine z_aload_n 0 dX10_slit_31 rfl rfl ?_
      refine z_get (v := .int (nI ((rFd s w lim (c - 1) (0, slB, slF, slT)).1))) 10 zgo_114 rfl inX10 (by decide) zw_1188 rfl rfl dX10_slit_32 ?_
      refine z_icmp_ge (tgt := 47) dX10_slit_35 (by decide) (fun c_35 => ?_) (fun c_35 => ?_)
      · skip
        refine z_iconst (v := (-1)) dX10_slit_47 (by decide) ?_
        refine z_callV (N := mX10_tells) 1 [.int ((-1))] [] lX10_tells ⟨zw_1267, zw_1269, zw_48⟩ rfl zgo_114 rfl rfl (Nat.le_of_ble_eq_true rfl) (by decide) ⟨zlt, zlt⟩ ⟨Nat.zero_le _, Nat.zero_le _⟩ zal (m_tells hG (-1)) dX10_slit_48 ?_
        exact z_iret rfl dX10_slit_51 (zo_i ho9 (by rfl)) (zo_h hh9 (by rfl)) (Nat.zero_le _) (Nat.zero_le _)
      · exfalso; exact c_35 (nI_le hs9 hix)
    · exfalso; rw [ht] at c_10; exact absurd c_10 (by decide)

set_option maxHeartbeats 4000000 in
set_option maxRecDepth 100000 in
theorem m_slit {G : zT} {S : zS} {X : zXr} {out : Nat → Int64} {s : (Nat → Int32)} {past : (Nat → Int32)} {aside : (Nat → Int32)} {pasts : Nat} {txt : (Nat → Int32)} {typed : Nat} {thrown : Int32} {line : (Nat → Int32)} {need : (Nat → Int32)} {left : (Nat → Int32)} {slits : Nat} {slB : (Nat → Int32)} {slF : (Nat → Int32)} {slT : (Nat → Int32)} {at9 : Nat} {wd9 : Int32} {got : (Nat → Int32)} {ans : Int32} {worst : UInt32} (hG : zAl G = false) {c r w cnt lim : Nat} (hM : zMd s c r w cnt lim) (ix t : Nat) (ht : zFr (nI 0) (nI t) (nI 3) = true) (ht3 : t ≤ 3) (hs9 : ix < (rFd s w lim (c - 1) (0, slB, slF, slT)).1) : zRun G mX10_slit 0 0 [.ref 114, .int (nI ix), .int (nI t)] (zHp S X (s, past, aside, pasts, txt, typed, thrown, line, need, left, slits, slB, slF, slT, at9, wd9, got, ans, worst) out) (.inr (some (.int (rSt s ((rFd s w lim (c - 1) (0, slB, slF, slT)).1, (rFd s w lim (c - 1) (0, slB, slF, slT)).2.1, (rFd s w lim (c - 1) (0, slB, slF, slT)).2.2.1, (rFd s w lim (c - 1) (0, slB, slF, slT)).2.2.2) ix t)))) (zHp S X (s, past, aside, pasts, txt, typed, (nI 0), line, need, left, (rFd s w lim (c - 1) (0, slB, slF, slT)).1, (rFd s w lim (c - 1) (0, slB, slF, slT)).2.1, (rFd s w lim (c - 1) (0, slB, slF, slT)).2.2.1, (rFd s w lim (c - 1) (0, slB, slF, slT)).2.2.2, at9, wd9, got, ans, worst) out) := by
  have hM9 := hM
  obtain ⟨h0, h1, h2, h3, h4, hc1, hc, hr1, hr, hw, hn, hl⟩ := hM
  have hsl := rFd_sl (s := s) (lm := lim) (B := slB) (F := slF) (T := slT) (show w ≤ 16 by omega) (c - 1) (by omega)
  have hs160 : (rFd s w lim (c - 1) (0, slB, slF, slT)).1 ≤ 160 := hsl.1
  refine zRun_of (by decide +kernel) rfl rfl (Nat.le_of_ble_eq_true rfl) ?_
  suffices hs : ∀ (o9 : zO) (h9 : zH), (Sum.inr (some (.int (rSt s ((rFd s w lim (c - 1) (0, slB, slF, slT)).1, (rFd s w lim (c - 1) (0, slB, slF, slT)).2.1, (rFd s w lim (c - 1) (0, slB, slF, slT)).2.2.1, (rFd s w lim (c - 1) (0, slB, slF, slT)).2.2.2) ix t))) : zO) = o9 → (zHp S X (s, past, aside, pasts, txt, typed, (nI 0), line, need, left, (rFd s w lim (c - 1) (0, slB, slF, slT)).1, (rFd s w lim (c - 1) (0, slB, slF, slT)).2.1, (rFd s w lim (c - 1) (0, slB, slF, slT)).2.2.1, (rFd s w lim (c - 1) (0, slB, slF, slT)).2.2.2, at9, wd9, got, ans, worst) out) = h9 → zPW G mX10_slit 0 0 o9 h9 0 0 0 [(0, .ref 114), (1, .int (nI ix)), (2, .int (nI t))] [] (zHp S X (s, past, aside, pasts, txt, typed, thrown, line, need, left, slits, slB, slF, slT, at9, wd9, got, ans, worst) out) from hs _ _ rfl rfl
  intro o9 h9 ho9 hh9
  refine z_iload_n 1 dX10_slit_0 rfl rfl ?_
  refine z_if_lt (tgt := 13) dX10_slit_1 (by decide) (fun c_1 => ?_) (fun c_1 => ?_)
  · exact absurd c_1 (nI_pos (by omega))
  · skip
    refine z_iload_n 2 dX10_slit_4 rfl rfl ?_
    refine z_iconst (v := nI 0) dX10_slit_5 (by decide) ?_
    refine z_iconst (v := nI 3) dX10_slit_6 (by decide) ?_
    refine z_callS (N := mX10_in) 3 [.int (nI t), .int (nI 0), .int (nI 3)] [] lX10_in ⟨zw_1252, zw_1253⟩ rfl rfl rfl (Nat.le_of_ble_eq_true rfl) (by decide) ⟨zlt, zlt⟩ hG ⟨Nat.zero_le _, Nat.zero_le _⟩ (m_in hG (nI t) (nI 0) (nI 3)) dX10_slit_7 ?_
    refine z_if_ne (tgt := 19) dX10_slit_10 (by decide) (fun c_10 => ?_) (fun c_10 => ?_)
    · skip
      have b_10 := zB_tt c_10
      refine z_aload_n 0 dX10_slit_19 rfl rfl ?_
      refine z_aload_n 0 dX10_slit_20 rfl rfl ?_
      refine z_get (v := .ref 115) 0 zgo_114 rfl inX10 (by decide) zw_1178 rfl rfl dX10_slit_21 ?_
      refine z_iconst (v := nI 4) dX10_slit_24 (by decide) ?_
      refine z_ialdN (f := s) (n := 1371) (j := 4) zga_115 (by omega) (by decide) dX10_slit_25 ?_
      refine z_top (v2 := .int (nI lim)) (by rw [h4]) ?_
      refine z_callV (N := mX10_finds) 1 [.int (nI lim)] [] lX10_finds ⟨zw_1316, zw_1318, zw_54⟩ rfl zgo_114 rfl rfl (Nat.le_of_ble_eq_true rfl) (by decide) ⟨zlt, zlt⟩ ⟨Nat.zero_le _, Nat.zero_le _⟩ zal (m_finds hG hM9 lim (by omega)) dX10_slit_26 ?_
      refine z_aload_n 0 dX10_slit_29 rfl rfl ?_
      refine z_iload_n 1 dX10_slit_30 rfl rfl ?_
      refine z_aload_n 0 dX10_slit_31 rfl rfl ?_
      refine z_get (v := .int (nI ((rFd s w lim (c - 1) (0, slB, slF, slT)).1))) 10 zgo_114 rfl inX10 (by decide) zw_1188 rfl rfl dX10_slit_32 ?_
      refine z_icmp_ge (tgt := 47) dX10_slit_35 (by decide) (fun c_35 => ?_) (fun c_35 => ?_)
      · exfalso; exact nI_ge hs9 (by omega) c_35
      · skip
        refine z_aload_n 0 dX10_slit_38 rfl rfl ?_
        refine z_iload_n 1 dX10_slit_39 rfl rfl ?_
        refine z_iload_n 2 dX10_slit_40 rfl rfl ?_
        refine z_callV (N := mX10_slitOf) 2 [.int (nI ix), .int (nI t)] [.ref 114] lX10_slitOf ⟨zw_1492, zw_1494, zw_89⟩ rfl zgo_114 rfl rfl (Nat.le_of_ble_eq_true rfl) (by decide) ⟨zlt, zlt⟩ ⟨Nat.zero_le _, Nat.zero_le _⟩ (fun _ => rfl) (m_slitOf hG ix hs9 hsl t (by omega)) dX10_slit_41 ?_
        refine z_goto (tgt := 48) dX10_slit_44 (by decide) ?_
        refine z_callV (N := mX10_tells) 1 [.int (rSt s ((rFd s w lim (c - 1) (0, slB, slF, slT)).1, (rFd s w lim (c - 1) (0, slB, slF, slT)).2.1, (rFd s w lim (c - 1) (0, slB, slF, slT)).2.2.1, (rFd s w lim (c - 1) (0, slB, slF, slT)).2.2.2) ix t)] [] lX10_tells ⟨zw_1267, zw_1269, zw_48⟩ rfl zgo_114 rfl rfl (Nat.le_of_ble_eq_true rfl) (by decide) ⟨zlt, zlt⟩ ⟨Nat.zero_le _, Nat.zero_le _⟩ zal (m_tells hG (rSt s ((rFd s w lim (c - 1) (0, slB, slF, slT)).1, (rFd s w lim (c - 1) (0, slB, slF, slT)).2.1, (rFd s w lim (c - 1) (0, slB, slF, slT)).2.2.1, (rFd s w lim (c - 1) (0, slB, slF, slT)).2.2.2) ix t)) dX10_slit_48 ?_
        exact z_iret rfl dX10_slit_51 (zo_i ho9 (by rfl)) (zo_h hh9 (by rfl)) (Nat.zero_le _) (Nat.zero_le _)
    · exfalso; rw [ht] at c_10; exact absurd c_10 (by decide)

set_option maxHeartbeats 4000000 in
set_option maxRecDepth 100000 in
theorem m_slit_1 {G : zT} {S : zS} {X : zXr} {out : Nat → Int64} {s : (Nat → Int32)} {past : (Nat → Int32)} {aside : (Nat → Int32)} {pasts : Nat} {txt : (Nat → Int32)} {typed : Nat} {thrown : Int32} {line : (Nat → Int32)} {need : (Nat → Int32)} {left : (Nat → Int32)} {slits : Nat} {slB : (Nat → Int32)} {slF : (Nat → Int32)} {slT : (Nat → Int32)} {at9 : Nat} {wd9 : Int32} {got : (Nat → Int32)} {ans : Int32} {worst : UInt32} (hG : zAl G = false) {c r w cnt lim : Nat} (hM : zMd s c r w cnt lim) (ix t : Int32) (ht : ix < 0 ∨ zFr (nI 0) t (nI 3) = false) : zRun G mX10_slit 0 0 [.ref 114, .int ix, .int t] (zHp S X (s, past, aside, pasts, txt, typed, thrown, line, need, left, slits, slB, slF, slT, at9, wd9, got, ans, worst) out) (.inr (some (.int (nI 0)))) (zHp S X (s, past, aside, pasts, txt, typed, (nI 1), line, need, left, slits, slB, slF, slT, at9, wd9, got, ans, worst) out) := by
  have hM9 := hM
  obtain ⟨h0, h1, h2, h3, h4, hc1, hc, hr1, hr, hw, hn, hl⟩ := hM
  refine zRun_of (by decide +kernel) rfl rfl (Nat.le_of_ble_eq_true rfl) ?_
  suffices hs : ∀ (o9 : zO) (h9 : zH), (Sum.inr (some (.int (nI 0))) : zO) = o9 → (zHp S X (s, past, aside, pasts, txt, typed, (nI 1), line, need, left, slits, slB, slF, slT, at9, wd9, got, ans, worst) out) = h9 → zPW G mX10_slit 0 0 o9 h9 0 0 0 [(0, .ref 114), (1, .int ix), (2, .int t)] [] (zHp S X (s, past, aside, pasts, txt, typed, thrown, line, need, left, slits, slB, slF, slT, at9, wd9, got, ans, worst) out) from hs _ _ rfl rfl
  intro o9 h9 ho9 hh9
  refine z_iload_n 1 dX10_slit_0 rfl rfl ?_
  refine z_if_lt (tgt := 13) dX10_slit_1 (by decide) (fun c_1 => ?_) (fun c_1 => ?_)
  · skip
    refine z_aload_n 0 dX10_slit_13 rfl rfl ?_
    refine z_iconst (v := nI 1) dX10_slit_14 (by decide) ?_
    refine z_callV (N := mX10_fails) 1 [.int (nI 1)] [] lX10_fails ⟨zw_1259, zw_1261, zw_46⟩ rfl zgo_114 rfl rfl (Nat.le_of_ble_eq_true rfl) (by decide) ⟨zlt, zlt⟩ ⟨Nat.zero_le _, Nat.zero_le _⟩ zal (m_fails hG (nI 1)) dX10_slit_15 ?_
    exact z_iret rfl dX10_slit_18 (zo_i ho9 (by rfl)) (zo_h hh9 (by rfl)) (Nat.zero_le _) (Nat.zero_le _)
  · skip
    refine z_iload_n 2 dX10_slit_4 rfl rfl ?_
    refine z_iconst (v := nI 0) dX10_slit_5 (by decide) ?_
    refine z_iconst (v := nI 3) dX10_slit_6 (by decide) ?_
    refine z_callS (N := mX10_in) 3 [.int t, .int (nI 0), .int (nI 3)] [] lX10_in ⟨zw_1252, zw_1253⟩ rfl rfl rfl (Nat.le_of_ble_eq_true rfl) (by decide) ⟨zlt, zlt⟩ hG ⟨Nat.zero_le _, Nat.zero_le _⟩ (m_in hG t (nI 0) (nI 3)) dX10_slit_7 ?_
    refine z_if_ne (tgt := 19) dX10_slit_10 (by decide) (fun c_10 => ?_) (fun c_10 => ?_)
    · exfalso; rcases ht with q | q; exact c_1 q; rw [zB_tt c_10] at q; cases q
    · skip
      have b_10 := zB_0.mp c_10
      refine z_aload_n 0 dX10_slit_13 rfl rfl ?_
      refine z_iconst (v := nI 1) dX10_slit_14 (by decide) ?_
      refine z_callV (N := mX10_fails) 1 [.int (nI 1)] [] lX10_fails ⟨zw_1259, zw_1261, zw_46⟩ rfl zgo_114 rfl rfl (Nat.le_of_ble_eq_true rfl) (by decide) ⟨zlt, zlt⟩ ⟨Nat.zero_le _, Nat.zero_le _⟩ zal (m_fails hG (nI 1)) dX10_slit_15 ?_
      exact z_iret rfl dX10_slit_18 (zo_i ho9 (by rfl)) (zo_h hh9 (by rfl)) (Nat.zero_le _) (Nat.zero_le _)

def rFw (s : Nat → Int32) (c : Nat) : Nat → Nat → Int32
  | _, 0 => -1
  | y, d + 1 => if 0 < zCt (fun b => !(rW s y b == rD s c y b)) c then nI y else rFw s c (y + 1) d

set_option maxHeartbeats 4000000 in
set_option maxRecDepth 100000 in
theorem m_firstWrong {G : zT} {S : zS} {X : zXr} {out : Nat → Int64} {s : (Nat → Int32)} {past : (Nat → Int32)} {aside : (Nat → Int32)} {pasts : Nat} {txt : (Nat → Int32)} {typed : Nat} {thrown : Int32} {line : (Nat → Int32)} {need : (Nat → Int32)} {left : (Nat → Int32)} {slits : Nat} {slB : (Nat → Int32)} {slF : (Nat → Int32)} {slT : (Nat → Int32)} {at9 : Nat} {wd9 : Int32} {got : (Nat → Int32)} {ans : Int32} {worst : UInt32} (hG : zAl G = false) {c r w cnt lim : Nat} (hM : zMd s c r w cnt lim) : zRun G mX10_firstWrong 0 0 [.ref 114] (zHp S X (s, past, aside, pasts, txt, typed, thrown, line, need, left, slits, slB, slF, slT, at9, wd9, got, ans, worst) out) (.inr (some (.int (rFw s c 0 w)))) (zHp S X (s, past, aside, pasts, txt, typed, (nI 0), line, need, left, slits, slB, slF, slT, at9, wd9, got, ans, worst) out) := by
  have hM9 := hM
  obtain ⟨h0, h1, h2, h3, h4, hc1, hc, hr1, hr, hw, hn, hl⟩ := hM
  refine zRun_of (by decide +kernel) rfl rfl (Nat.le_of_ble_eq_true rfl) ?_
  suffices hs : ∀ (o9 : zO) (h9 : zH), (Sum.inr (some (.int (rFw s c 0 w))) : zO) = o9 → (zHp S X (s, past, aside, pasts, txt, typed, (nI 0), line, need, left, slits, slB, slF, slT, at9, wd9, got, ans, worst) out) = h9 → zPW G mX10_firstWrong 0 0 o9 h9 0 0 0 [(0, .ref 114)] [] (zHp S X (s, past, aside, pasts, txt, typed, thrown, line, need, left, slits, slB, slF, slT, at9, wd9, got, ans, worst) out) from hs _ _ rfl rfl
  intro o9 h9 ho9 hh9
  refine z_iconst (v := nI 0) dX10_firstWrong_0 (by decide) ?_
  refine z_istore_n (lv' := [(1, .int (nI 0)), (0, .ref 114)]) dX10_firstWrong_1 rfl (by decide) rfl ?_
  have L2_1 : ∀ (d k : Nat), k ≤ w → w + 1 ≤ k + d → rFw s c 0 w = rFw s c k (w - k) → zPW G mX10_firstWrong 0 0 o9 h9 0 0 2 [(1, .int (nI k)), (0, .ref 114)] [] (zHp S X (s, past, aside, pasts, txt, typed, thrown, line, need, left, slits, slB, slF, slT, at9, wd9, got, ans, worst) out) := by
    intro d
    induction d with
    | zero => intro k hk hd; exact absurd hd (by omega)
    | succ d ih =>
      intro k hk_k hd_k he_k
      have ih2 := ih
      clear ih
      refine z_iload_n 0 dX10_firstWrong_2 rfl rfl ?_
      refine z_aload_n 1 dX10_firstWrong_3 rfl rfl ?_
      refine z_get (v := .ref 115) 0 zgo_114 rfl inX10 (by decide) zw_1178 rfl rfl dX10_firstWrong_4 ?_
      refine z_iconst (v := nI 2) dX10_firstWrong_7 (by decide) ?_
      refine z_ialdN (f := s) (n := 1371) (j := 2) zga_115 (by omega) (by decide) dX10_firstWrong_8 ?_
      refine z_top (v2 := .int (nI w)) (by rw [h2]) ?_
      refine z_icmp_ge (tgt := 32) dX10_firstWrong_9 (by decide) (fun c_9 => ?_) (fun c_9 => ?_)
      · skip
        have f_9 := m_le (by omega) (by omega) c_9
        have e_k : k = w := by omega
        rw [e_k]
        refine z_aload_n 1 dX10_firstWrong_32 rfl rfl ?_
        refine z_iconst (v := (-1)) dX10_firstWrong_33 (by decide) ?_
        refine z_callV (N := mX10_tells) 1 [.int ((-1))] [] lX10_tells ⟨zw_1267, zw_1269, zw_48⟩ rfl zgo_114 rfl rfl (Nat.le_of_ble_eq_true rfl) (by decide) ⟨zlt, zlt⟩ ⟨Nat.zero_le _, Nat.zero_le _⟩ zal (m_tells hG (-1)) dX10_firstWrong_34 ?_
        exact z_iret rfl dX10_firstWrong_37 (zo_i ho9 (by rw [he_k, e_k, Nat.sub_self]; rfl)) (zo_h hh9 (by rfl)) (Nat.zero_le _) (Nat.zero_le _)
      · skip
        have f_9 := m_nle (by omega) (by omega) c_9
        refine z_aload_n 1 dX10_firstWrong_12 rfl rfl ?_
        refine z_iload_n 0 dX10_firstWrong_13 rfl rfl ?_
        refine z_callV (N := mX10_wrong) 1 [.int (nI k)] [] lX10_wrong ⟨zw_1452, zw_1454, zw_82⟩ rfl zgo_114 rfl rfl (Nat.le_of_ble_eq_true rfl) (by decide) ⟨zlt, zlt⟩ ⟨Nat.zero_le _, Nat.zero_le _⟩ (fun _ => rfl) (m_wrong hG hM9 k (by omega)) dX10_firstWrong_14 ?_
        refine z_if_le (tgt := 26) dX10_firstWrong_17 (by decide) (fun c_17 => ?_) (fun c_17 => ?_)
        · skip
          have g_17 := m_z_le_t (Nat.lt_of_le_of_lt (zCt_le _ _) (by omega)) c_17
          have he2 : rFw s c 0 w = rFw s c (k + 1) (w - (k + 1)) := by
            rw [he_k, show w - k = w - (k + 1) + 1 by omega]
            exact if_neg (by rw [g_17]; decide)
          refine z_iinc (v := nI (k + 1)) (lv' := [(1, .int (nI (k + 1))), (0, .ref 114)]) 0 dX10_firstWrong_26 rfl (nI_1 _) (by decide) rfl ?_
          refine z_goto (tgt := 2) dX10_firstWrong_29 (by decide) ?_
          refine z_sub [0, 1] (lv' := [(1, .int (nI (k + 1))), (0, .ref 114)]) rfl ?_
          refine z_eqs (lv2 := [(1, .int (nI ((k + 1)))), (0, .ref 114)]) (h2 := (zHp S X (s, past, aside, pasts, txt, typed, thrown, line, need, left, slits, slB, slF, slT, at9, wd9, got, ans, worst) out)) (by rfl) (by rfl) ?_
          exact ih2 (k + 1) (by omega) (by omega) he2
        · skip
          have g_17 := m_z_le_f (Nat.lt_of_le_of_lt (zCt_le _ _) (by omega)) c_17
          refine z_aload_n 1 dX10_firstWrong_20 rfl rfl ?_
          refine z_iload_n 0 dX10_firstWrong_21 rfl rfl ?_
          refine z_callV (N := mX10_tells) 1 [.int (nI k)] [] lX10_tells ⟨zw_1267, zw_1269, zw_48⟩ rfl zgo_114 rfl rfl (Nat.le_of_ble_eq_true rfl) (by decide) ⟨zlt, zlt⟩ ⟨Nat.zero_le _, Nat.zero_le _⟩ zal (m_tells hG (nI k)) dX10_firstWrong_22 ?_
          exact z_iret rfl dX10_firstWrong_25 (zo_i ho9 (by rw [he_k, show w - k = w - (k + 1) + 1 by omega]; exact if_pos g_17)) (zo_h hh9 (by rfl)) (Nat.zero_le _) (Nat.zero_le _)
  refine z_sub [0, 1] (lv' := [(1, .int (nI 0)), (0, .ref 114)]) rfl ?_
  refine z_eqs (lv2 := [(1, .int (nI 0)), (0, .ref 114)]) (h2 := (zHp S X (s, past, aside, pasts, txt, typed, thrown, line, need, left, slits, slB, slF, slT, at9, wd9, got, ans, worst) out)) (by rfl) (by rfl) ?_
  exact L2_1 (w + 1) 0 (by omega) (by omega) rfl

set_option maxHeartbeats 4000000 in
set_option maxRecDepth 100000 in
theorem m_shuttlesFor {G : zT} {S : zS} {X : zXr} {out : Nat → Int64} {s : (Nat → Int32)} {past : (Nat → Int32)} {aside : (Nat → Int32)} {pasts : Nat} {txt : (Nat → Int32)} {typed : Nat} {thrown : Int32} {line : (Nat → Int32)} {need : (Nat → Int32)} {left : (Nat → Int32)} {slits : Nat} {slB : (Nat → Int32)} {slF : (Nat → Int32)} {slT : (Nat → Int32)} {at9 : Nat} {wd9 : Int32} {got : (Nat → Int32)} {ans : Int32} {worst : UInt32} (hG : zAl G = false) {c r w cnt lim : Nat} (hM : zMd s c r w cnt lim) (y : Nat) (hy : y < r) : zRun G mX10_shuttlesFor 0 0 [.ref 114, .int (nI y)] (zHp S X (s, past, aside, pasts, txt, typed, thrown, line, need, left, slits, slB, slF, slT, at9, wd9, got, ans, worst) out) (.inr (some (.int (nI (zCt (rBeg (rD s c y)) c))))) (zHp S X (s, past, aside, pasts, txt, typed, (nI 0), (zFl (rD s c y) line c), need, left, slits, slB, slF, slT, at9, wd9, got, ans, worst) out) := by
  have hM9 := hM
  obtain ⟨h0, h1, h2, h3, h4, hc1, hc, hr1, hr, hw, hn, hl⟩ := hM
  refine zRun_of (by decide +kernel) rfl rfl (Nat.le_of_ble_eq_true rfl) ?_
  suffices hs : ∀ (o9 : zO) (h9 : zH), (Sum.inr (some (.int (nI (zCt (rBeg (rD s c y)) c)))) : zO) = o9 → (zHp S X (s, past, aside, pasts, txt, typed, (nI 0), (zFl (rD s c y) line c), need, left, slits, slB, slF, slT, at9, wd9, got, ans, worst) out) = h9 → zPW G mX10_shuttlesFor 0 0 o9 h9 0 0 0 [(0, .ref 114), (1, .int (nI y))] [] (zHp S X (s, past, aside, pasts, txt, typed, thrown, line, need, left, slits, slB, slF, slT, at9, wd9, got, ans, worst) out) from hs _ _ rfl rfl
  intro o9 h9 ho9 hh9
  refine z_iload_n 1 dX10_shuttlesFor_0 rfl rfl ?_
  refine z_iconst (v := nI 0) dX10_shuttlesFor_1 (by decide) ?_
  refine z_aload_n 0 dX10_shuttlesFor_2 rfl rfl ?_
  refine z_get (v := .ref 115) 0 zgo_114 rfl inX10 (by decide) zw_1178 rfl rfl dX10_shuttlesFor_3 ?_
  refine z_iconst (v := nI 1) dX10_shuttlesFor_6 (by decide) ?_
  refine z_ialdN (f := s) (n := 1371) (j := 1) zga_115 (by omega) (by decide) dX10_shuttlesFor_7 ?_
  refine z_top (v2 := .int (nI r)) (by rw [h1]) ?_
  refine z_iconst (v := nI 1) dX10_shuttlesFor_8 (by decide) ?_
  refine z_isubN (a := r) (b := 1) (by omega) dX10_shuttlesFor_9 ?_
  refine z_callS (N := mX10_in) 3 [.int (nI y), .int (nI 0), .int (nI (r - 1))] [] lX10_in ⟨zw_1252, zw_1253⟩ rfl rfl rfl (Nat.le_of_ble_eq_true rfl) (by decide) ⟨zlt, zlt⟩ hG ⟨Nat.zero_le _, Nat.zero_le _⟩ (m_in hG (nI y) (nI 0) (nI (r - 1))) dX10_shuttlesFor_10 ?_
  refine z_top (v2 := .int (zB (zIn (nI y) (nI r)))) (by rw [zFr_in1 (by omega) (by omega)]) ?_
  refine z_if_ne (tgt := 22) dX10_shuttlesFor_13 (by decide) (fun c_13 => ?_) (fun c_13 => ?_)
  · skip
    have b_13 := zB_tt c_13
    refine z_aload_n 0 dX10_shuttlesFor_22 rfl rfl ?_
    refine z_iload_n 1 dX10_shuttlesFor_23 rfl rfl ?_
    refine z_iconst (v := nI 0) dX10_shuttlesFor_24 (by decide) ?_
    refine z_callV (N := mX10_draws) 2 [.int (nI y), .int (nI 0)] [] lX10_draws ⟨zw_1356, zw_1358, zw_62⟩ rfl zgo_114 rfl rfl (Nat.le_of_ble_eq_true rfl) (by decide) ⟨zlt, zlt⟩ ⟨Nat.zero_le _, Nat.zero_le _⟩ zal (m_draws0 hG hM9 y (by omega)) dX10_shuttlesFor_25 ?_
    refine z_aload_n 0 dX10_shuttlesFor_28 rfl rfl ?_
    refine z_aload_n 0 dX10_shuttlesFor_29 rfl rfl ?_
    refine z_callV (N := mX10_runs) 0 [] [.ref 114] lX10_runs ⟨zw_1444, zw_1446, zw_80⟩ rfl zgo_114 rfl rfl (Nat.le_of_ble_eq_true rfl) (by decide) ⟨zlt, zlt⟩ ⟨Nat.zero_le _, Nat.zero_le _⟩ (fun _ => rfl) (m_runs hG hM9) dX10_shuttlesFor_30 ?_
    refine z_top (v2 := .int (nI (zCt (rBeg (rD s c y)) c))) (by exact congrArg (fun n => Value.int (nI n)) (zCt_cg (fun b hb => rBeg_fl hb))) ?_
    refine z_callV (N := mX10_tells) 1 [.int (nI (zCt (rBeg (rD s c y)) c))] [] lX10_tells ⟨zw_1267, zw_1269, zw_48⟩ rfl zgo_114 rfl rfl (Nat.le_of_ble_eq_true rfl) (by decide) ⟨zlt, zlt⟩ ⟨Nat.zero_le _, Nat.zero_le _⟩ zal (m_tells hG (nI (zCt (rBeg (rD s c y)) c))) dX10_shuttlesFor_33 ?_
    exact z_iret rfl dX10_shuttlesFor_36 (zo_i ho9 (by rfl)) (zo_h hh9 (by rfl)) (Nat.zero_le _) (Nat.zero_le _)
  · exfalso; rw [zIn_n (by omega) (by omega), decide_eq_true hy] at c_13; exact absurd c_13 (by decide)

set_option maxHeartbeats 4000000 in
set_option maxRecDepth 100000 in
theorem m_shuttlesFor_1 {G : zT} {S : zS} {X : zXr} {out : Nat → Int64} {s : (Nat → Int32)} {past : (Nat → Int32)} {aside : (Nat → Int32)} {pasts : Nat} {txt : (Nat → Int32)} {typed : Nat} {thrown : Int32} {line : (Nat → Int32)} {need : (Nat → Int32)} {left : (Nat → Int32)} {slits : Nat} {slB : (Nat → Int32)} {slF : (Nat → Int32)} {slT : (Nat → Int32)} {at9 : Nat} {wd9 : Int32} {got : (Nat → Int32)} {ans : Int32} {worst : UInt32} (hG : zAl G = false) {c r w cnt lim : Nat} (hM : zMd s c r w cnt lim) (y : Int32) (hy : zIn y (nI r) = false) : zRun G mX10_shuttlesFor 0 0 [.ref 114, .int y] (zHp S X (s, past, aside, pasts, txt, typed, thrown, line, need, left, slits, slB, slF, slT, at9, wd9, got, ans, worst) out) (.inr (some (.int (nI 0)))) (zHp S X (s, past, aside, pasts, txt, typed, (nI 1), line, need, left, slits, slB, slF, slT, at9, wd9, got, ans, worst) out) := by
  have hM9 := hM
  obtain ⟨h0, h1, h2, h3, h4, hc1, hc, hr1, hr, hw, hn, hl⟩ := hM
  refine zRun_of (by decide +kernel) rfl rfl (Nat.le_of_ble_eq_true rfl) ?_
  suffices hs : ∀ (o9 : zO) (h9 : zH), (Sum.inr (some (.int (nI 0))) : zO) = o9 → (zHp S X (s, past, aside, pasts, txt, typed, (nI 1), line, need, left, slits, slB, slF, slT, at9, wd9, got, ans, worst) out) = h9 → zPW G mX10_shuttlesFor 0 0 o9 h9 0 0 0 [(0, .ref 114), (1, .int y)] [] (zHp S X (s, past, aside, pasts, txt, typed, thrown, line, need, left, slits, slB, slF, slT, at9, wd9, got, ans, worst) out) from hs _ _ rfl rfl
  intro o9 h9 ho9 hh9
  refine z_iload_n 1 dX10_shuttlesFor_0 rfl rfl ?_
  refine z_iconst (v := nI 0) dX10_shuttlesFor_1 (by decide) ?_
  refine z_aload_n 0 dX10_shuttlesFor_2 rfl rfl ?_
  refine z_get (v := .ref 115) 0 zgo_114 rfl inX10 (by decide) zw_1178 rfl rfl dX10_shuttlesFor_3 ?_
  refine z_iconst (v := nI 1) dX10_shuttlesFor_6 (by decide) ?_
  refine z_ialdN (f := s) (n := 1371) (j := 1) zga_115 (by omega) (by decide) dX10_shuttlesFor_7 ?_
  refine z_top (v2 := .int (nI r)) (by rw [h1]) ?_
  refine z_iconst (v := nI 1) dX10_shuttlesFor_8 (by decide) ?_
  refine z_isubN (a := r) (b := 1) (by omega) dX10_shuttlesFor_9 ?_
  refine z_callS (N := mX10_in) 3 [.int y, .int (nI 0), .int (nI (r - 1))] [] lX10_in ⟨zw_1252, zw_1253⟩ rfl rfl rfl (Nat.le_of_ble_eq_true rfl) (by decide) ⟨zlt, zlt⟩ hG ⟨Nat.zero_le _, Nat.zero_le _⟩ (m_in hG y (nI 0) (nI (r - 1))) dX10_shuttlesFor_10 ?_
  refine z_top (v2 := .int (zB (zIn y (nI r)))) (by rw [zFr_in1 (by omega) (by omega)]) ?_
  refine z_if_ne (tgt := 22) dX10_shuttlesFor_13 (by decide) (fun c_13 => ?_) (fun c_13 => ?_)
  · exfalso; rw [hy] at c_13; exact c_13 rfl
  · skip
    have b_13 := zB_0.mp c_13
    refine z_aload_n 0 dX10_shuttlesFor_16 rfl rfl ?_
    refine z_iconst (v := nI 1) dX10_shuttlesFor_17 (by decide) ?_
    refine z_callV (N := mX10_fails) 1 [.int (nI 1)] [] lX10_fails ⟨zw_1259, zw_1261, zw_46⟩ rfl zgo_114 rfl rfl (Nat.le_of_ble_eq_true rfl) (by decide) ⟨zlt, zlt⟩ ⟨Nat.zero_le _, Nat.zero_le _⟩ zal (m_fails hG (nI 1)) dX10_shuttlesFor_18 ?_
    exact z_iret rfl dX10_shuttlesFor_21 (zo_i ho9 (by rfl)) (zo_h hh9 (by rfl)) (Nat.zero_le _) (Nat.zero_le _)

set_option maxHeartbeats 4000000 in
set_option maxRecDepth 100000 in
theorem m_slitsWith {G : zT} {S : zS} {X : zXr} {out : Nat → Int64} {s : (Nat → Int32)} {past : (Nat → Int32)} {aside : (Nat → Int32)} {pasts : Nat} {txt : (Nat → Int32)} {typed : Nat} {thrown : Int32} {line : (Nat → Int32)} {need : (Nat → Int32)} {left : (Nat → Int32)} {slits : Nat} {slB : (Nat → Int32)} {slF : (Nat → Int32)} {slT : (Nat → Int32)} {at9 : Nat} {wd9 : Int32} {got : (Nat → Int32)} {ans : Int32} {worst : UInt32} (hG : zAl G = false) {c r w cnt lim : Nat} (hM : zMd s c r w cnt lim) (a : Nat) (ha : zFr (nI 1) (nI a) (nI 16) = true) (ha16 : a ≤ 16) : zRun G mX10_slitsWith 0 0 [.ref 114, .int (nI a)] (zHp S X (s, past, aside, pasts, txt, typed, thrown, line, need, left, slits, slB, slF, slT, at9, wd9, got, ans, worst) out) (.inr (some (.int (nI (rFd s w a (c - 1) (0, slB, slF, slT)).1)))) (zHp S X (s, past, aside, pasts, txt, typed, (nI 0), line, need, left, (rFd s w a (c - 1) (0, slB, slF, slT)).1, (rFd s w a (c - 1) (0, slB, slF, slT)).2.1, (rFd s w a (c - 1) (0, slB, slF, slT)).2.2.1, (rFd s w a (c - 1) (0, slB, slF, slT)).2.2.2, at9, wd9, got, ans, worst) out) := by
  have hM9 := hM
  obtain ⟨h0, h1, h2, h3, h4, hc1, hc, hr1, hr, hw, hn, hl⟩ := hM
  refine zRun_of (by decide +kernel) rfl rfl (Nat.le_of_ble_eq_true rfl) ?_
  suffices hs : ∀ (o9 : zO) (h9 : zH), (Sum.inr (some (.int (nI (rFd s w a (c - 1) (0, slB, slF, slT)).1))) : zO) = o9 → (zHp S X (s, past, aside, pasts, txt, typed, (nI 0), line, need, left, (rFd s w a (c - 1) (0, slB, slF, slT)).1, (rFd s w a (c - 1) (0, slB, slF, slT)).2.1, (rFd s w a (c - 1) (0, slB, slF, slT)).2.2.1, (rFd s w a (c - 1) (0, slB, slF, slT)).2.2.2, at9, wd9, got, ans, worst) out) = h9 → zPW G mX10_slitsWith 0 0 o9 h9 0 0 0 [(0, .ref 114), (1, .int (nI a))] [] (zHp S X (s, past, aside, pasts, txt, typed, thrown, line, need, left, slits, slB, slF, slT, at9, wd9, got, ans, worst) out) from hs _ _ rfl rfl
  intro o9 h9 ho9 hh9
  refine z_iload_n 1 dX10_slitsWith_0 rfl rfl ?_
  refine z_iconst (v := nI 1) dX10_slitsWith_1 (by decide) ?_
  refine z_bipush (v := nI 16) dX10_slitsWith_2 (by decide) ?_
  refine z_callS (N := mX10_in) 3 [.int (nI a), .int (nI 1), .int (nI 16)] [] lX10_in ⟨zw_1252, zw_1253⟩ rfl rfl rfl (Nat.le_of_ble_eq_true rfl) (by decide) ⟨zlt, zlt⟩ hG ⟨Nat.zero_le _, Nat.zero_le _⟩ (m_in hG (nI a) (nI 1) (nI 16)) dX10_slitsWith_4 ?_
  refine z_if_ne (tgt := 16) dX10_slitsWith_7 (by decide) (fun c_7 => ?_) (fun c_7 => ?_)
  · skip
    have b_7 := zB_tt c_7
    refine z_aload_n 0 dX10_slitsWith_16 rfl rfl ?_
    refine z_iload_n 1 dX10_slitsWith_17 rfl rfl ?_
    refine z_callV (N := mX10_finds) 1 [.int (nI a)] [] lX10_finds ⟨zw_1316, zw_1318, zw_54⟩ rfl zgo_114 rfl rfl (Nat.le_of_ble_eq_true rfl) (by decide) ⟨zlt, zlt⟩ ⟨Nat.zero_le _, Nat.zero_le _⟩ zal (m_finds hG hM9 a (by omega)) dX10_slitsWith_18 ?_
    refine z_aload_n 0 dX10_slitsWith_21 rfl rfl ?_
    refine z_aload_n 0 dX10_slitsWith_22 rfl rfl ?_
    refine z_get (v := .int (nI ((rFd s w a (c - 1) (0, slB, slF, slT)).1))) 10 zgo_114 rfl inX10 (by decide) zw_1188 rfl rfl dX10_slitsWith_23 ?_
    refine z_callV (N := mX10_tells) 1 [.int (nI ((rFd s w a (c - 1) (0, slB, slF, slT)).1))] [] lX10_tells ⟨zw_1267, zw_1269, zw_48⟩ rfl zgo_114 rfl rfl (Nat.le_of_ble_eq_true rfl) (by decide) ⟨zlt, zlt⟩ ⟨Nat.zero_le _, Nat.zero_le _⟩ zal (m_tells hG (nI ((rFd s w a (c - 1) (0, slB, slF, slT)).1))) dX10_slitsWith_26 ?_
    exact z_iret rfl dX10_slitsWith_29 (zo_i ho9 (by rfl)) (zo_h hh9 (by rfl)) (Nat.zero_le _) (Nat.zero_le _)
  · exfalso; rw [ha] at c_7; exact absurd c_7 (by decide)

set_option maxHeartbeats 4000000 in
set_option maxRecDepth 100000 in
theorem m_slitsWith_1 {G : zT} {S : zS} {X : zXr} {out : Nat → Int64} {s : (Nat → Int32)} {past : (Nat → Int32)} {aside : (Nat → Int32)} {pasts : Nat} {txt : (Nat → Int32)} {typed : Nat} {thrown : Int32} {line : (Nat → Int32)} {need : (Nat → Int32)} {left : (Nat → Int32)} {slits : Nat} {slB : (Nat → Int32)} {slF : (Nat → Int32)} {slT : (Nat → Int32)} {at9 : Nat} {wd9 : Int32} {got : (Nat → Int32)} {ans : Int32} {worst : UInt32} (hG : zAl G = false) {c r w cnt lim : Nat} (hM : zMd s c r w cnt lim) (a : Int32) (ha : zFr (nI 1) a (nI 16) = false) : zRun G mX10_slitsWith 0 0 [.ref 114, .int a] (zHp S X (s, past, aside, pasts, txt, typed, thrown, line, need, left, slits, slB, slF, slT, at9, wd9, got, ans, worst) out) (.inr (some (.int (nI 0)))) (zHp S X (s, past, aside, pasts, txt, typed, (nI 1), line, need, left, slits, slB, slF, slT, at9, wd9, got, ans, worst) out) := by
  have hM9 := hM
  obtain ⟨h0, h1, h2, h3, h4, hc1, hc, hr1, hr, hw, hn, hl⟩ := hM
  refine zRun_of (by decide +kernel) rfl rfl (Nat.le_of_ble_eq_true rfl) ?_
  suffices hs : ∀ (o9 : zO) (h9 : zH), (Sum.inr (some (.int (nI 0))) : zO) = o9 → (zHp S X (s, past, aside, pasts, txt, typed, (nI 1), line, need, left, slits, slB, slF, slT, at9, wd9, got, ans, worst) out) = h9 → zPW G mX10_slitsWith 0 0 o9 h9 0 0 0 [(0, .ref 114), (1, .int a)] [] (zHp S X (s, past, aside, pasts, txt, typed, thrown, line, need, left, slits, slB, slF, slT, at9, wd9, got, ans, worst) out) from hs _ _ rfl rfl
  intro o9 h9 ho9 hh9
  refine z_iload_n 1 dX10_slitsWith_0 rfl rfl ?_
  refine z_iconst (v := nI 1) dX10_slitsWith_1 (by decide) ?_
  refine z_bipush (v := nI 16) dX10_slitsWith_2 (by decide) ?_
  refine z_callS (N := mX10_in) 3 [.int a, .int (nI 1), .int (nI 16)] [] lX10_in ⟨zw_1252, zw_1253⟩ rfl rfl rfl (Nat.le_of_ble_eq_true rfl) (by decide) ⟨zlt, zlt⟩ hG ⟨Nat.zero_le _, Nat.zero_le _⟩ (m_in hG a (nI 1) (nI 16)) dX10_slitsWith_4 ?_
  refine z_if_ne (tgt := 16) dX10_slitsWith_7 (by decide) (fun c_7 => ?_) (fun c_7 => ?_)
  · exfalso; rw [ha] at c_7; exact c_7 rfl
  · skip
    have b_7 := zB_0.mp c_7
    refine z_aload_n 0 dX10_slitsWith_10 rfl rfl ?_
    refine z_iconst (v := nI 1) dX10_slitsWith_11 (by decide) ?_
    refine z_callV (N := mX10_fails) 1 [.int (nI 1)] [] lX10_fails ⟨zw_1259, zw_1261, zw_46⟩ rfl zgo_114 rfl rfl (Nat.le_of_ble_eq_true rfl) (by decide) ⟨zlt, zlt⟩ ⟨Nat.zero_le _, Nat.zero_le _⟩ zal (m_fails hG (nI 1)) dX10_slitsWith_12 ?_
    exact z_iret rfl dX10_slitsWith_15 (zo_i ho9 (by rfl)) (zo_h hh9 (by rfl)) (Nat.zero_le _) (Nat.zero_le _)

set_option maxHeartbeats 4000000 in
set_option maxRecDepth 100000 in
theorem m_missing {G : zT} {S : zS} {X : zXr} {out : Nat → Int64} {s : (Nat → Int32)} {past : (Nat → Int32)} {aside : (Nat → Int32)} {pasts : Nat} {txt : (Nat → Int32)} {typed : Nat} {thrown : Int32} {line : (Nat → Int32)} {need : (Nat → Int32)} {left : (Nat → Int32)} {slits : Nat} {slB : (Nat → Int32)} {slF : (Nat → Int32)} {slT : (Nat → Int32)} {at9 : Nat} {wd9 : Int32} {got : (Nat → Int32)} {ans : Int32} {worst : UInt32} (hG : zAl G = false) {c r w cnt lim : Nat} (hM : zMd s c r w cnt lim) (v : Int32) (hv : zFr (nI 0) v (nI 7) = true) : zRun G mX10_missing 0 0 [.ref 114, .int v] (zHp S X (s, past, aside, pasts, txt, typed, thrown, line, need, left, slits, slB, slF, slT, at9, wd9, got, ans, worst) out) (.inr (some (.int (if nI (zSN (fun y => if y < w then 0 else zCt (fun b => rD s c y b == v) c + zCt (fun b => rD s c y b == v && rBeg (rD s c y) b) c) r) - rUn s v cnt < 0 then nI 0 else nI (zSN (fun y => if y < w then 0 else zCt (fun b => rD s c y b == v) c + zCt (fun b => rD s c y b == v && rBeg (rD s c y) b) c) r) - rUn s v cnt)))) (zHp S X (s, past, aside, pasts, txt, typed, (nI 0), (zIt (fun y L => zFl (rD s c y) L c) r line), need, left, slits, slB, slF, slT, at9, wd9, got, ans, worst) out) := by
  have hM9 := hM
  obtain ⟨h0, h1, h2, h3, h4, hc1, hc, hr1, hr, hw, hn, hl⟩ := hM
  refine zRun_of (by decide +kernel) rfl rfl (Nat.le_of_ble_eq_true rfl) ?_
  suffices hs : ∀ (o9 : zO) (h9 : zH), (Sum.inr (some (.int (if nI (zSN (fun y => if y < w then 0 else zCt (fun b => rD s c y b == v) c + zCt (fun b => rD s c y b == v && rBeg (rD s c y) b) c) r) - rUn s v cnt < 0 then nI 0 else nI (zSN (fun y => if y < w then 0 else zCt (fun b => rD s c y b == v) c + zCt (fun b => rD s c y b == v && rBeg (rD s c y) b) c) r) - rUn s v cnt))) : zO) = o9 → (zHp S X (s, past, aside, pasts, txt, typed, (nI 0), (zIt (fun y L => zFl (rD s c y) L c) r line), need, left, slits, slB, slF, slT, at9, wd9, got, ans, worst) out) = h9 → zPW G mX10_missing 0 0 o9 h9 0 0 0 [(0, .ref 114), (1, .int v)] [] (zHp S X (s, past, aside, pasts, txt, typed, thrown, line, need, left, slits, slB, slF, slT, at9, wd9, got, ans, worst) out) from hs _ _ rfl rfl
  intro o9 h9 ho9 hh9
  refine z_iload_n 1 dX10_missing_0 rfl rfl ?_
  refine z_iconst (v := nI 0) dX10_missing_1 (by decide) ?_
  refine z_bipush (v := nI 7) dX10_missing_2 (by decide) ?_
  refine z_callS (N := mX10_in) 3 [.int v, .int (nI 0), .int (nI 7)] [] lX10_in ⟨zw_1252, zw_1253⟩ rfl rfl rfl (Nat.le_of_ble_eq_true rfl) (by decide) ⟨zlt, zlt⟩ hG ⟨Nat.zero_le _, Nat.zero_le _⟩ (m_in hG v (nI 0) (nI 7)) dX10_missing_4 ?_
  refine z_if_ne (tgt := 16) dX10_missing_7 (by decide) (fun c_7 => ?_) (fun c_7 => ?_)
  · skip
    have b_7 := zB_tt c_7
    refine z_aload_n 0 dX10_missing_16 rfl rfl ?_
    refine z_iload_n 1 dX10_missing_17 rfl rfl ?_
    refine z_iconst (v := nI 5) dX10_missing_18 (by decide) ?_
    refine z_callV (N := mX10_sumOf) 2 [.int v, .int (nI 5)] [] lX10_sumOf ⟨zw_1484, zw_1486, zw_88⟩ rfl zgo_114 rfl rfl (Nat.le_of_ble_eq_true rfl) (by decide) ⟨zlt, zlt⟩ ⟨Nat.zero_le _, Nat.zero_le _⟩ zal (m_sumOf_5 hG hM9 v) dX10_missing_19 ?_
    refine z_aload_n 0 dX10_missing_22 rfl rfl ?_
    refine z_iload_n 1 dX10_missing_23 rfl rfl ?_
    refine z_callV (N := mX10_unitsOf) 1 [.int v] [.int (nI (zSN (fun y => if y < w then 0 else zCt (fun b => rD s c y b == v) c + zCt (fun b => rD s c y b == v && rBeg (rD s c y) b) c) r))] lX10_unitsOf ⟨zw_1376, zw_1378, zw_67⟩ rfl zgo_114 rfl rfl (Nat.le_of_ble_eq_true rfl) (by decide) ⟨zlt, zlt⟩ ⟨Nat.zero_le _, Nat.zero_le _⟩ (fun _ => rfl) (m_unitsOf hG hM9 v) dX10_missing_24 ?_
    refine z_isub dX10_missing_27 ?_
    refine z_istore_n (lv' := [(2, .int ((nI (zSN (fun y => if y < w then 0 else zCt (fun b => rD s c y b == v) c + zCt (fun b => rD s c y b == v && rBeg (rD s c y) b) c) r)) - (rUn s v cnt))), (0, .ref 114), (1, .int v)]) dX10_missing_28 rfl (by decide) rfl ?_
    refine z_aload_n 1 dX10_missing_29 rfl rfl ?_
    have J39_25 : zPW G mX10_missing 0 0 o9 h9 0 0 39 [(2, .int ((nI (zSN (fun y => if y < w then 0 else zCt (fun b => rD s c y b == v) c + zCt (fun b => rD s c y b == v && rBeg (rD s c y) b) c) r)) - (rUn s v cnt))), (0, .ref 114), (1, .int v)] [.int (if nI (zSN (fun y => if y < w then 0 else zCt (fun b => rD s c y b == v) c + zCt (fun b => rD s c y b == v && rBeg (rD s c y) b) c) r) - rUn s v cnt < 0 then nI 0 else nI (zSN (fun y => if y < w then 0 else zCt (fun b => rD s c y b == v) c + zCt (fun b => rD s c y b == v && rBeg (rD s c y) b) c) r) - rUn s v cnt), .ref 114] (zHp S X (s, past, aside, pasts, txt, typed, thrown, (zIt (fun y L => zFl (rD s c y) L c) r line), need, left, slits, slB, slF, slT, at9, wd9, got, ans, worst) out) := by
      refine z_callV (N := mX10_tells) 1 [.int (if nI (zSN (fun y => if y < w then 0 else zCt (fun b => rD s c y b == v) c + zCt (fun b => rD s c y b == v && rBeg (rD s c y) b) c) r) - rUn s v cnt < 0 then nI 0 else nI (zSN (fun y => if y < w then 0 else zCt (fun b => rD s c y b == v) c + zCt (fun b => rD s c y b == v && rBeg (rD s c y) b) c) r) - rUn s v cnt)] [] lX10_tells ⟨zw_1267, zw_1269, zw_48⟩ rfl zgo_114 rfl rfl (Nat.le_of_ble_eq_true rfl) (by decide) ⟨zlt, zlt⟩ ⟨Nat.zero_le _, Nat.zero_le _⟩ zal (m_tells hG (if nI (zSN (fun y => if y < w then 0 else zCt (fun b => rD s c y b == v) c + zCt (fun b => rD s c y b == v && rBeg (rD s c y) b) c) r) - rUn s v cnt < 0 then nI 0 else nI (zSN (fun y => if y < w then 0 else zCt (fun b => rD s c y b == v) c + zCt (fun b => rD s c y b == v && rBeg (rD s c y) b) c) r) - rUn s v cnt)) dX10_missing_39 ?_
      exact z_iret rfl dX10_missing_42 (zo_i ho9 (by rfl)) (zo_h hh9 (by rfl)) (Nat.zero_le _) (Nat.zero_le _)
    refine z_iload_n 0 dX10_missing_30 rfl rfl ?_
    refine z_if_ge (tgt := 38) dX10_missing_31 (by decide) (fun c_31 => ?_) (fun c_31 => ?_)
    · skip
      have g_31 := Int32.not_lt.mpr c_31
      refine z_iload_n 0 dX10_missing_38 rfl rfl ?_
      refine z_top (v2 := .int (if nI (zSN (fun y => if y < w then 0 else zCt (fun b => rD s c y b == v) c + zCt (fun b => rD s c y b == v && rBeg (rD s c y) b) c) r) - rUn s v cnt < 0 then nI 0 else nI (zSN (fun y => if y < w then 0 else zCt (fun b => rD s c y b == v) c + zCt (fun b => rD s c y b == v && rBeg (rD s c y) b) c) r) - rUn s v cnt)) (by first | rw [if_neg g_31] | rw [if_pos g_31]) ?_
      exact J39_25
    · skip
      have g_31 := Int32.not_le.mp c_31
      refine z_iconst (v := nI 0) dX10_missing_34 (by decide) ?_
      refine z_goto (tgt := 39) dX10_missing_35 (by decide) ?_
      refine z_top (v2 := .int (if nI (zSN (fun y => if y < w then 0 else zCt (fun b => rD s c y b == v) c + zCt (fun b => rD s c y b == v && rBeg (rD s c y) b) c) r) - rUn s v cnt < 0 then nI 0 else nI (zSN (fun y => if y < w then 0 else zCt (fun b => rD s c y b == v) c + zCt (fun b => rD s c y b == v && rBeg (rD s c y) b) c) r) - rUn s v cnt)) (by first | rw [if_neg g_31] | rw [if_pos g_31]) ?_
      exact J39_25
  · exfalso; rw [hv] at c_7; exact absurd c_7 (by decide)

set_option maxHeartbeats 4000000 in
set_option maxRecDepth 100000 in
theorem m_missing_1 {G : zT} {S : zS} {X : zXr} {out : Nat → Int64} {s : (Nat → Int32)} {past : (Nat → Int32)} {aside : (Nat → Int32)} {pasts : Nat} {txt : (Nat → Int32)} {typed : Nat} {thrown : Int32} {line : (Nat → Int32)} {need : (Nat → Int32)} {left : (Nat → Int32)} {slits : Nat} {slB : (Nat → Int32)} {slF : (Nat → Int32)} {slT : (Nat → Int32)} {at9 : Nat} {wd9 : Int32} {got : (Nat → Int32)} {ans : Int32} {worst : UInt32} (hG : zAl G = false) {c r w cnt lim : Nat} (hM : zMd s c r w cnt lim) (v : Int32) (hv : zFr (nI 0) v (nI 7) = false) : zRun G mX10_missing 0 0 [.ref 114, .int v] (zHp S X (s, past, aside, pasts, txt, typed, thrown, line, need, left, slits, slB, slF, slT, at9, wd9, got, ans, worst) out) (.inr (some (.int (nI 0)))) (zHp S X (s, past, aside, pasts, txt, typed, (nI 1), line, need, left, slits, slB, slF, slT, at9, wd9, got, ans, worst) out) := by
  have hM9 := hM
  obtain ⟨h0, h1, h2, h3, h4, hc1, hc, hr1, hr, hw, hn, hl⟩ := hM
  refine zRun_of (by decide +kernel) rfl rfl (Nat.le_of_ble_eq_true rfl) ?_
  suffices hs : ∀ (o9 : zO) (h9 : zH), (Sum.inr (some (.int (nI 0))) : zO) = o9 → (zHp S X (s, past, aside, pasts, txt, typed, (nI 1), line, need, left, slits, slB, slF, slT, at9, wd9, got, ans, worst) out) = h9 → zPW G mX10_missing 0 0 o9 h9 0 0 0 [(0, .ref 114), (1, .int v)] [] (zHp S X (s, past, aside, pasts, txt, typed, thrown, line, need, left, slits, slB, slF, slT, at9, wd9, got, ans, worst) out) from hs _ _ rfl rfl
  intro o9 h9 ho9 hh9
  refine z_iload_n 1 dX10_missing_0 rfl rfl ?_
  refine z_iconst (v := nI 0) dX10_missing_1 (by decide) ?_
  refine z_bipush (v := nI 7) dX10_missing_2 (by decide) ?_
  refine z_callS (N := mX10_in) 3 [.int v, .int (nI 0), .int (nI 7)] [] lX10_in ⟨zw_1252, zw_1253⟩ rfl rfl rfl (Nat.le_of_ble_eq_true rfl) (by decide) ⟨zlt, zlt⟩ hG ⟨Nat.zero_le _, Nat.zero_le _⟩ (m_in hG v (nI 0) (nI 7)) dX10_missing_4 ?_
  refine z_if_ne (tgt := 16) dX10_missing_7 (by decide) (fun c_7 => ?_) (fun c_7 => ?_)
  · exfalso; rw [hv] at c_7; exact c_7 rfl
  · skip
    have b_7 := zB_0.mp c_7
    refine z_aload_n 0 dX10_missing_10 rfl rfl ?_
    refine z_iconst (v := nI 1) dX10_missing_11 (by decide) ?_
    refine z_callV (N := mX10_fails) 1 [.int (nI 1)] [] lX10_fails ⟨zw_1259, zw_1261, zw_46⟩ rfl zgo_114 rfl rfl (Nat.le_of_ble_eq_true rfl) (by decide) ⟨zlt, zlt⟩ ⟨Nat.zero_le _, Nat.zero_le _⟩ zal (m_fails hG (nI 1)) dX10_missing_12 ?_
    exact z_iret rfl dX10_missing_15 (zo_i ho9 (by rfl)) (zo_h hh9 (by rfl)) (Nat.zero_le _) (Nat.zero_le _)

set_option maxHeartbeats 4000000 in
set_option maxRecDepth 100000 in
theorem m_type {G : zT} {S : zS} {X : zXr} {out : Nat → Int64} {s : (Nat → Int32)} {past : (Nat → Int32)} {aside : (Nat → Int32)} {pasts : Nat} {txt : (Nat → Int32)} {typed : Nat} {thrown : Int32} {line : (Nat → Int32)} {need : (Nat → Int32)} {left : (Nat → Int32)} {slits : Nat} {slB : (Nat → Int32)} {slF : (Nat → Int32)} {slT : (Nat → Int32)} {at9 : Nat} {wd9 : Int32} {got : (Nat → Int32)} {ans : Int32} {worst : UInt32} (hG : zAl G = false) {c r w cnt lim : Nat} (hM : zMd s c r w cnt lim) (v : Int32) (hv : zFr (nI 0) v (nI 127) = true) (h150 : typed < 150) : zRun G mX10_type 0 0 [.ref 114, .int v] (zHp S X (s, past, aside, pasts, txt, typed, thrown, line, need, left, slits, slB, slF, slT, at9, wd9, got, ans, worst) out) (.inr (some (.int (nI (typed + 1))))) (zHp S X (s, past, aside, pasts, (upd txt typed v), (typed + 1), (nI 0), line, need, left, slits, slB, slF, slT, at9, wd9, got, ans, worst) out) := by
  have hM9 := hM
  obtain ⟨h0, h1, h2, h3, h4, hc1, hc, hr1, hr, hw, hn, hl⟩ := hM
  refine zRun_of (by decide +kernel) rfl rfl (Nat.le_of_ble_eq_true rfl) ?_
  suffices hs : ∀ (o9 : zO) (h9 : zH), (Sum.inr (some (.int (nI (typed + 1)))) : zO) = o9 → (zHp S X (s, past, aside, pasts, (upd txt typed v), (typed + 1), (nI 0), line, need, left, slits, slB, slF, slT, at9, wd9, got, ans, worst) out) = h9 → zPW G mX10_type 0 0 o9 h9 0 0 0 [(0, .ref 114), (1, .int v)] [] (zHp S X (s, past, aside, pasts, txt, typed, thrown, line, need, left, slits, slB, slF, slT, at9, wd9, got, ans, worst) out) from hs _ _ rfl rfl
  intro o9 h9 ho9 hh9
  refine z_iload_n 1 dX10_type_0 rfl rfl ?_
  refine z_iconst (v := nI 0) dX10_type_1 (by decide) ?_
  refine z_bipush (v := nI 127) dX10_type_2 (by decide) ?_
  refine z_callS (N := mX10_in) 3 [.int v, .int (nI 0), .int (nI 127)] [] lX10_in ⟨zw_1252, zw_1253⟩ rfl rfl rfl (Nat.le_of_ble_eq_true rfl) (by decide) ⟨zlt, zlt⟩ hG ⟨Nat.zero_le _, Nat.zero_le _⟩ (m_in hG v (nI 0) (nI 127)) dX10_type_4 ?_
  refine z_if_ne (tgt := 16) dX10_type_7 (by decide) (fun c_7 => ?_) (fun c_7 => ?_)
  · skip
    have b_7 := zB_tt c_7
    refine z_aload_n 0 dX10_type_16 rfl rfl ?_
    refine z_get (v := .int (nI typed)) 5 zgo_114 rfl inX10 (by decide) zw_1183 rfl rfl dX10_type_17 ?_
    refine z_sipush (v := nI 150) dX10_type_20 (by decide) ?_
    refine z_icmp_ne (tgt := 32) dX10_type_23 (by decide) (fun c_23 => ?_) (fun c_23 => ?_)
    · skip
      have f_23 := m_ne (by omega) (by omega) c_23
      refine z_aload_n 0 dX10_type_32 rfl rfl ?_
      refine z_get (v := .ref 118) 4 zgo_114 rfl inX10 (by decide) zw_1182 rfl rfl dX10_type_33 ?_
      refine z_aload_n 0 dX10_type_36 rfl rfl ?_
      refine z_get (v := .int (nI typed)) 5 zgo_114 rfl inX10 (by decide) zw_1183 rfl rfl dX10_type_37 ?_
      refine z_iload_n 1 dX10_type_40 rfl rfl ?_
      refine z_iastN (f := txt) (n := 150) (j := typed) zga_118 (by omega) (by decide) dX10_type_41 ?_
      refine z_eqh (h2 := (zHp S X (s, past, aside, pasts, (upd txt typed v), typed, thrown, line, need, left, slits, slB, slF, slT, at9, wd9, got, ans, worst) out)) zsa_118 ?_
      refine z_aload_n 0 dX10_type_42 rfl rfl ?_
      refine z_dup dX10_type_43 rfl ?_
      refine z_get (v := .int (nI typed)) 5 zgo_114 rfl inX10 (by decide) zw_1183 rfl rfl dX10_type_44 ?_
      refine z_iconst (v := nI 1) dX10_type_47 (by decide) ?_
      refine z_iaddN (a := typed) (b := 1) dX10_type_48 ?_
      refine z_puti 5 tyX10 zgo_114 rfl inX10 tyX10_ok nmX10 (by decide) zw_1183 rfl rfl (by decide +kernel) (Nat.le_of_ble_eq_true rfl) dX10_type_49 ?_
      refine z_eqh (h2 := (zHp S X (s, past, aside, pasts, (upd txt typed v), (typed + 1), thrown, line, need, left, slits, slB, slF, slT, at9, wd9, got, ans, worst) out)) zsf_114_5 ?_
      refine z_aload_n 0 dX10_type_52 rfl rfl ?_
      refine z_aload_n 0 dX10_type_53 rfl rfl ?_
      refine z_get (v := .int (nI (typed + 1))) 5 zgo_114 rfl inX10 (by decide) zw_1183 rfl rfl dX10_type_54 ?_
      refine z_callV (N := mX10_tells) 1 [.int (nI (typed + 1))] [] lX10_tells ⟨zw_1267, zw_1269, zw_48⟩ rfl zgo_114 rfl rfl (Nat.le_of_ble_eq_true rfl) (by decide) ⟨zlt, zlt⟩ ⟨Nat.zero_le _, Nat.zero_le _⟩ zal (m_tells hG (nI (typed + 1))) dX10_type_57 ?_
      exact z_iret rfl dX10_type_60 (zo_i ho9 (by rfl)) (zo_h hh9 (by rfl)) (Nat.zero_le _) (Nat.zero_le _)
    · exfalso; have := m_eq (by omega) (by omega) c_23; omega
  · exfalso; rw [hv] at c_7; exact absurd c_7 (by decide)

set_option maxHeartbeats 4000000 in
set_option maxRecDepth 100000 in
theorem m_type_1 {G : zT} {S : zS} {X : zXr} {out : Nat → Int64} {s : (Nat → Int32)} {past : (Nat → Int32)} {aside : (Nat → Int32)} {pasts : Nat} {txt : (Nat → Int32)} {typed : Nat} {thrown : Int32} {line : (Nat → Int32)} {need : (Nat → Int32)} {left : (Nat → Int32)} {slits : Nat} {slB : (Nat → Int32)} {slF : (Nat → Int32)} {slT : (Nat → Int32)} {at9 : Nat} {wd9 : Int32} {got : (Nat → Int32)} {ans : Int32} {worst : UInt32} (hG : zAl G = false) {c r w cnt lim : Nat} (hM : zMd s c r w cnt lim) (v : Int32) (hv : zFr (nI 0) v (nI 127) = false) : zRun G mX10_type 0 0 [.ref 114, .int v] (zHp S X (s, past, aside, pasts, txt, typed, thrown, line, need, left, slits, slB, slF, slT, at9, wd9, got, ans, worst) out) (.inr (some (.int (nI 0)))) (zHp S X (s, past, aside, pasts, txt, typed, (nI 1), line, need, left, slits, slB, slF, slT, at9, wd9, got, ans, worst) out) := by
  have hM9 := hM
  obtain ⟨h0, h1, h2, h3, h4, hc1, hc, hr1, hr, hw, hn, hl⟩ := hM
  refine zRun_of (by decide +kernel) rfl rfl (Nat.le_of_ble_eq_true rfl) ?_
  suffices hs : ∀ (o9 : zO) (h9 : zH), (Sum.inr (some (.int (nI 0))) : zO) = o9 → (zHp S X (s, past, aside, pasts, txt, typed, (nI 1), line, need, left, slits, slB, slF, slT, at9, wd9, got, ans, worst) out) = h9 → zPW G mX10_type 0 0 o9 h9 0 0 0 [(0, .ref 114), (1, .int v)] [] (zHp S X (s, past, aside, pasts, txt, typed, thrown, line, need, left, slits, slB, slF, slT, at9, wd9, got, ans, worst) out) from hs _ _ rfl rfl
  intro o9 h9 ho9 hh9
  refine z_iload_n 1 dX10_type_0 rfl rfl ?_
  refine z_iconst (v := nI 0) dX10_type_1 (by decide) ?_
  refine z_bipush (v := nI 127) dX10_type_2 (by decide) ?_
  refine z_callS (N := mX10_in) 3 [.int v, .int (nI 0), .int (nI 127)] [] lX10_in ⟨zw_1252, zw_1253⟩ rfl rfl rfl (Nat.le_of_ble_eq_true rfl) (by decide) ⟨zlt, zlt⟩ hG ⟨Nat.zero_le _, Nat.zero_le _⟩ (m_in hG v (nI 0) (nI 127)) dX10_type_4 ?_
  refine z_if_ne (tgt := 16) dX10_type_7 (by decide) (fun c_7 => ?_) (fun c_7 => ?_)
  · exfalso; rw [hv] at c_7; exact c_7 rfl
  · skip
    have b_7 := zB_0.mp c_7
    refine z_aload_n 0 dX10_type_10 rfl rfl ?_
    refine z_iconst (v := nI 1) dX10_type_11 (by decide) ?_
    refine z_callV (N := mX10_fails) 1 [.int (nI 1)] [] lX10_fails ⟨zw_1259, zw_1261, zw_46⟩ rfl zgo_114 rfl rfl (Nat.le_of_ble_eq_true rfl) (by decide) ⟨zlt, zlt⟩ ⟨Nat.zero_le _, Nat.zero_le _⟩ zal (m_fails hG (nI 1)) dX10_type_12 ?_
    exact z_iret rfl dX10_type_15 (zo_i ho9 (by rfl)) (zo_h hh9 (by rfl)) (Nat.zero_le _) (Nat.zero_le _)

set_option maxHeartbeats 4000000 in
set_option maxRecDepth 100000 in
theorem m_type_2 {G : zT} {S : zS} {X : zXr} {out : Nat → Int64} {s : (Nat → Int32)} {past : (Nat → Int32)} {aside : (Nat → Int32)} {pasts : Nat} {txt : (Nat → Int32)} {typed : Nat} {thrown : Int32} {line : (Nat → Int32)} {need : (Nat → Int32)} {left : (Nat → Int32)} {slits : Nat} {slB : (Nat → Int32)} {slF : (Nat → Int32)} {slT : (Nat → Int32)} {at9 : Nat} {wd9 : Int32} {got : (Nat → Int32)} {ans : Int32} {worst : UInt32} (hG : zAl G = false) {c r w cnt lim : Nat} (hM : zMd s c r w cnt lim) (v : Int32) (hv : zFr (nI 0) v (nI 127) = true) (h150 : typed = 150) : zRun G mX10_type 0 0 [.ref 114, .int v] (zHp S X (s, past, aside, pasts, txt, typed, thrown, line, need, left, slits, slB, slF, slT, at9, wd9, got, ans, worst) out) (.inr (some (.int (nI 0)))) (zHp S X (s, past, aside, pasts, txt, typed, (nI 2), line, need, left, slits, slB, slF, slT, at9, wd9, got, ans, worst) out) := by
  have hM9 := hM
  obtain ⟨h0, h1, h2, h3, h4, hc1, hc, hr1, hr, hw, hn, hl⟩ := hM
  refine zRun_of (by decide +kernel) rfl rfl (Nat.le_of_ble_eq_true rfl) ?_
  suffices hs : ∀ (o9 : zO) (h9 : zH), (Sum.inr (some (.int (nI 0))) : zO) = o9 → (zHp S X (s, past, aside, pasts, txt, typed, (nI 2), line, need, left, slits, slB, slF, slT, at9, wd9, got, ans, worst) out) = h9 → zPW G mX10_type 0 0 o9 h9 0 0 0 [(0, .ref 114), (1, .int v)] [] (zHp S X (s, past, aside, pasts, txt, typed, thrown, line, need, left, slits, slB, slF, slT, at9, wd9, got, ans, worst) out) from hs _ _ rfl rfl
  intro o9 h9 ho9 hh9
  refine z_iload_n 1 dX10_type_0 rfl rfl ?_
  refine z_iconst (v := nI 0) dX10_type_1 (by decide) ?_
  refine z_bipush (v := nI 127) dX10_type_2 (by decide) ?_
  refine z_callS (N := mX10_in) 3 [.int v, .int (nI 0), .int (nI 127)] [] lX10_in ⟨zw_1252, zw_1253⟩ rfl rfl rfl (Nat.le_of_ble_eq_true rfl) (by decide) ⟨zlt, zlt⟩ hG ⟨Nat.zero_le _, Nat.zero_le _⟩ (m_in hG v (nI 0) (nI 127)) dX10_type_4 ?_
  refine z_if_ne (tgt := 16) dX10_type_7 (by decide) (fun c_7 => ?_) (fun c_7 => ?_)
  · skip
    have b_7 := zB_tt c_7
    refine z_aload_n 0 dX10_type_16 rfl rfl ?_
    refine z_get (v := .int (nI typed)) 5 zgo_114 rfl inX10 (by decide) zw_1183 rfl rfl dX10_type_17 ?_
    refine z_sipush (v := nI 150) dX10_type_20 (by decide) ?_
    refine z_icmp_ne (tgt := 32) dX10_type_23 (by decide) (fun c_23 => ?_) (fun c_23 => ?_)
    · exfalso; exact c_23 (by rw [h150])
    · skip
      refine z_aload_n 0 dX10_type_26 rfl rfl ?_
      refine z_iconst (v := nI 2) dX10_type_27 (by decide) ?_
      refine z_callV (N := mX10_fails) 1 [.int (nI 2)] [] lX10_fails ⟨zw_1259, zw_1261, zw_46⟩ rfl zgo_114 rfl rfl (Nat.le_of_ble_eq_true rfl) (by decide) ⟨zlt, zlt⟩ ⟨Nat.zero_le _, Nat.zero_le _⟩ zal (m_fails hG (nI 2)) dX10_type_28 ?_
      exact z_iret rfl dX10_type_31 (zo_i ho9 (by rfl)) (zo_h hh9 (by rfl)) (Nat.zero_le _) (Nat.zero_le _)
  · exfalso; rw [hv] at c_7; exact absurd c_7 (by decide)

set_option maxHeartbeats 4000000 in
set_option maxRecDepth 100000 in
theorem m_clear {G : zT} {S : zS} {X : zXr} {out : Nat → Int64} {s : (Nat → Int32)} {past : (Nat → Int32)} {aside : (Nat → Int32)} {pasts : Nat} {txt : (Nat → Int32)} {typed : Nat} {thrown : Int32} {line : (Nat → Int32)} {need : (Nat → Int32)} {left : (Nat → Int32)} {slits : Nat} {slB : (Nat → Int32)} {slF : (Nat → Int32)} {slT : (Nat → Int32)} {at9 : Nat} {wd9 : Int32} {got : (Nat → Int32)} {ans : Int32} {worst : UInt32} (hG : zAl G = false) {c r w cnt lim : Nat} (hM : zMd s c r w cnt lim) : zRun G mX10_clearCommands 0 0 [.ref 114] (zHp S X (s, past, aside, pasts, txt, typed, thrown, line, need, left, slits, slB, slF, slT, at9, wd9, got, ans, worst) out) (.inr (some (.int (nI typed)))) (zHp S X (s, past, aside, pasts, txt, 0, (nI 0), line, need, left, slits, slB, slF, slT, at9, wd9, got, ans, worst) out) := by
  have hM9 := hM
  obtain ⟨h0, h1, h2, h3, h4, hc1, hc, hr1, hr, hw, hn, hl⟩ := hM
  refine zRun_of (by decide +kernel) rfl rfl (Nat.le_of_ble_eq_true rfl) ?_
  suffices hs : ∀ (o9 : zO) (h9 : zH), (Sum.inr (some (.int (nI typed))) : zO) = o9 → (zHp S X (s, past, aside, pasts, txt, 0, (nI 0), line, need, left, slits, slB, slF, slT, at9, wd9, got, ans, worst) out) = h9 → zPW G mX10_clearCommands 0 0 o9 h9 0 0 0 [(0, .ref 114)] [] (zHp S X (s, past, aside, pasts, txt, typed, thrown, line, need, left, slits, slB, slF, slT, at9, wd9, got, ans, worst) out) from hs _ _ rfl rfl
  intro o9 h9 ho9 hh9
  refine z_aload_n 0 dX10_clearCommands_0 rfl rfl ?_
  refine z_get (v := .int (nI typed)) 5 zgo_114 rfl inX10 (by decide) zw_1183 rfl rfl dX10_clearCommands_1 ?_
  refine z_istore_n (lv' := [(1, .int (nI typed)), (0, .ref 114)]) dX10_clearCommands_4 rfl (by decide) rfl ?_
  refine z_aload_n 1 dX10_clearCommands_5 rfl rfl ?_
  refine z_iconst (v := nI 0) dX10_clearCommands_6 (by decide) ?_
  refine z_puti 5 tyX10 zgo_114 rfl inX10 tyX10_ok nmX10 (by decide) zw_1183 rfl rfl (by decide +kernel) (Nat.le_of_ble_eq_true rfl) dX10_clearCommands_7 ?_
  refine z_eqh (h2 := (zHp S X (s, past, aside, pasts, txt, 0, thrown, line, need, left, slits, slB, slF, slT, at9, wd9, got, ans, worst) out)) zsf_114_5 ?_
  refine z_aload_n 1 dX10_clearCommands_10 rfl rfl ?_
  refine z_iload_n 0 dX10_clearCommands_11 rfl rfl ?_
  refine z_callV (N := mX10_tells) 1 [.int (nI typed)] [] lX10_tells ⟨zw_1267, zw_1269, zw_48⟩ rfl zgo_114 rfl rfl (Nat.le_of_ble_eq_true rfl) (by decide) ⟨zlt, zlt⟩ ⟨Nat.zero_le _, Nat.zero_le _⟩ zal (m_tells hG (nI typed)) dX10_clearCommands_12 ?_
  exact z_iret rfl dX10_clearCommands_15 (zo_i ho9 (by rfl)) (zo_h hh9 (by rfl)) (Nat.zero_le _) (Nat.zero_le _)

set_option maxHeartbeats 4000000 in
set_option maxRecDepth 100000 in
theorem m_undo {G : zT} {S : zS} {X : zXr} {out : Nat → Int64} {s : (Nat → Int32)} {past : (Nat → Int32)} {aside : (Nat → Int32)} {pasts : Nat} {txt : (Nat → Int32)} {typed : Nat} {thrown : Int32} {line : (Nat → Int32)} {need : (Nat → Int32)} {left : (Nat → Int32)} {slits : Nat} {slB : (Nat → Int32)} {slF : (Nat → Int32)} {slT : (Nat → Int32)} {at9 : Nat} {wd9 : Int32} {got : (Nat → Int32)} {ans : Int32} {worst : UInt32} (hG : zAl G = false) {c r w cnt lim : Nat} (hM : zMd s c r w cnt lim) (hp1 : 0 < pasts) (hp4 : pasts ≤ 4) : zRun G mX10_undo 0 0 [.ref 114] (zHp S X (s, past, aside, pasts, txt, typed, thrown, line, need, left, slits, slB, slF, slT, at9, wd9, got, ans, worst) out) (.inr (some (.int (nI (pasts - 1))))) (zHp S X ((zFl (fun k => past (1371 * (pasts - 1) + k)) s 1371), past, aside, (pasts - 1), txt, typed, (nI 0), line, need, left, slits, slB, slF, slT, at9, wd9, got, ans, worst) out) := by
  have hp5 : 1371 * (pasts - 1) + 1371 ≤ 5484 := by omega
  refine zRun_of (by decide +kernel) rfl rfl (Nat.le_of_ble_eq_true rfl) ?_
  suffices hs : ∀ (o9 : zO) (h9 : zH), (Sum.inr (some (.int (nI (pasts - 1)))) : zO) = o9 → (zHp S X ((zFl (fun k => past (1371 * (pasts - 1) + k)) s 1371), past, aside, (pasts - 1), txt, typed, (nI 0), line, need, left, slits, slB, slF, slT, at9, wd9, got, ans, worst) out) = h9 → zPW G mX10_undo 0 0 o9 h9 0 0 0 [(0, .ref 114)] [] (zHp S X (s, past, aside, pasts, txt, typed, thrown, line, need, left, slits, slB, slF, slT, at9, wd9, got, ans, worst) out) from hs _ _ rfl rfl
  intro o9 h9 ho9 hh9
  refine z_aload_n 0 dX10_undo_0 rfl rfl ?_
  refine z_get (v := .int (nI pasts)) 3 zgo_114 rfl inX10 (by decide) zw_1181 rfl rfl dX10_undo_1 ?_
  refine z_if_ne (tgt := 13) dX10_undo_4 (by decide) (fun c_4 => ?_) (fun c_4 => ?_)
  · skip
    have f_4 := m_z_ne_t (by omega) c_4
    refine z_aload_n 0 dX10_undo_13 rfl rfl ?_
    refine z_dup dX10_undo_14 rfl ?_
    refine z_get (v := .int (nI pasts)) 3 zgo_114 rfl inX10 (by decide) zw_1181 rfl rfl dX10_undo_15 ?_
    refine z_iconst (v := nI 1) dX10_undo_18 (by decide) ?_
    refine z_isubN (a := pasts) (b := 1) (by omega) dX10_undo_19 ?_
    refine z_puti 3 tyX10 zgo_114 rfl inX10 tyX10_ok nmX10 (by decide) zw_1181 rfl rfl (by decide +kernel) (Nat.le_of_ble_eq_true rfl) dX10_undo_20 ?_
    refine z_eqh (h2 := (zHp S X (s, past, aside, (pasts - 1), txt, typed, thrown, line, need, left, slits, slB, slF, slT, at9, wd9, got, ans, worst) out)) zsf_114_3 ?_
    refine z_iconst (v := nI 0) dX10_undo_23 (by decide) ?_
    refine z_istore_n (lv' := [(1, .int (nI 0)), (0, .ref 114)]) dX10_undo_24 rfl (by decide) rfl ?_
    have L25_1 : ∀ (d k : Nat), k ≤ 1371 → 1371 + 1 ≤ k + d → zPW G mX10_undo 0 0 o9 h9 0 0 25 [(1, .int (nI k)), (0, .ref 114)] [] (zHp S X ((zFl (fun k => past (1371 * (pasts - 1) + k)) s k), past, aside, (pasts - 1), txt, typed, thrown, line, need, left, slits, slB, slF, slT, at9, wd9, got, ans, worst) out) := by
      intro d
      induction d with
      | zero => intro k hk hd; exact absurd hd (by omega)
      | succ d ih =>
        intro k hk_k hd_k
        have ih25 := ih
        clear ih
        refine z_iload_n 0 dX10_undo_25 rfl rfl ?_
        refine z_sipush (v := nI 1371) dX10_undo_26 (by decide) ?_
        refine z_icmp_ge (tgt := 59) dX10_undo_29 (by decide) (fun c_29 => ?_) (fun c_29 => ?_)
        · skip
          have f_29 := m_le (by omega) (by omega) c_29
          have e_k : k = 1371 := by omega
          rw [e_k]
          refine z_aload_n 1 dX10_undo_59 rfl rfl ?_
          refine z_aload_n 1 dX10_undo_60 rfl rfl ?_
          refine z_get (v := .int (nI (pasts - 1))) 3 zgo_114 rfl inX10 (by decide) zw_1181 rfl rfl dX10_undo_61 ?_
          refine z_callV (N := mX10_tells) 1 [.int (nI (pasts - 1))] [] lX10_tells ⟨zw_1267, zw_1269, zw_48⟩ rfl zgo_114 rfl rfl (Nat.le_of_ble_eq_true rfl) (by decide) ⟨zlt, zlt⟩ ⟨Nat.zero_le _, Nat.zero_le _⟩ zal (m_tells hG (nI (pasts - 1))) dX10_undo_64 ?_
          exact z_iret rfl dX10_undo_67 (zo_i ho9 (by rfl)) (zo_h hh9 (by rfl)) (Nat.zero_le _) (Nat.zero_le _)
        · skip
          have f_29 := m_nle (by omega) (by omega) c_29
          refine z_aload_n 1 dX10_undo_32 rfl rfl ?_
          refine z_get (v := .ref 115) 0 zgo_114 rfl inX10 (by decide) zw_1178 rfl rfl dX10_undo_33 ?_
          refine z_iload_n 0 dX10_undo_36 rfl rfl ?_
          refine z_aload_n 1 dX10_undo_37 rfl rfl ?_
          refine z_get (v := .ref 116) 1 zgo_114 rfl inX10 (by decide) zw_1179 rfl rfl dX10_undo_38 ?_
          refine z_sipush (v := nI 1371) dX10_undo_41 (by decide) ?_
          refine z_aload_n 1 dX10_undo_44 rfl rfl ?_
          refine z_get (v := .int (nI (pasts - 1))) 3 zgo_114 rfl inX10 (by decide) zw_1181 rfl rfl dX10_undo_45 ?_
          refine z_imulN (a := 1371) (b := pasts - 1) dX10_undo_48 ?_
          refine z_iload_n 0 dX10_undo_49 rfl rfl ?_
          refine z_iaddN (a := 1371 * (pasts - 1)) (b := k) dX10_undo_50 ?_
          refine z_ialdN (f := past) (n := 5484) (j := (1371 * (pasts - 1)) + k) zga_116 (by omega) (by decide) dX10_undo_51 ?_
          refine z_iastN (f := (zFl (fun k => past (1371 * (pasts - 1) + k)) s k)) (n := 1371) (j := k) zga_115 (by omega) (by decide) dX10_undo_52 ?_
          refine z_eqh (h2 := (zHp S X ((upd (zFl (fun k => past (1371 * (pasts - 1) + k)) s k) k (past ((1371 * (pasts - 1)) + k))), past, aside, (pasts - 1), txt, typed, thrown, line, need, left, slits, slB, slF, slT, at9, wd9, got, ans, worst) out)) zsa_115 ?_
          refine z_iinc (v := nI (k + 1)) (lv' := [(1, .int (nI (k + 1))), (0, .ref 114)]) 0 dX10_undo_53 rfl (nI_1 _) (by decide) rfl ?_
          refine z_goto (tgt := 25) dX10_undo_56 (by decide) ?_
          refine z_sub [0, 1] (lv' := [(1, .int (nI (k + 1))), (0, .ref 114)]) rfl ?_
          refine z_eqs (lv2 := [(1, .int (nI ((k + 1)))), (0, .ref 114)]) (h2 := (zHp S X ((zFl (fun k => past (1371 * (pasts - 1) + k)) s (k + 1)), past, aside, (pasts - 1), txt, typed, thrown, line, need, left, slits, slB, slF, slT, at9, wd9, got, ans, worst) out)) (by rfl) (by rw [zFl_S (g := fun k => past (1371 * (pasts - 1) + k)) rfl]) ?_
          exact ih25 (k + 1) (by omega) (by omega)
    refine z_sub [0, 1] (lv' := [(1, .int (nI 0)), (0, .ref 114)]) rfl ?_
    refine z_eqs (lv2 := [(1, .int (nI 0)), (0, .ref 114)]) (h2 := (zHp S X ((zFl (fun k => past (1371 * (pasts - 1) + k)) s 0), past, aside, (pasts - 1), txt, typed, thrown, line, need, left, slits, slB, slF, slT, at9, wd9, got, ans, worst) out)) (by rfl) (by rw [zFl_0]) ?_
    exact L25_1 (1371 + 1) 0 (by omega) (by omega)
  · exfalso; have := m_z_ne_f (by omega) c_4; omega

set_option maxHeartbeats 4000000 in
set_option maxRecDepth 100000 in
theorem m_undo_1 {G : zT} {S : zS} {X : zXr} {out : Nat → Int64} {s : (Nat → Int32)} {past : (Nat → Int32)} {aside : (Nat → Int32)} {txt : (Nat → Int32)} {typed : Nat} {thrown : Int32} {line : (Nat → Int32)} {need : (Nat → Int32)} {left : (Nat → Int32)} {slits : Nat} {slB : (Nat → Int32)} {slF : (Nat → Int32)} {slT : (Nat → Int32)} {at9 : Nat} {wd9 : Int32} {got : (Nat → Int32)} {ans : Int32} {worst : UInt32} (hG : zAl G = false) : zRun G mX10_undo 0 0 [.ref 114] (zHp S X (s, past, aside, 0, txt, typed, thrown, line, need, left, slits, slB, slF, slT, at9, wd9, got, ans, worst) out) (.inr (some (.int (nI 0)))) (zHp S X (s, past, aside, 0, txt, typed, (nI 1), line, need, left, slits, slB, slF, slT, at9, wd9, got, ans, worst) out) := by
  refine zRun_of (by decide +kernel) rfl rfl (Nat.le_of_ble_eq_true rfl) ?_
  suffices hs : ∀ (o9 : zO) (h9 : zH), (Sum.inr (some (.int (nI 0))) : zO) = o9 → (zHp S X (s, past, aside, 0, txt, typed, (nI 1), line, need, left, slits, slB, slF, slT, at9, wd9, got, ans, worst) out) = h9 → zPW G mX10_undo 0 0 o9 h9 0 0 0 [(0, .ref 114)] [] (zHp S X (s, past, aside, 0, txt, typed, thrown, line, need, left, slits, slB, slF, slT, at9, wd9, got, ans, worst) out) from hs _ _ rfl rfl
  intro o9 h9 ho9 hh9
  refine z_aload_n 0 dX10_undo_0 rfl rfl ?_
  refine z_get (v := .int (nI 0)) 3 zgo_114 rfl inX10 (by decide) zw_1181 rfl rfl dX10_undo_1 ?_
  refine z_if_ne (tgt := 13) dX10_undo_4 (by decide) (fun c_4 => ?_) (fun c_4 => ?_)
  · exfalso; revert c_4; decide
  · skip
    have f_4 := m_z_ne_f (by omega) c_4
    refine z_aload_n 0 dX10_undo_7 rfl rfl ?_
    refine z_iconst (v := nI 1) dX10_undo_8 (by decide) ?_
    refine z_callV (N := mX10_fails) 1 [.int (nI 1)] [] lX10_fails ⟨zw_1259, zw_1261, zw_46⟩ rfl zgo_114 rfl rfl (Nat.le_of_ble_eq_true rfl) (by decide) ⟨zlt, zlt⟩ ⟨Nat.zero_le _, Nat.zero_le _⟩ zal (m_fails hG (nI 1)) dX10_undo_9 ?_
    exact z_iret rfl dX10_undo_12 (zo_i ho9 (by rfl)) (zo_h hh9 (by rfl)) (Nat.zero_le _) (Nat.zero_le _)

