/-! the law's body, behind the making -/
def mL_law : zN := (RL, yL_law, cL_law, 18, some .boolean, 13, [])
theorem z_scrOf {G : zT} {M : zN} {p : Program} {s : State} {m : MethodId} {args : Array Value} {meth : Method} {c : Code} {A : Nat → Prop} (C : zCx G M p s m args meth c A) : zScr (zAd G) A s s.heap := C.2.2.2.2.2.2.2.2.1.2.2.2.2.2.2.2.2
theorem z_slen {G : zT} {M : zN} {mc ms : Nat} {o : zO} {h' : zH} {cells slots pc : Nat} {lv : List (Nat × Value)} {st : List Value} {h : zH} (hd : decode (mC M) pc = .ok (.arraylength, 1)) (k : zPW G M mc ms o h' cells slots (pc + 1) lv (.int (nI (zAd G 1999)) :: st) h) : zPW G M mc ms o h' cells slots pc lv (.ref 1009 :: st) h :=
  fun p e s m args below meth c A H locs ls C N hl => va_slen C.1 C.2.1 (z_scrOf C).1 (z_scrOf C).lt (z_scrOf C).2 N.2.2.1 hd (k p e s m args below meth c A H locs ls C N hl)
theorem z_sld {G : zT} {M : zN} {mc ms : Nat} {o : zO} {h' : zH} {cells slots pc : Nat} {lv : List (Nat × Value)} {st : List Value} {h : zH} {j : Nat} (hj : j < zAd G 1999) (hs : zAd G 1999 < 2 ^ 31) (hd : decode (mC M) pc = .ok (.iaload, 1)) (k : zPW G M mc ms o h' cells slots (pc + 1) lv (.int (nI (zAd G (2000 + j))) :: st) h) : zPW G M mc ms o h' cells slots pc lv (.int (nI j) :: .ref 1009 :: st) h := by
  intro p e s m args below meth c A H locs ls C N hl
  have k9 := k p e s m args below meth c A H locs ls C N hl
  have e9 : (nI j).toNatClampNeg = j := nI_clamp (Nat.lt_trans hj hs)
  refine va_sld C.1 C.2.1 (z_scrOf C).1 (z_scrOf C).lt (z_scrOf C).2 N.2.2.1 (nI_in hj hs) hd ?_
  rw [e9]
  exact k9
theorem z_widen {G : zT} {M : zN} {mc ms : Nat} {o : zO} {h' : zH} {cells slots c2 s2 pc : Nat} {lv : List (Nat × Value)} {st : List Value} {h : zH} (hG : zAl G = false) (h1 : cells ≤ c2) (h2 : slots ≤ s2) (k : zPW G M mc ms o h' c2 s2 pc lv st h) : zPW G M mc ms o h' cells slots pc lv st h :=
  fun p e s m args below meth c A H locs ls C N hl => W.widen h1 h2 (k p e s m args below meth c A H locs ls C ⟨N.1, N.2.1, N.2.2.1, fun z => by rw [hG] at z; cases z⟩ hl)
theorem zL_cmp {x y : Int64} (h : x = y) : lg_cmp x y = 0 := by
  subst h
  unfold lg_cmp
  rw [if_neg (by intro q; exact absurd (Int64.lt_iff_toInt_lt.mp q) (by omega)), if_pos rfl]
set_option maxHeartbeats 4000000 in
set_option maxRecDepth 100000 in
theorem c_cell {G : zT} {H : zH} (hG : zAl G = false) (hL : zAd G 1999 ≤ 260) {j : Nat} (hj : j < 2 ^ 20) : ∃ t, t < 2 ^ 31 ∧ zRun G mL_cell 0 0 [.ref 1009, .int (nI j)] H (.inr (some (.int (nI t)))) H := by
  have key : ∀ x : Int32, ∃ t, t < 2 ^ 31 ∧ x &&& 2147483647 = nI t := fun x => pk_andE x 31 (by decide)
  have hb : zAd G 1999 < 2 ^ 31 := by omega
  by_cases hlt : j < zAd G 1999
  · obtain ⟨t, ht, e⟩ := key (nI (zAd G (2000 + j)))
    refine ⟨t, ht, ?_⟩
    refine zRun_of (by decide +kernel) rfl rfl (Nat.le_of_ble_eq_true rfl) ?_
    suffices hs : ∀ (o9 : zO) (h9 : zH), (Sum.inr (some (.int (nI t))) : zO) = o9 → H = h9 → zPW G mL_cell 0 0 o9 h9 0 0 0 [(0, .ref 1009), (1, .int (nI j))] [] H from hs _ _ rfl rfl
    intro o9 h9 ho9 hh9
    refine z_iload_n 1 dL_cell_0 rfl rfl ?_
    refine z_aload_n 0 dL_cell_1 rfl rfl ?_
    refine z_slen dL_cell_2 ?_
    refine z_icmp_ge (tgt := 12) dL_cell_3 (by decide) (fun q => absurd q (nI_ge hlt hb)) (fun _ => ?_)
    refine z_aload_n 0 dL_cell_6 rfl rfl ?_
    refine z_iload_n 1 dL_cell_7 rfl rfl ?_
    refine z_sld hlt hb dL_cell_8 ?_
    refine z_goto (tgt := 18) dL_cell_9 (by decide) ?_
    refine z_ldc zw_479 dL_cell_18 ?_
    refine z_iand dL_cell_20 ?_
    exact z_iret rfl dL_cell_21 (zo_i ho9 e.symm) (zo_h hh9 rfl) (Nat.zero_le _) (Nat.zero_le _)
  · obtain ⟨t, ht, e⟩ := key (40503 * (nI j + 3))
    refine ⟨t, ht, ?_⟩
    refine zRun_of (by decide +kernel) rfl rfl (Nat.le_of_ble_eq_true rfl) ?_
    suffices hs : ∀ (o9 : zO) (h9 : zH), (Sum.inr (some (.int (nI t))) : zO) = o9 → H = h9 → zPW G mL_cell 0 0 o9 h9 0 0 0 [(0, .ref 1009), (1, .int (nI j))] [] H from hs _ _ rfl rfl
    intro o9 h9 ho9 hh9
    refine z_iload_n 1 dL_cell_0 rfl rfl ?_
    refine z_aload_n 0 dL_cell_1 rfl rfl ?_
    refine z_slen dL_cell_2 ?_
    refine z_icmp_ge (tgt := 12) dL_cell_3 (by decide) (fun _ => ?_) (fun q => absurd (nI_le (by omega) (by omega)) q)
    refine z_ldc zw_478 dL_cell_12 ?_
    refine z_iload_n 1 dL_cell_14 rfl rfl ?_
    refine z_iconst (v := 3) dL_cell_15 (by decide) ?_
    refine z_iadd dL_cell_16 ?_
    refine z_imul dL_cell_17 ?_
    refine z_ldc zw_479 dL_cell_18 ?_
    refine z_iand dL_cell_20 ?_
    exact z_iret rfl dL_cell_21 (zo_i ho9 e.symm) (zo_h hh9 rfl) (Nat.zero_le _) (Nat.zero_le _)
theorem s_digest {G : zT} {c r w lim : Nat} {tol : Int32} {cart wov lot sew mis : Nat → Int32} {cnt : Nat} {col len lef sbt : Nat → Int32} {shd : Nat → UInt32} {X : zXr} {Y : zYr} {out : Nat → Int64} (hG : zAl G = false) (h : pGd (c, r, w, lim, tol, cart, wov, lot, sew, mis, cnt, col, len, lef, sbt, shd) X) : ∃ D, zRun G mX9_digest 0 0 [.ref 0] (zHp (c, r, w, lim, tol, cart, wov, lot, sew, mis, cnt, col, len, lef, sbt, shd) X Y out) (.inr (some (.long D))) (zHp (c, r, w, lim, tol, cart, wov, lot, sew, mis, cnt, col, len, lef, sbt, shd) X Y out) := by
  obtain ⟨hi, h4, hc4⟩ := h.iv
  obtain ⟨⟨d1, d2, d3, d4, d5, d6, d7, d8, d9⟩, -, -, -, -, -, hF⟩ := hi
  exact ⟨_, c_f_digest hG d2 d4 d5 d8 d7 hF d1 h4 hc4⟩
theorem zIt_snd {α : Type} {g : Nat → α × Nat → α × Nat} {m : Nat} (h : ∀ k q, (g k q).2 ≤ q.2 + m) : ∀ (n : Nat) (q : α × Nat), (zIt g n q).2 ≤ q.2 + m * n
  | 0, _ => Nat.le_refl _
  | n + 1, q => by
    have a := zIt_snd h n q
    have b := h n (zIt g n q)
    show (g n (zIt g n q)).2 ≤ _
    rw [Nat.mul_succ]
    omega
theorem pPt_le {c x y u z : Nat} {v : Int32} {f : Nat → Int32} (hu : u < 20) (hz : z < 16) : (zPt c x y u z v f).2 < 2 ^ 31 := by
  unfold zPt
  have h := zIt_snd (g := fun j q => zIt (fun i (q : (Nat → Int32) × Nat) => (zPutG q.1 (nI c - 1 - nI (x + i)) (nI (y + j)) v, q.2 + (if zAt q.1 (nI c - 1 - nI (x + i)) (nI (y + j)) = v then 0 else 1))) (u + 1 - x) q) (m := 1 * (u + 1 - x)) (fun j q => zIt_snd (fun i q => by dsimp only; split <;> omega) _ q) (z + 1 - y) (f, 0)
  have e : 1 * (u + 1 - x) * (z + 1 - y) ≤ 20 * 16 := Nat.mul_le_mul (by omega) (by omega)
  dsimp only at h
  omega
set_option maxHeartbeats 4000000 in
set_option maxRecDepth 100000 in
theorem law_c0 {G : zT} {mc ms cells slots : Nat} {c r w lim : Nat} {tol : Int32} {cart wov lot sew mis : Nat → Int32} {cnt : Nat} {col len lef sbt : Nat → Int32} {shd : Nat → UInt32} {X : zXr} {Y : zYr} {out : Nat → Int64} {t z k : Nat} (hG : zAl G = false) (hL : zAd G 1999 ≤ 260) (h : pGd (c, r, w, lim, tol, cart, wov, lot, sew, mis, cnt, col, len, lef, sbt, shd) X)  (hz : z < 2 ^ 28) (hc : cells + 1 ≤ mc) (hs : slots + 6 ≤ ms) (K : ∀ S2 X2, pGd S2 X2 → ∃ h', zPW G mL_law mc ms (.inr (some (.int 1))) h' (cells + 1) (slots + 6) 587 [(0, .ref 1009), (1, .ref 0), (2, .int (nI 1)), (3, .int (nI k))] [] (zHp S2 X2 Y out)) : ∃ h', zPW G mL_law mc ms (.inr (some (.int 1))) h' cells slots 204 [(8, .int (nI w)), (7, .int (nI r)), (6, .int (nI c)), (5, .int (nI z)), (4, .int (nI t)), (0, .ref 1009), (1, .ref 0), (2, .int (nI 1)), (3, .int (nI k))] [] (zHp (c, r, w, lim, tol, cart, wov, lot, sew, mis, cnt, col, len, lef, sbt, shd) X Y out) := by
  obtain ⟨hi9, h49, hc49⟩ := h.iv
  obtain ⟨⟨d1, d2, d3, d4, d5, d6, d7, d8, d9⟩, -⟩ := hi9
  have m1 : z % c < c := Nat.mod_lt _ (by omega)
  have m2 : z / 32 % r < r := Nat.mod_lt _ (by omega)
  have m3 : z / 512 % (c - z % c) < c - z % c := Nat.mod_lt _ (by omega)
  have m4 : z / 4096 % (r - z / 32 % r) < r - z / 32 % r := Nat.mod_lt _ (by omega)
  obtain ⟨r1, g, r2⟩ := s_fills (Y := Y) (out := out) hG h (x := (z % c)) (y := (z / 32 % r)) (u := (z % c + z / 512 % (c - z % c))) (z := (z / 32 % r + z / 4096 % (r - z / 32 % r))) (v := (z / 65536 % 5)) (by omega) (by omega) (by omega) (by omega) (by omega)
  have n31 : (zPt c (z % c) (z / 32 % r) (z % c + z / 512 % (c - z % c)) (z / 32 % r + z / 4096 % (r - z / 32 % r)) (nI (z / 65536 % 5)) cart).2 < 2 ^ 31 := pPt_le (by omega) (by omega)
  obtain ⟨h', K9⟩ := K _ _ g
  refine ⟨h', ?_⟩
  refine z_iload 3 dL_law_204 rfl ?_
  refine z_iload 2 dL_law_206 rfl ?_
  refine z_irem dL_law_208 (by exact nI_ne0 (by omega) (by omega)) ?_
  refine z_top (v2 := .int (nI (z % c))) (congrArg Value.int (pk_rem (by omega) (by omega) (by omega))) ?_
  refine z_istore (lv' := [(9, .int (nI (z % c))), (8, .int (nI w)), (7, .int (nI r)), (6, .int (nI c)), (5, .int (nI z)), (4, .int (nI t)), (0, .ref 1009), (1, .ref 0), (2, .int (nI 1)), (3, .int (nI k))]) dL_law_209 (by decide) rfl ?_
  refine z_iload 4 dL_law_211 rfl ?_
  refine z_bipush (v := nI 32) dL_law_213 (by decide) ?_
  refine z_idiv dL_law_215 (by exact nI_ne0 (by omega) (by omega)) ?_
  refine z_top (v2 := .int (nI (z / 32))) (congrArg Value.int (pk_div (by omega) (by omega) (by omega))) ?_
  refine z_iload 2 dL_law_216 rfl ?_
  refine z_irem dL_law_218 (by exact nI_ne0 (by omega) (by omega)) ?_
  refine z_top (v2 := .int (nI ((z / 32) % r))) (congrArg Value.int (pk_rem (by omega) (by omega) (by omega))) ?_
  refine z_istore (lv' := [(10, .int (nI ((z / 32) % r))), (9, .int (nI (z % c))), (8, .int (nI w)), (7, .int (nI r)), (6, .int (nI c)), (5, .int (nI z)), (4, .int (nI t)), (0, .ref 1009), (1, .ref 0), (2, .int (nI 1)), (3, .int (nI k))]) dL_law_219 (by decide) rfl ?_
  refine z_aload_n 8 dL_law_221 rfl rfl ?_
  refine z_iload 1 dL_law_222 rfl ?_
  refine z_iload 0 dL_law_224 rfl ?_
  refine z_iload 1 dL_law_226 rfl ?_
  refine z_iload 5 dL_law_228 rfl ?_
  refine z_sipush (v := nI 512) dL_law_230 (by decide) ?_
  refine z_idiv dL_law_233 (by exact nI_ne0 (by omega) (by omega)) ?_
  refine z_top (v2 := .int (nI (z / 512))) (congrArg Value.int (pk_div (by omega) (by omega) (by omega))) ?_
  refine z_iload 4 dL_law_234 rfl ?_
  refine z_iload 1 dL_law_236 rfl ?_
  refine z_isub dL_law_238 ?_
  refine z_top (v2 := .int (nI (c - (z % c)))) (congrArg Value.int (pk_sub (by omega))) ?_
  refine z_irem dL_law_239 (by exact nI_ne0 (by omega) (by omega)) ?_
  refine z_top (v2 := .int (nI ((z / 512) % (c - (z % c))))) (congrArg Value.int (pk_rem (by omega) (by omega) (by omega))) ?_
  refine z_iadd dL_law_240 ?_
  refine z_top (v2 := .int (nI ((z % c) + ((z / 512) % (c - (z % c)))))) (congrArg Value.int (nI_add _ _)) ?_
  refine z_iload 0 dL_law_241 rfl ?_
  refine z_iload 5 dL_law_243 rfl ?_
  refine z_sipush (v := nI 4096) dL_law_245 (by decide) ?_
  refine z_idiv dL_law_248 (by exact nI_ne0 (by omega) (by omega)) ?_
  refine z_top (v2 := .int (nI (z / 4096))) (congrArg Value.int (pk_div (by omega) (by omega) (by omega))) ?_
  refine z_iload 3 dL_law_249 rfl ?_
  refine z_iload 0 dL_law_251 rfl ?_
  refine z_isub dL_law_253 ?_
  refine z_top (v2 := .int (nI (r - ((z / 32) % r)))) (congrArg Value.int (pk_sub (by omega))) ?_
  refine z_irem dL_law_254 (by exact nI_ne0 (by omega) (by omega)) ?_
  refine z_top (v2 := .int (nI ((z / 4096) % (r - ((z / 32) % r))))) (congrArg Value.int (pk_rem (by omega) (by omega) (by omega))) ?_
  refine z_iadd dL_law_255 ?_
  refine z_top (v2 := .int (nI (((z / 32) % r) + ((z / 4096) % (r - ((z / 32) % r)))))) (congrArg Value.int (nI_add _ _)) ?_
  refine z_iload 5 dL_law_256 rfl ?_
  refine z_ldc zw_924 dL_law_258 ?_
  refine z_top (v2 := .int (nI 65536)) (by first | rfl | decide) ?_
  refine z_idiv dL_law_260 (by exact nI_ne0 (by omega) (by omega)) ?_
  refine z_top (v2 := .int (nI (z / 65536))) (congrArg Value.int (pk_div (by omega) (by omega) (by omega))) ?_
  refine z_iconst (v := nI 5) dL_law_261 (by decide) ?_
  refine z_irem dL_law_262 (by exact nI_ne0 (by omega) (by omega)) ?_
  refine z_top (v2 := .int (nI ((z / 65536) % 5))) (congrArg Value.int (pk_rem (by omega) (by omega) (by omega))) ?_
  refine z_callSH (N := mL_fills) 6 [.ref 0, .int (nI (z % c)), .int (nI ((z / 32) % r)), .int (nI ((z % c) + ((z / 512) % (c - (z % c))))), .int (nI (((z / 32) % r) + ((z / 4096) % (r - ((z / 32) % r))))), .int (nI ((z / 65536) % 5))] [] lHL_fills ⟨zw_641, zw_642⟩ rfl rfl (Nat.le_of_ble_eq_true rfl) (by decide) ⟨zlt, zlt⟩ hG ⟨by omega, by omega⟩ r1 dL_law_263 ?_
  refine z_istore (lv' := [(11, .int (nI (zPt c (z % c) (z / 32 % r) (z % c + z / 512 % (c - z % c)) (z / 32 % r + z / 4096 % (r - z / 32 % r)) (nI (z / 65536 % 5)) cart).2)), (10, .int (nI ((z / 32) % r))), (9, .int (nI (z % c))), (8, .int (nI w)), (7, .int (nI r)), (6, .int (nI c)), (5, .int (nI z)), (4, .int (nI t)), (0, .ref 1009), (1, .ref 0), (2, .int (nI 1)), (3, .int (nI k))]) dL_law_266 (by decide) rfl ?_
  refine z_iload 0 dL_law_268 rfl ?_
  refine z_if_lt (tgt := 296) dL_law_270 (by decide) (fun c_270 => ?_) (fun c_270 => ?_)
  · exact absurd c_270 (nI_pos n31)
  · skip
    refine z_aload_n 9 dL_law_273 rfl rfl ?_
    refine z_iload 2 dL_law_274 rfl ?_
    refine z_iload 1 dL_law_276 rfl ?_
    refine z_iconst (v := nI 0) dL_law_278 (by decide) ?_
    refine z_callSH (N := mL_cells) 4 [.ref 0, .int (nI (z % c)), .int (nI ((z / 32) % r)), .int (nI 0)] [] lHL_cells ⟨zw_802, zw_803⟩ rfl rfl (Nat.le_of_ble_eq_true rfl) (by decide) ⟨zlt, zlt⟩ hG ⟨by omega, by omega⟩ r2 dL_law_279 ?_
    refine z_iload 6 dL_law_282 rfl ?_
    refine z_ldc zw_924 dL_law_284 ?_
    refine z_top (v2 := .int (nI 65536)) (by first | rfl | decide) ?_
    refine z_idiv dL_law_286 (by exact nI_ne0 (by omega) (by omega)) ?_
    refine z_top (v2 := .int (nI (z / 65536))) (congrArg Value.int (pk_div (by omega) (by omega) (by omega))) ?_
    refine z_iconst (v := nI 5) dL_law_287 (by decide) ?_
    refine z_irem dL_law_288 (by exact nI_ne0 (by omega) (by omega)) ?_
    refine z_top (v2 := .int (nI ((z / 65536) % 5))) (congrArg Value.int (pk_rem (by omega) (by omega) (by omega))) ?_
    refine z_icmp_ne (tgt := 296) dL_law_289 (by decide) (fun c_289 => ?_) (fun c_289 => ?_)
    · exact absurd c_289 (fun q => q rfl)
    · skip
      refine z_iconst (v := nI 1) dL_law_292 (by decide) ?_
      refine z_goto (tgt := 297) dL_law_293 (by decide) ?_
      refine z_istore_n (lv' := [(2, .int (nI 1)), (11, .int (nI (zPt c (z % c) (z / 32 % r) (z % c + z / 512 % (c - z % c)) (z / 32 % r + z / 4096 % (r - z / 32 % r)) (nI (z / 65536 % 5)) cart).2)), (10, .int (nI ((z / 32) % r))), (9, .int (nI (z % c))), (8, .int (nI w)), (7, .int (nI r)), (6, .int (nI c)), (5, .int (nI z)), (4, .int (nI t)), (0, .ref 1009), (1, .ref 0), (3, .int (nI k))]) dL_law_297 rfl (by decide) rfl ?_
      refine z_goto (tgt := 587) dL_law_298 (by decide) ?_
      refine z_sub [9, 10, 0, 11] (lv' := [(0, .ref 1009), (1, .ref 0), (2, .int (nI 1)), (3, .int (nI k))]) rfl ?_
      exact z_widen hG (by omega) (by omega) K9
set_option maxHeartbeats 4000000 in
set_option maxRecDepth 100000 in
theorem law_c2 {G : zT} {mc ms cells slots : Nat} {c r w lim : Nat} {tol : Int32} {cart wov lot sew mis : Nat → Int32} {cnt : Nat} {col len lef sbt : Nat → Int32} {shd : Nat → UInt32} {X : zXr} {Y : zYr} {out : Nat → Int64} {t z k : Nat} (hG : zAl G = false) (hL : zAd G 1999 ≤ 260) (h : pGd (c, r, w, lim, tol, cart, wov, lot, sew, mis, cnt, col, len, lef, sbt, shd) X)  (hz : z < 2 ^ 28) (hc : cells + 1 ≤ mc) (hs : slots + 6 ≤ ms) (K : ∀ S2 X2, pGd S2 X2 → ∃ h', zPW G mL_law mc ms (.inr (some (.int 1))) h' (cells + 1) (slots + 6) 587 [(0, .ref 1009), (1, .ref 0), (2, .int (nI 1)), (3, .int (nI k))] [] (zHp S2 X2 Y out)) : ∃ h', zPW G mL_law mc ms (.inr (some (.int 1))) h' cells slots 301 [(8, .int (nI w)), (7, .int (nI r)), (6, .int (nI c)), (5, .int (nI z)), (4, .int (nI t)), (0, .ref 1009), (1, .ref 0), (2, .int (nI 1)), (3, .int (nI k))] [] (zHp (c, r, w, lim, tol, cart, wov, lot, sew, mis, cnt, col, len, lef, sbt, shd) X Y out) := by
  obtain ⟨hi9, h49, hc49⟩ := h.iv
  obtain ⟨⟨d1, d2, d3, d4, d5, d6, d7, d8, d9⟩, -⟩ := hi9
  have m1 : z % c < c := Nat.mod_lt _ (by omega)
  have m2 : z / 32 % r < r := Nat.mod_lt _ (by omega)
  obtain ⟨n, n1, n20, r1, g, r2⟩ := s_plants (Y := Y) (out := out) hG h (b := z % c) (v := z / 32 % 6) m1 (by omega)
  obtain ⟨h', K9⟩ := K _ _ g
  refine ⟨h', ?_⟩
  refine z_aload_n 6 dL_law_301 rfl rfl ?_
  refine z_iload 3 dL_law_302 rfl ?_
  refine z_iload 2 dL_law_304 rfl ?_
  refine z_irem dL_law_306 (by exact nI_ne0 (by omega) (by omega)) ?_
  refine z_top (v2 := .int (nI (z % c))) (congrArg Value.int (pk_rem (by omega) (by omega) (by omega))) ?_
  refine z_iload 3 dL_law_307 rfl ?_
  refine z_bipush (v := nI 32) dL_law_309 (by decide) ?_
  refine z_idiv dL_law_311 (by exact nI_ne0 (by omega) (by omega)) ?_
  refine z_top (v2 := .int (nI (z / 32))) (congrArg Value.int (pk_div (by omega) (by omega) (by omega))) ?_
  refine z_bipush (v := nI 6) dL_law_312 (by decide) ?_
  refine z_irem dL_law_314 (by exact nI_ne0 (by omega) (by omega)) ?_
  refine z_top (v2 := .int (nI ((z / 32) % 6))) (congrArg Value.int (pk_rem (by omega) (by omega) (by omega))) ?_
  refine z_callSH (N := mL_plants) 3 [.ref 0, .int (nI (z % c)), .int (nI ((z / 32) % 6))] [] lHL_plants ⟨zw_716, zw_717⟩ rfl rfl (Nat.le_of_ble_eq_true rfl) (by decide) ⟨zlt, zlt⟩ hG ⟨by omega, by omega⟩ r1 dL_law_315 ?_
  refine z_iconst (v := nI 1) dL_law_318 (by decide) ?_
  refine z_icmp_lt (tgt := 335) dL_law_319 (by decide) (fun c_319 => ?_) (fun c_319 => ?_)
  · exact absurd c_319 (nI_nlt n1 (by omega))
  · skip
    refine z_aload_n 6 dL_law_322 rfl rfl ?_
    refine z_iconst (v := nI 4) dL_law_323 (by decide) ?_
    refine z_callSH (N := mL_whole) 2 [.ref 0, .int (nI 4)] [] lHL_whole ⟨zw_810, zw_811⟩ rfl rfl (Nat.le_of_ble_eq_true rfl) (by decide) ⟨zlt, zlt⟩ hG ⟨by omega, by omega⟩ r2 dL_law_324 ?_
    refine z_iconst (v := nI 1) dL_law_327 (by decide) ?_
    refine z_icmp_lt (tgt := 335) dL_law_328 (by decide) (fun c_328 => ?_) (fun c_328 => ?_)
    · exact absurd c_328 (nI_nlt n1 (by omega))
    · skip
      refine z_iconst (v := nI 1) dL_law_331 (by decide) ?_
      refine z_goto (tgt := 336) dL_law_332 (by decide) ?_
      refine z_istore_n (lv' := [(2, .int (nI 1)), (8, .int (nI w)), (7, .int (nI r)), (6, .int (nI c)), (5, .int (nI z)), (4, .int (nI t)), (0, .ref 1009), (1, .ref 0), (3, .int (nI k))]) dL_law_336 rfl (by decide) rfl ?_
      refine z_goto (tgt := 587) dL_law_337 (by decide) ?_
      refine z_sub [6, 7, 0, 8] (lv' := [(0, .ref 1009), (1, .ref 0), (2, .int (nI 1)), (3, .int (nI k))]) rfl ?_
      exact z_widen hG (by omega) (by omega) K9
set_option maxHeartbeats 4000000 in
set_option maxRecDepth 100000 in
theorem law_c3 {G : zT} {mc ms cells slots : Nat} {c r w lim : Nat} {tol : Int32} {cart wov lot sew mis : Nat → Int32} {cnt : Nat} {col len lef sbt : Nat → Int32} {shd : Nat → UInt32} {X : zXr} {Y : zYr} {out : Nat → Int64} {t z k : Nat} (hG : zAl G = false) (hL : zAd G 1999 ≤ 260) (h : pGd (c, r, w, lim, tol, cart, wov, lot, sew, mis, cnt, col, len, lef, sbt, shd) X) (hn : 1 + z % 4 ≤ w) (hz : z < 2 ^ 28) (hc : cells + 1 ≤ mc) (hs : slots + 6 ≤ ms) (K : ∀ S2 X2, pGd S2 X2 → ∃ h', zPW G mL_law mc ms (.inr (some (.int 1))) h' (cells + 1) (slots + 6) 587 [(0, .ref 1009), (1, .ref 0), (2, .int (nI 1)), (3, .int (nI k))] [] (zHp S2 X2 Y out)) : ∃ h', zPW G mL_law mc ms (.inr (some (.int 1))) h' cells slots 340 [(8, .int (nI w)), (7, .int (nI r)), (6, .int (nI c)), (5, .int (nI z)), (4, .int (nI t)), (0, .ref 1009), (1, .ref 0), (2, .int (nI 1)), (3, .int (nI k))] [] (zHp (c, r, w, lim, tol, cart, wov, lot, sew, mis, cnt, col, len, lef, sbt, shd) X Y out) := by
  obtain ⟨hi9, h49, hc49⟩ := h.iv
  obtain ⟨⟨d1, d2, d3, d4, d5, d6, d7, d8, d9⟩, -⟩ := hi9
  obtain ⟨r1, g, r2⟩ := s_unweaves (Y := Y) (out := out) hG h (n := (1 + z % 4)) (by omega) hn
  obtain ⟨h', K9⟩ := K _ _ g
  refine ⟨h', ?_⟩
  refine z_iconst (v := nI 1) dL_law_340 (by decide) ?_
  refine z_iload 3 dL_law_341 rfl ?_
  refine z_iconst (v := nI 4) dL_law_343 (by decide) ?_
  refine z_irem dL_law_344 (by exact nI_ne0 (by omega) (by omega)) ?_
  refine z_top (v2 := .int (nI (z % 4))) (congrArg Value.int (pk_rem (by omega) (by omega) (by omega))) ?_
  refine z_iadd dL_law_345 ?_
  refine z_top (v2 := .int (nI (1 + (z % 4)))) (congrArg Value.int (nI_add _ _)) ?_
  refine z_istore (lv' := [(12, .int (nI (1 + (z % 4)))), (8, .int (nI w)), (7, .int (nI r)), (6, .int (nI c)), (5, .int (nI z)), (4, .int (nI t)), (0, .ref 1009), (1, .ref 0), (2, .int (nI 1)), (3, .int (nI k))]) dL_law_346 (by decide) rfl ?_
  refine z_aload_n 7 dL_law_348 rfl rfl ?_
  refine z_iload 0 dL_law_349 rfl ?_
  refine z_callSH (N := mL_unweaves) 2 [.ref 0, .int (nI (1 + (z % 4)))] [] lHL_unweaves ⟨zw_764, zw_765⟩ rfl rfl (Nat.le_of_ble_eq_true rfl) (by decide) ⟨zlt, zlt⟩ hG ⟨by omega, by omega⟩ r1 dL_law_351 ?_
  refine z_istore (lv' := [(13, .int (nI ((1 + z % 4) * c))), (12, .int (nI (1 + (z % 4)))), (8, .int (nI w)), (7, .int (nI r)), (6, .int (nI c)), (5, .int (nI z)), (4, .int (nI t)), (0, .ref 1009), (1, .ref 0), (2, .int (nI 1)), (3, .int (nI k))]) dL_law_354 (by decide) rfl ?_
  refine z_iload 1 dL_law_356 rfl ?_
  refine z_iload 2 dL_law_358 rfl ?_
  refine z_icmp_le (tgt := 378) dL_law_360 (by decide) (fun c_360 => ?_) (fun c_360 => ?_)
  · skip
    refine z_iload 0 dL_law_378 rfl ?_
    refine z_iload 1 dL_law_380 rfl ?_
    refine z_iload 4 dL_law_382 rfl ?_
    refine z_imul dL_law_384 ?_
    refine z_top (v2 := .int (nI ((1 + (z % 4)) * c))) (congrArg Value.int (pk_mul _ _)) ?_
    refine z_icmp_ne (tgt := 405) dL_law_385 (by decide) (fun c_385 => ?_) (fun c_385 => ?_)
    · exact absurd c_385 (fun q => q rfl)
    · skip
      refine z_aload_n 8 dL_law_388 rfl rfl ?_
      refine z_iconst (v := nI 2) dL_law_389 (by decide) ?_
      refine z_callSH (N := mL_whole) 2 [.ref 0, .int (nI 2)] [] lHL_whole ⟨zw_810, zw_811⟩ rfl rfl (Nat.le_of_ble_eq_true rfl) (by decide) ⟨zlt, zlt⟩ hG ⟨by omega, by omega⟩ r2 dL_law_390 ?_
      refine z_iload 2 dL_law_393 rfl ?_
      refine z_iload 1 dL_law_395 rfl ?_
      refine z_isub dL_law_397 ?_
      refine z_top (v2 := .int (nI (w - (1 + (z % 4))))) (congrArg Value.int (pk_sub (by omega))) ?_
      refine z_icmp_ne (tgt := 405) dL_law_398 (by decide) (fun c_398 => ?_) (fun c_398 => ?_)
      · exact absurd c_398 (fun q => q rfl)
      · skip
        refine z_iconst (v := nI 1) dL_law_401 (by decide) ?_
        refine z_goto (tgt := 406) dL_law_402 (by decide) ?_
        refine z_istore_n (lv' := [(2, .int (nI 1)), (13, .int (nI ((1 + z % 4) * c))), (12, .int (nI (1 + (z % 4)))), (8, .int (nI w)), (7, .int (nI r)), (6, .int (nI c)), (5, .int (nI z)), (4, .int (nI t)), (0, .ref 1009), (1, .ref 0), (3, .int (nI k))]) dL_law_406 rfl (by decide) rfl ?_
        refine z_goto (tgt := 587) dL_law_407 (by decide) ?_
        refine z_sub [8, 9, 0, 10] (lv' := [(0, .ref 1009), (1, .ref 0), (2, .int (nI 1)), (3, .int (nI k))]) rfl ?_
        exact z_widen hG (by omega) (by omega) K9
  · exact absurd c_360 (fun q => q (nI_le hn (by omega)))
set_option maxHeartbeats 4000000 in
set_option maxRecDepth 100000 in
theorem law_c3b {G : zT} {mc ms cells slots : Nat} {c r w lim : Nat} {tol : Int32} {cart wov lot sew mis : Nat → Int32} {cnt : Nat} {col len lef sbt : Nat → Int32} {shd : Nat → UInt32} {X : zXr} {Y : zYr} {out : Nat → Int64} {t z k : Nat} (hG : zAl G = false) (hL : zAd G 1999 ≤ 260) (h : pGd (c, r, w, lim, tol, cart, wov, lot, sew, mis, cnt, col, len, lef, sbt, shd) X) (hn : w < 1 + z % 4) (hz : z < 2 ^ 28) (hc : cells + 1 ≤ mc) (hs : slots + 6 ≤ ms) (K : ∀ S2 X2, pGd S2 X2 → ∃ h', zPW G mL_law mc ms (.inr (some (.int 1))) h' (cells + 1) (slots + 6) 587 [(0, .ref 1009), (1, .ref 0), (2, .int (nI 1)), (3, .int (nI k))] [] (zHp S2 X2 Y out)) : ∃ h', zPW G mL_law mc ms (.inr (some (.int 1))) h' cells slots 340 [(8, .int (nI w)), (7, .int (nI r)), (6, .int (nI c)), (5, .int (nI z)), (4, .int (nI t)), (0, .ref 1009), (1, .ref 0), (2, .int (nI 1)), (3, .int (nI k))] [] (zHp (c, r, w, lim, tol, cart, wov, lot, sew, mis, cnt, col, len, lef, sbt, shd) X Y out) := by
  obtain ⟨hi9, h49, hc49⟩ := h.iv
  obtain ⟨⟨d1, d2, d3, d4, d5, d6, d7, d8, d9⟩, -⟩ := hi9
  have r1 := s_unweaves_2 (Y := Y) (out := out) hG h (n := (1 + z % 4)) (by omega) (by omega) hn
  obtain ⟨h', K9⟩ := K _ _ h
  refine ⟨h', ?_⟩
  refine z_iconst (v := nI 1) dL_law_340 (by decide) ?_
  refine z_iload 3 dL_law_341 rfl ?_
  refine z_iconst (v := nI 4) dL_law_343 (by decide) ?_
  refine z_irem dL_law_344 (by exact nI_ne0 (by omega) (by omega)) ?_
  refine z_top (v2 := .int (nI (z % 4))) (congrArg Value.int (pk_rem (by omega) (by omega) (by omega))) ?_
  refine z_iadd dL_law_345 ?_
  refine z_top (v2 := .int (nI (1 + (z % 4)))) (congrArg Value.int (nI_add _ _)) ?_
  refine z_istore (lv' := [(12, .int (nI (1 + (z % 4)))), (8, .int (nI w)), (7, .int (nI r)), (6, .int (nI c)), (5, .int (nI z)), (4, .int (nI t)), (0, .ref 1009), (1, .ref 0), (2, .int (nI 1)), (3, .int (nI k))]) dL_law_346 (by decide) rfl ?_
  refine z_aload_n 7 dL_law_348 rfl rfl ?_
  refine z_iload 0 dL_law_349 rfl ?_
  refine z_callSH (N := mL_unweaves) 2 [.ref 0, .int (nI (1 + (z % 4)))] [] lHL_unweaves ⟨zw_764, zw_765⟩ rfl rfl (Nat.le_of_ble_eq_true rfl) (by decide) ⟨zlt, zlt⟩ hG ⟨by omega, by omega⟩ r1 dL_law_351 ?_
  refine z_istore (lv' := [(13, .int ((-2000002))), (12, .int (nI (1 + (z % 4)))), (8, .int (nI w)), (7, .int (nI r)), (6, .int (nI c)), (5, .int (nI z)), (4, .int (nI t)), (0, .ref 1009), (1, .ref 0), (2, .int (nI 1)), (3, .int (nI k))]) dL_law_354 (by decide) rfl ?_
  refine z_iload 1 dL_law_356 rfl ?_
  refine z_iload 2 dL_law_358 rfl ?_
  refine z_icmp_le (tgt := 378) dL_law_360 (by decide) (fun c_360 => ?_) (fun c_360 => ?_)
  · exact absurd c_360 (nI_ge hn (by omega))
  · skip
    refine z_iload 0 dL_law_363 rfl ?_
    refine z_ldc zw_669 dL_law_365 ?_
    refine z_icmp_ne (tgt := 374) dL_law_367 (by decide) (fun c_367 => ?_) (fun c_367 => ?_)
    · exact absurd c_367 (fun q => q rfl)
    · skip
      refine z_iconst (v := nI 1) dL_law_370 (by decide) ?_
      refine z_goto (tgt := 406) dL_law_371 (by decide) ?_
      refine z_istore_n (lv' := [(2, .int (nI 1)), (13, .int ((-2000002))), (12, .int (nI (1 + (z % 4)))), (8, .int (nI w)), (7, .int (nI r)), (6, .int (nI c)), (5, .int (nI z)), (4, .int (nI t)), (0, .ref 1009), (1, .ref 0), (3, .int (nI k))]) dL_law_406 rfl (by decide) rfl ?_
      refine z_goto (tgt := 587) dL_law_407 (by decide) ?_
      refine z_sub [8, 9, 0, 10] (lv' := [(0, .ref 1009), (1, .ref 0), (2, .int (nI 1)), (3, .int (nI k))]) rfl ?_
      exact z_widen hG (by omega) (by omega) K9
set_option maxHeartbeats 4000000 in
set_option maxRecDepth 100000 in
theorem law_c4 {G : zT} {mc ms cells slots : Nat} {c r w lim : Nat} {tol : Int32} {cart wov lot sew mis : Nat → Int32} {cnt : Nat} {col len lef sbt : Nat → Int32} {shd : Nat → UInt32} {X : zXr} {Y : zYr} {out : Nat → Int64} {t z k : Nat} (hG : zAl G = false) (hL : zAd G 1999 ≤ 260) (h : pGd (c, r, w, lim, tol, cart, wov, lot, sew, mis, cnt, col, len, lef, sbt, shd) X) (hk : (z % ((zSc wov c w lim) + 1)) < (zSc wov c w lim)) (hs9 : pSs wov sew c w lim (z % ((zSc wov c w lim) + 1)) = false) (hz : z < 2 ^ 28) (hc : cells + 1 ≤ mc) (hs : slots + 6 ≤ ms) (K : ∀ S2 X2, pGd S2 X2 → ∃ h', zPW G mL_law mc ms (.inr (some (.int 1))) h' (cells + 1) (slots + 6) 587 [(0, .ref 1009), (1, .ref 0), (2, .int (nI 1)), (3, .int (nI k))] [] (zHp S2 X2 Y out)) : ∃ h', zPW G mL_law mc ms (.inr (some (.int 1))) h' cells slots 410 [(8, .int (nI w)), (7, .int (nI r)), (6, .int (nI c)), (5, .int (nI z)), (4, .int (nI t)), (0, .ref 1009), (1, .ref 0), (2, .int (nI 1)), (3, .int (nI k))] [] (zHp (c, r, w, lim, tol, cart, wov, lot, sew, mis, cnt, col, len, lef, sbt, shd) X Y out) := by
  obtain ⟨hi9, h49, hc49⟩ := h.iv
  obtain ⟨⟨d1, d2, d3, d4, d5, d6, d7, d8, d9⟩, -⟩ := hi9
  have z3 : zSc wov c w lim ≤ 320 := pSc_le _ _ d2 (by omega)
  obtain ⟨r1, g, r2, hle⟩ := s_sews (Y := Y) (out := out) hG h (k := (z % ((zSc wov c w lim) + 1))) hk hs9
  obtain ⟨h', K9⟩ := K _ _ g
  refine ⟨h', ?_⟩
  refine z_aload_n 6 dL_law_410 rfl rfl ?_
  refine z_bipush (v := nI 6) dL_law_411 (by decide) ?_
  refine z_callSH (N := mL_whole) 2 [.ref 0, .int (nI 6)] [] lHL_whole ⟨zw_810, zw_811⟩ rfl rfl (Nat.le_of_ble_eq_true rfl) (by decide) ⟨zlt, zlt⟩ hG ⟨by omega, by omega⟩ (h_wholeS hG h 6 (by omega) (by first | rfl | decide) rfl) dL_law_413 ?_
  refine z_istore (lv' := [(14, .int (nI (zSc wov c w lim))), (8, .int (nI w)), (7, .int (nI r)), (6, .int (nI c)), (5, .int (nI z)), (4, .int (nI t)), (0, .ref 1009), (1, .ref 0), (2, .int (nI 1)), (3, .int (nI k))]) dL_law_416 (by decide) rfl ?_
  refine z_aload_n 7 dL_law_418 rfl rfl ?_
  refine z_bipush (v := nI 7) dL_law_419 (by decide) ?_
  refine z_callSH (N := mL_whole) 2 [.ref 0, .int (nI 7)] [] lHL_whole ⟨zw_810, zw_811⟩ rfl rfl (Nat.le_of_ble_eq_true rfl) (by decide) ⟨zlt, zlt⟩ hG ⟨by omega, by omega⟩ (h_wholeS hG h 7 (by omega) (by first | rfl | decide) rfl) dL_law_421 ?_
  refine z_istore (lv' := [(15, .int (nI (zCi sew 1 c r))), (14, .int (nI (zSc wov c w lim))), (8, .int (nI w)), (7, .int (nI r)), (6, .int (nI c)), (5, .int (nI z)), (4, .int (nI t)), (0, .ref 1009), (1, .ref 0), (2, .int (nI 1)), (3, .int (nI k))]) dL_law_424 (by decide) rfl ?_
  refine z_aload_n 8 dL_law_426 rfl rfl ?_
  refine z_iload 5 dL_law_427 rfl ?_
  refine z_iload 1 dL_law_429 rfl ?_
  refine z_iconst (v := nI 1) dL_law_431 (by decide) ?_
  refine z_iadd dL_law_432 ?_
  refine z_top (v2 := .int (nI ((zSc wov c w lim) + 1))) (congrArg Value.int (nI_add _ _)) ?_
  refine z_irem dL_law_433 (by exact nI_ne0 (by omega) (by omega)) ?_
  refine z_top (v2 := .int (nI (z % ((zSc wov c w lim) + 1)))) (congrArg Value.int (pk_rem (by omega) (by omega) (by omega))) ?_
  refine z_callSH (N := mL_sews) 2 [.ref 0, .int (nI (z % ((zSc wov c w lim) + 1)))] [] lHL_sews ⟨zw_783, zw_784⟩ rfl rfl (Nat.le_of_ble_eq_true rfl) (by decide) ⟨zlt, zlt⟩ hG ⟨by omega, by omega⟩ r1 dL_law_434 ?_
  refine z_istore (lv' := [(16, .int (nI ((zSc wov c w lim) - (zCi sew 1 c r) - 1))), (15, .int (nI (zCi sew 1 c r))), (14, .int (nI (zSc wov c w lim))), (8, .int (nI w)), (7, .int (nI r)), (6, .int (nI c)), (5, .int (nI z)), (4, .int (nI t)), (0, .ref 1009), (1, .ref 0), (2, .int (nI 1)), (3, .int (nI k))]) dL_law_437 (by decide) rfl ?_
  refine z_iload 0 dL_law_439 rfl ?_
  refine z_if_ge (tgt := 463) dL_law_441 (by decide) (fun c_441 => ?_) (fun c_441 => ?_)
  · skip
    refine z_aload_n 9 dL_law_463 rfl rfl ?_
    refine z_bipush (v := nI 7) dL_law_464 (by decide) ?_
    refine z_callSH (N := mL_whole) 2 [.ref 0, .int (nI 7)] [] lHL_whole ⟨zw_810, zw_811⟩ rfl rfl (Nat.le_of_ble_eq_true rfl) (by decide) ⟨zlt, zlt⟩ hG ⟨by omega, by omega⟩ r2 dL_law_466 ?_
    refine z_iload 1 dL_law_469 rfl ?_
    refine z_iconst (v := nI 1) dL_law_471 (by decide) ?_
    refine z_iadd dL_law_472 ?_
    refine z_top (v2 := .int (nI ((zCi sew 1 c r) + 1))) (congrArg Value.int (nI_add _ _)) ?_
    refine z_icmp_ne (tgt := 492) dL_law_473 (by decide) (fun c_473 => ?_) (fun c_473 => ?_)
    · exact absurd c_473 (fun q => q rfl)
    · skip
      refine z_iload 0 dL_law_476 rfl ?_
      refine z_iload 2 dL_law_478 rfl ?_
      refine z_iload 1 dL_law_480 rfl ?_
      refine z_isub dL_law_482 ?_
      refine z_top (v2 := .int (nI ((zSc wov c w lim) - (zCi sew 1 c r)))) (congrArg Value.int (pk_sub (by omega))) ?_
      refine z_iconst (v := nI 1) dL_law_483 (by decide) ?_
      refine z_isub dL_law_484 ?_
      refine z_top (v2 := .int (nI (((zSc wov c w lim) - (zCi sew 1 c r)) - 1))) (congrArg Value.int (pk_sub (by omega))) ?_
      refine z_icmp_ne (tgt := 492) dL_law_485 (by decide) (fun c_485 => ?_) (fun c_485 => ?_)
      · exact absurd c_485 (fun q => q rfl)
      · skip
        refine z_iconst (v := nI 1) dL_law_488 (by decide) ?_
        refine z_goto (tgt := 493) dL_law_489 (by decide) ?_
        refine z_istore_n (lv' := [(2, .int (nI 1)), (16, .int (nI ((zSc wov c w lim) - (zCi sew 1 c r) - 1))), (15, .int (nI (zCi sew 1 c r))), (14, .int (nI (zSc wov c w lim))), (8, .int (nI w)), (7, .int (nI r)), (6, .int (nI c)), (5, .int (nI z)), (4, .int (nI t)), (0, .ref 1009), (1, .ref 0), (3, .int (nI k))]) dL_law_493 rfl (by decide) rfl ?_
        refine z_goto (tgt := 587) dL_law_494 (by decide) ?_
        refine z_sub [9, 10, 0, 11] (lv' := [(0, .ref 1009), (1, .ref 0), (2, .int (nI 1)), (3, .int (nI k))]) rfl ?_
        exact z_widen hG (by omega) (by omega) K9
  · exact absurd c_441 (fun q => q (nI_pos' (by omega)))
set_option maxHeartbeats 4000000 in
set_option maxRecDepth 100000 in
theorem law_c4b {G : zT} {mc ms cells slots : Nat} {c r w lim : Nat} {tol : Int32} {cart wov lot sew mis : Nat → Int32} {cnt : Nat} {col len lef sbt : Nat → Int32} {shd : Nat → UInt32} {X : zXr} {Y : zYr} {out : Nat → Int64} {t z k : Nat} (hG : zAl G = false) (hL : zAd G 1999 ≤ 260) (h : pGd (c, r, w, lim, tol, cart, wov, lot, sew, mis, cnt, col, len, lef, sbt, shd) X) (hk : (zSc wov c w lim) ≤ (z % ((zSc wov c w lim) + 1))) (hz : z < 2 ^ 28) (hc : cells + 1 ≤ mc) (hs : slots + 6 ≤ ms) (K : ∀ S2 X2, pGd S2 X2 → ∃ h', zPW G mL_law mc ms (.inr (some (.int 1))) h' (cells + 1) (slots + 6) 587 [(0, .ref 1009), (1, .ref 0), (2, .int (nI 1)), (3, .int (nI k))] [] (zHp S2 X2 Y out)) : ∃ h', zPW G mL_law mc ms (.inr (some (.int 1))) h' cells slots 410 [(8, .int (nI w)), (7, .int (nI r)), (6, .int (nI c)), (5, .int (nI z)), (4, .int (nI t)), (0, .ref 1009), (1, .ref 0), (2, .int (nI 1)), (3, .int (nI k))] [] (zHp (c, r, w, lim, tol, cart, wov, lot, sew, mis, cnt, col, len, lef, sbt, shd) X Y out) := by
  obtain ⟨hi9, h49, hc49⟩ := h.iv
  obtain ⟨⟨d1, d2, d3, d4, d5, d6, d7, d8, d9⟩, -⟩ := hi9
  have z3 : zSc wov c w lim ≤ 320 := pSc_le _ _ d2 (by omega)
  have m9 : (z % ((zSc wov c w lim) + 1)) < (zSc wov c w lim) + 1 := Nat.mod_lt _ (by omega)
  have r1 := s_sews_1 (Y := Y) (out := out) hG h (k := (z % ((zSc wov c w lim) + 1))) (by omega) hk
  obtain ⟨h', K9⟩ := K _ _ h
  refine ⟨h', ?_⟩
  refine z_aload_n 6 dL_law_410 rfl rfl ?_
  refine z_bipush (v := nI 6) dL_law_411 (by decide) ?_
  refine z_callSH (N := mL_whole) 2 [.ref 0, .int (nI 6)] [] lHL_whole ⟨zw_810, zw_811⟩ rfl rfl (Nat.le_of_ble_eq_true rfl) (by decide) ⟨zlt, zlt⟩ hG ⟨by omega, by omega⟩ (h_wholeS hG h 6 (by omega) (by first | rfl | decide) rfl) dL_law_413 ?_
  refine z_istore (lv' := [(14, .int (nI (zSc wov c w lim))), (8, .int (nI w)), (7, .int (nI r)), (6, .int (nI c)), (5, .int (nI z)), (4, .int (nI t)), (0, .ref 1009), (1, .ref 0), (2, .int (nI 1)), (3, .int (nI k))]) dL_law_416 (by decide) rfl ?_
  refine z_aload_n 7 dL_law_418 rfl rfl ?_
  refine z_bipush (v := nI 7) dL_law_419 (by decide) ?_
  refine z_callSH (N := mL_whole) 2 [.ref 0, .int (nI 7)] [] lHL_whole ⟨zw_810, zw_811⟩ rfl rfl (Nat.le_of_ble_eq_true rfl) (by decide) ⟨zlt, zlt⟩ hG ⟨by omega, by omega⟩ (h_wholeS hG h 7 (by omega) (by first | rfl | decide) rfl) dL_law_421 ?_
  refine z_istore (lv' := [(15, .int (nI (zCi sew 1 c r))), (14, .int (nI (zSc wov c w lim))), (8, .int (nI w)), (7, .int (nI r)), (6, .int (nI c)), (5, .int (nI z)), (4, .int (nI t)), (0, .ref 1009), (1, .ref 0), (2, .int (nI 1)), (3, .int (nI k))]) dL_law_424 (by decide) rfl ?_
  refine z_aload_n 8 dL_law_426 rfl rfl ?_
  refine z_iload 5 dL_law_427 rfl ?_
  refine z_iload 1 dL_law_429 rfl ?_
  refine z_iconst (v := nI 1) dL_law_431 (by decide) ?_
  refine z_iadd dL_law_432 ?_
  refine z_top (v2 := .int (nI ((zSc wov c w lim) + 1))) (congrArg Value.int (nI_add _ _)) ?_
  refine z_irem dL_law_433 (by exact nI_ne0 (by omega) (by omega)) ?_
  refine z_top (v2 := .int (nI (z % ((zSc wov c w lim) + 1)))) (congrArg Value.int (pk_rem (by omega) (by omega) (by omega))) ?_
  refine z_callSH (N := mL_sews) 2 [.ref 0, .int (nI (z % ((zSc wov c w lim) + 1)))] [] lHL_sews ⟨zw_783, zw_784⟩ rfl rfl (Nat.le_of_ble_eq_true rfl) (by decide) ⟨zlt, zlt⟩ hG ⟨by omega, by omega⟩ r1 dL_law_434 ?_
  refine z_istore (lv' := [(16, .int ((-2000001))), (15, .int (nI (zCi sew 1 c r))), (14, .int (nI (zSc wov c w lim))), (8, .int (nI w)), (7, .int (nI r)), (6, .int (nI c)), (5, .int (nI z)), (4, .int (nI t)), (0, .ref 1009), (1, .ref 0), (2, .int (nI 1)), (3, .int (nI k))]) dL_law_437 (by decide) rfl ?_
  refine z_iload 0 dL_law_439 rfl ?_
  refine z_if_ge (tgt := 463) dL_law_441 (by decide) (fun c_441 => ?_) (fun c_441 => ?_)
  · exact absurd c_441 (by decide)
  · skip
    refine z_aload_n 9 dL_law_444 rfl rfl ?_
    refine z_bipush (v := nI 7) dL_law_445 (by decide) ?_
    refine z_callSH (N := mL_whole) 2 [.ref 0, .int (nI 7)] [] lHL_whole ⟨zw_810, zw_811⟩ rfl rfl (Nat.le_of_ble_eq_true rfl) (by decide) ⟨zlt, zlt⟩ hG ⟨by omega, by omega⟩ (h_wholeS hG h 7 (by omega) (by first | rfl | decide) rfl) dL_law_447 ?_
    refine z_iload 1 dL_law_450 rfl ?_
    refine z_icmp_ne (tgt := 459) dL_law_452 (by decide) (fun c_452 => ?_) (fun c_452 => ?_)
    · exact absurd c_452 (fun q => q rfl)
    · skip
      refine z_iconst (v := nI 1) dL_law_455 (by decide) ?_
      refine z_goto (tgt := 493) dL_law_456 (by decide) ?_
      refine z_istore_n (lv' := [(2, .int (nI 1)), (16, .int ((-2000001))), (15, .int (nI (zCi sew 1 c r))), (14, .int (nI (zSc wov c w lim))), (8, .int (nI w)), (7, .int (nI r)), (6, .int (nI c)), (5, .int (nI z)), (4, .int (nI t)), (0, .ref 1009), (1, .ref 0), (3, .int (nI k))]) dL_law_493 rfl (by decide) rfl ?_
      refine z_goto (tgt := 587) dL_law_494 (by decide) ?_
      refine z_sub [9, 10, 0, 11] (lv' := [(0, .ref 1009), (1, .ref 0), (2, .int (nI 1)), (3, .int (nI k))]) rfl ?_
      exact z_widen hG (by omega) (by omega) K9
set_option maxHeartbeats 4000000 in
set_option maxRecDepth 100000 in
theorem law_c4c {G : zT} {mc ms cells slots : Nat} {c r w lim : Nat} {tol : Int32} {cart wov lot sew mis : Nat → Int32} {cnt : Nat} {col len lef sbt : Nat → Int32} {shd : Nat → UInt32} {X : zXr} {Y : zYr} {out : Nat → Int64} {t z k : Nat} (hG : zAl G = false) (hL : zAd G 1999 ≤ 260) (h : pGd (c, r, w, lim, tol, cart, wov, lot, sew, mis, cnt, col, len, lef, sbt, shd) X) (hk : (z % ((zSc wov c w lim) + 1)) < (zSc wov c w lim)) (hs9 : pSs wov sew c w lim (z % ((zSc wov c w lim) + 1)) = true) (hz : z < 2 ^ 28) (hc : cells + 1 ≤ mc) (hs : slots + 6 ≤ ms) (K : ∀ S2 X2, pGd S2 X2 → ∃ h', zPW G mL_law mc ms (.inr (some (.int 1))) h' (cells + 1) (slots + 6) 587 [(0, .ref 1009), (1, .ref 0), (2, .int (nI 1)), (3, .int (nI k))] [] (zHp S2 X2 Y out)) : ∃ h', zPW G mL_law mc ms (.inr (some (.int 1))) h' cells slots 410 [(8, .int (nI w)), (7, .int (nI r)), (6, .int (nI c)), (5, .int (nI z)), (4, .int (nI t)), (0, .ref 1009), (1, .ref 0), (2, .int (nI 1)), (3, .int (nI k))] [] (zHp (c, r, w, lim, tol, cart, wov, lot, sew, mis, cnt, col, len, lef, sbt, shd) X Y out) := by
  obtain ⟨hi9, h49, hc49⟩ := h.iv
  obtain ⟨⟨d1, d2, d3, d4, d5, d6, d7, d8, d9⟩, -⟩ := hi9
  have z3 : zSc wov c w lim ≤ 320 := pSc_le _ _ d2 (by omega)
  have r1 := s_sews_2 (Y := Y) (out := out) hG h (k := (z % ((zSc wov c w lim) + 1))) hk hs9
  obtain ⟨h', K9⟩ := K _ _ h
  refine ⟨h', ?_⟩
  refine z_aload_n 6 dL_law_410 rfl rfl ?_
  refine z_bipush (v := nI 6) dL_law_411 (by decide) ?_
  refine z_callSH (N := mL_whole) 2 [.ref 0, .int (nI 6)] [] lHL_whole ⟨zw_810, zw_811⟩ rfl rfl (Nat.le_of_ble_eq_true rfl) (by decide) ⟨zlt, zlt⟩ hG ⟨by omega, by omega⟩ (h_wholeS hG h 6 (by omega) (by first | rfl | decide) rfl) dL_law_413 ?_
  refine z_istore (lv' := [(14, .int (nI (zSc wov c w lim))), (8, .int (nI w)), (7, .int (nI r)), (6, .int (nI c)), (5, .int (nI z)), (4, .int (nI t)), (0, .ref 1009), (1, .ref 0), (2, .int (nI 1)), (3, .int (nI k))]) dL_law_416 (by decide) rfl ?_
  refine z_aload_n 7 dL_law_418 rfl rfl ?_
  refine z_bipush (v := nI 7) dL_law_419 (by decide) ?_
  refine z_callSH (N := mL_whole) 2 [.ref 0, .int (nI 7)] [] lHL_whole ⟨zw_810, zw_811⟩ rfl rfl (Nat.le_of_ble_eq_true rfl) (by decide) ⟨zlt, zlt⟩ hG ⟨by omega, by omega⟩ (h_wholeS hG h 7 (by omega) (by first | rfl | decide) rfl) dL_law_421 ?_
  refine z_istore (lv' := [(15, .int (nI (zCi sew 1 c r))), (14, .int (nI (zSc wov c w lim))), (8, .int (nI w)), (7, .int (nI r)), (6, .int (nI c)), (5, .int (nI z)), (4, .int (nI t)), (0, .ref 1009), (1, .ref 0), (2, .int (nI 1)), (3, .int (nI k))]) dL_law_424 (by decide) rfl ?_
  refine z_aload_n 8 dL_law_426 rfl rfl ?_
  refine z_iload 5 dL_law_427 rfl ?_
  refine z_iload 1 dL_law_429 rfl ?_
  refine z_iconst (v := nI 1) dL_law_431 (by decide) ?_
  refine z_iadd dL_law_432 ?_
  refine z_top (v2 := .int (nI ((zSc wov c w lim) + 1))) (congrArg Value.int (nI_add _ _)) ?_
  refine z_irem dL_law_433 (by exact nI_ne0 (by omega) (by omega)) ?_
  refine z_top (v2 := .int (nI (z % ((zSc wov c w lim) + 1)))) (congrArg Value.int (pk_rem (by omega) (by omega) (by omega))) ?_
  refine z_callSH (N := mL_sews) 2 [.ref 0, .int (nI (z % ((zSc wov c w lim) + 1)))] [] lHL_sews ⟨zw_783, zw_784⟩ rfl rfl (Nat.le_of_ble_eq_true rfl) (by decide) ⟨zlt, zlt⟩ hG ⟨by omega, by omega⟩ r1 dL_law_434 ?_
  refine z_istore (lv' := [(16, .int ((-2000002))), (15, .int (nI (zCi sew 1 c r))), (14, .int (nI (zSc wov c w lim))), (8, .int (nI w)), (7, .int (nI r)), (6, .int (nI c)), (5, .int (nI z)), (4, .int (nI t)), (0, .ref 1009), (1, .ref 0), (2, .int (nI 1)), (3, .int (nI k))]) dL_law_437 (by decide) rfl ?_
  refine z_iload 0 dL_law_439 rfl ?_
  refine z_if_ge (tgt := 463) dL_law_441 (by decide) (fun c_441 => ?_) (fun c_441 => ?_)
  · exact absurd c_441 (by decide)
  · skip
    refine z_aload_n 9 dL_law_444 rfl rfl ?_
    refine z_bipush (v := nI 7) dL_law_445 (by decide) ?_
    refine z_callSH (N := mL_whole) 2 [.ref 0, .int (nI 7)] [] lHL_whole ⟨zw_810, zw_811⟩ rfl rfl (Nat.le_of_ble_eq_true rfl) (by decide) ⟨zlt, zlt⟩ hG ⟨by omega, by omega⟩ (h_wholeS hG h 7 (by omega) (by first | rfl | decide) rfl) dL_law_447 ?_
    refine z_iload 1 dL_law_450 rfl ?_
    refine z_icmp_ne (tgt := 459) dL_law_452 (by decide) (fun c_452 => ?_) (fun c_452 => ?_)
    · exact absurd c_452 (fun q => q rfl)
    · skip
      refine z_iconst (v := nI 1) dL_law_455 (by decide) ?_
      refine z_goto (tgt := 493) dL_law_456 (by decide) ?_
      refine z_istore_n (lv' := [(2, .int (nI 1)), (16, .int ((-2000002))), (15, .int (nI (zCi sew 1 c r))), (14, .int (nI (zSc wov c w lim))), (8, .int (nI w)), (7, .int (nI r)), (6, .int (nI c)), (5, .int (nI z)), (4, .int (nI t)), (0, .ref 1009), (1, .ref 0), (3, .int (nI k))]) dL_law_493 rfl (by decide) rfl ?_
      refine z_goto (tgt := 587) dL_law_494 (by decide) ?_
      refine z_sub [9, 10, 0, 11] (lv' := [(0, .ref 1009), (1, .ref 0), (2, .int (nI 1)), (3, .int (nI k))]) rfl ?_
      exact z_widen hG (by omega) (by omega) K9
set_option maxHeartbeats 4000000 in
set_option maxRecDepth 100000 in
theorem law_c5 {G : zT} {mc ms cells slots : Nat} {c r w lim : Nat} {tol : Int32} {cart wov lot sew mis : Nat → Int32} {cnt : Nat} {col len lef sbt : Nat → Int32} {shd : Nat → UInt32} {X : zXr} {Y : zYr} {out : Nat → Int64} {t z k : Nat} (hG : zAl G = false) (hL : zAd G 1999 ≤ 260) (h : pGd (c, r, w, lim, tol, cart, wov, lot, sew, mis, cnt, col, len, lef, sbt, shd) X)  (hz : z < 2 ^ 28) (hc : cells + 1 ≤ mc) (hs : slots + 6 ≤ ms) (K : ∀ S2 X2, pGd S2 X2 → ∃ h', zPW G mL_law mc ms (.inr (some (.int 1))) h' (cells + 1) (slots + 6) 587 [(0, .ref 1009), (1, .ref 0), (2, .int (nI 1)), (3, .int (nI k))] [] (zHp S2 X2 Y out)) : ∃ h', zPW G mL_law mc ms (.inr (some (.int 1))) h' cells slots 497 [(8, .int (nI w)), (7, .int (nI r)), (6, .int (nI c)), (5, .int (nI z)), (4, .int (nI t)), (0, .ref 1009), (1, .ref 0), (2, .int (nI 1)), (3, .int (nI k))] [] (zHp (c, r, w, lim, tol, cart, wov, lot, sew, mis, cnt, col, len, lef, sbt, shd) X Y out) := by
  obtain ⟨hi9, h49, hc49⟩ := h.iv
  obtain ⟨⟨d1, d2, d3, d4, d5, d6, d7, d8, d9⟩, -⟩ := hi9
  obtain ⟨r1, g, r2⟩ := s_limits (Y := Y) (out := out) hG h (a := (1 + z % 6)) (by omega) (by omega)
  obtain ⟨h', K9⟩ := K _ _ g
  refine ⟨h', ?_⟩
  refine z_aload_n 6 dL_law_497 rfl rfl ?_
  refine z_iconst (v := nI 1) dL_law_498 (by decide) ?_
  refine z_iload 3 dL_law_499 rfl ?_
  refine z_bipush (v := nI 6) dL_law_501 (by decide) ?_
  refine z_irem dL_law_503 (by exact nI_ne0 (by omega) (by omega)) ?_
  refine z_top (v2 := .int (nI (z % 6))) (congrArg Value.int (pk_rem (by omega) (by omega) (by omega))) ?_
  refine z_iadd dL_law_504 ?_
  refine z_top (v2 := .int (nI (1 + (z % 6)))) (congrArg Value.int (nI_add _ _)) ?_
  refine z_callSH (N := mL_limits) 2 [.ref 0, .int (nI (1 + (z % 6)))] [] lHL_limits ⟨zw_697, zw_698⟩ rfl rfl (Nat.le_of_ble_eq_true rfl) (by decide) ⟨zlt, zlt⟩ hG ⟨by omega, by omega⟩ r1 dL_law_505 ?_
  refine z_iconst (v := nI 1) dL_law_508 (by decide) ?_
  refine z_icmp_lt (tgt := 532) dL_law_509 (by decide) (fun c_509 => ?_) (fun c_509 => ?_)
  · exact absurd c_509 (nI_nlt d6 (by omega))
  · skip
    refine z_aload_n 6 dL_law_512 rfl rfl ?_
    refine z_bipush (v := nI 13) dL_law_513 (by decide) ?_
    refine z_callSH (N := mL_whole) 2 [.ref 0, .int (nI 13)] [] lHL_whole ⟨zw_810, zw_811⟩ rfl rfl (Nat.le_of_ble_eq_true rfl) (by decide) ⟨zlt, zlt⟩ hG ⟨by omega, by omega⟩ r2 dL_law_515 ?_
    refine z_iconst (v := nI 1) dL_law_518 (by decide) ?_
    refine z_iload 3 dL_law_519 rfl ?_
    refine z_bipush (v := nI 6) dL_law_521 (by decide) ?_
    refine z_irem dL_law_523 (by exact nI_ne0 (by omega) (by omega)) ?_
    refine z_top (v2 := .int (nI (z % 6))) (congrArg Value.int (pk_rem (by omega) (by omega) (by omega))) ?_
    refine z_iadd dL_law_524 ?_
    refine z_top (v2 := .int (nI (1 + (z % 6)))) (congrArg Value.int (nI_add _ _)) ?_
    refine z_icmp_ne (tgt := 532) dL_law_525 (by decide) (fun c_525 => ?_) (fun c_525 => ?_)
    · exact absurd c_525 (fun q => q rfl)
    · skip
      refine z_iconst (v := nI 1) dL_law_528 (by decide) ?_
      refine z_goto (tgt := 533) dL_law_529 (by decide) ?_
      refine z_istore_n (lv' := [(2, .int (nI 1)), (8, .int (nI w)), (7, .int (nI r)), (6, .int (nI c)), (5, .int (nI z)), (4, .int (nI t)), (0, .ref 1009), (1, .ref 0), (3, .int (nI k))]) dL_law_533 rfl (by decide) rfl ?_
      refine z_goto (tgt := 587) dL_law_534 (by decide) ?_
      refine z_sub [6, 7, 0, 8] (lv' := [(0, .ref 1009), (1, .ref 0), (2, .int (nI 1)), (3, .int (nI k))]) rfl ?_
      exact z_widen hG (by omega) (by omega) K9
set_option maxHeartbeats 4000000 in
set_option maxRecDepth 100000 in
theorem law_c6 {G : zT} {mc ms cells slots : Nat} {c r w lim : Nat} {tol : Int32} {cart wov lot sew mis : Nat → Int32} {cnt : Nat} {col len lef sbt : Nat → Int32} {shd : Nat → UInt32} {X : zXr} {Y : zYr} {out : Nat → Int64} {t z k : Nat} (hG : zAl G = false) (hL : zAd G 1999 ≤ 260) (h : pGd (c, r, w, lim, tol, cart, wov, lot, sew, mis, cnt, col, len, lef, sbt, shd) X)  (hz : z < 2 ^ 28) (hc : cells + 1 ≤ mc) (hs : slots + 6 ≤ ms) (K : ∀ S2 X2, pGd S2 X2 → ∃ h', zPW G mL_law mc ms (.inr (some (.int 1))) h' (cells + 1) (slots + 6) 587 [(0, .ref 1009), (1, .ref 0), (2, .int (nI 1)), (3, .int (nI k))] [] (zHp S2 X2 Y out)) : ∃ h', zPW G mL_law mc ms (.inr (some (.int 1))) h' cells slots 537 [(8, .int (nI w)), (7, .int (nI r)), (6, .int (nI c)), (5, .int (nI z)), (4, .int (nI t)), (0, .ref 1009), (1, .ref 0), (2, .int (nI 1)), (3, .int (nI k))] [] (zHp (c, r, w, lim, tol, cart, wov, lot, sew, mis, cnt, col, len, lef, sbt, shd) X Y out) := by
  obtain ⟨hi9, h49, hc49⟩ := h.iv
  obtain ⟨⟨d1, d2, d3, d4, d5, d6, d7, d8, d9⟩, -⟩ := hi9
  obtain ⟨n, S9, r1, g, hle, r2, r3⟩ := s_weaves (Y := Y) (out := out) hG h (n := (1 + z % 6)) (by omega) (by omega)
  obtain ⟨h', K9⟩ := K _ _ g
  refine ⟨h', ?_⟩
  refine z_aload_n 6 dL_law_537 rfl rfl ?_
  refine z_iconst (v := nI 1) dL_law_538 (by decide) ?_
  refine z_iload 3 dL_law_539 rfl ?_
  refine z_bipush (v := nI 6) dL_law_541 (by decide) ?_
  refine z_irem dL_law_543 (by exact nI_ne0 (by omega) (by omega)) ?_
  refine z_top (v2 := .int (nI (z % 6))) (congrArg Value.int (pk_rem (by omega) (by omega) (by omega))) ?_
  refine z_iadd dL_law_544 ?_
  refine z_top (v2 := .int (nI (1 + (z % 6)))) (congrArg Value.int (nI_add _ _)) ?_
  refine z_callSH (N := mL_weaves) 2 [.ref 0, .int (nI (1 + (z % 6)))] [] lHL_weaves ⟨zw_732, zw_733⟩ rfl rfl (Nat.le_of_ble_eq_true rfl) (by decide) ⟨zlt, zlt⟩ hG ⟨by omega, by omega⟩ r1 dL_law_545 ?_
  refine z_istore (lv' := [(17, .int (nI n)), (8, .int (nI w)), (7, .int (nI r)), (6, .int (nI c)), (5, .int (nI z)), (4, .int (nI t)), (0, .ref 1009), (1, .ref 0), (2, .int (nI 1)), (3, .int (nI k))]) dL_law_548 (by decide) rfl ?_
  refine z_iload 0 dL_law_550 rfl ?_
  refine z_if_lt (tgt := 585) dL_law_552 (by decide) (fun c_552 => ?_) (fun c_552 => ?_)
  · exact absurd c_552 (nI_pos (by omega))
  · skip
    refine z_aload_n 7 dL_law_555 rfl rfl ?_
    refine z_iconst (v := nI 2) dL_law_556 (by decide) ?_
    refine z_callSH (N := mL_whole) 2 [.ref 0, .int (nI 2)] [] lHL_whole ⟨zw_810, zw_811⟩ rfl rfl (Nat.le_of_ble_eq_true rfl) (by decide) ⟨zlt, zlt⟩ hG ⟨by omega, by omega⟩ r2 dL_law_557 ?_
    refine z_iload 1 dL_law_560 rfl ?_
    refine z_iload 0 dL_law_562 rfl ?_
    refine z_iadd dL_law_564 ?_
    refine z_top (v2 := .int (nI (w + n))) (congrArg Value.int (nI_add _ _)) ?_
    refine z_icmp_ne (tgt := 585) dL_law_565 (by decide) (fun c_565 => ?_) (fun c_565 => ?_)
    · exact absurd c_565 (fun q => q rfl)
    · skip
      refine z_iload 0 dL_law_568 rfl ?_
      refine z_if_eq (tgt := 581) dL_law_570 (by decide) (fun c_570 => ?_) (fun c_570 => ?_)
      · skip
        refine z_iconst (v := nI 1) dL_law_581 (by decide) ?_
        refine z_goto (tgt := 586) dL_law_582 (by decide) ?_
        refine z_istore_n (lv' := [(2, .int (nI 1)), (17, .int (nI n)), (8, .int (nI w)), (7, .int (nI r)), (6, .int (nI c)), (5, .int (nI z)), (4, .int (nI t)), (0, .ref 1009), (1, .ref 0), (3, .int (nI k))]) dL_law_586 rfl (by decide) rfl ?_
        refine z_sub [7, 8, 0, 9] (lv' := [(0, .ref 1009), (1, .ref 0), (2, .int (nI 1)), (3, .int (nI k))]) rfl ?_
        exact z_widen hG (by omega) (by omega) K9
      · skip
        refine z_aload_n 7 dL_law_573 rfl rfl ?_
        refine z_iconst (v := nI 4) dL_law_574 (by decide) ?_
        refine z_callSH (N := mL_whole) 2 [.ref 0, .int (nI 4)] [] lHL_whole ⟨zw_810, zw_811⟩ rfl rfl (Nat.le_of_ble_eq_true rfl) (by decide) ⟨zlt, zlt⟩ hG ⟨by omega, by omega⟩ (r3 (fun q => c_570 (by rw [q]; rfl))) dL_law_575 ?_
        refine z_if_ne (tgt := 585) dL_law_578 (by decide) (fun c_578 => ?_) (fun c_578 => ?_)
        · exact absurd c_578 (fun q => q rfl)
        · skip
          refine z_iconst (v := nI 1) dL_law_581 (by decide) ?_
          refine z_goto (tgt := 586) dL_law_582 (by decide) ?_
          refine z_istore_n (lv' := [(2, .int (nI 1)), (17, .int (nI n)), (8, .int (nI w)), (7, .int (nI r)), (6, .int (nI c)), (5, .int (nI z)), (4, .int (nI t)), (0, .ref 1009), (1, .ref 0), (3, .int (nI k))]) dL_law_586 rfl (by decide) rfl ?_
          refine z_sub [7, 8, 0, 9] (lv' := [(0, .ref 1009), (1, .ref 0), (2, .int (nI 1)), (3, .int (nI k))]) rfl ?_
          exact z_widen hG (by omega) (by omega) K9
set_option maxHeartbeats 4000000 in
set_option maxRecDepth 100000 in
theorem law_end {G : zT} {mc ms cells slots : Nat} {S9 : zS} {X : zXr} {Y : zYr} {out : Nat → Int64} {k : Nat} (hG : zAl G = false) (h : pGd S9 X) (hc : cells ≤ mc) (hs : slots ≤ ms) (K : ∃ h', zPW G mL_law mc ms (.inr (some (.int 1))) h' cells slots 114 [(0, .ref 1009), (1, .ref 0), (2, .int (nI 1)), (3, .int (nI (k + 1)))] [] (zHp S9 X Y out)) : ∃ h', zPW G mL_law mc ms (.inr (some (.int 1))) h' cells slots 587 [(0, .ref 1009), (1, .ref 0), (2, .int (nI 1)), (3, .int (nI k))] [] (zHp S9 X Y out) := by
  obtain ⟨h', K9⟩ := K
  refine ⟨h', ?_⟩
  refine z_iload_n 2 dL_law_587 rfl rfl ?_
  refine z_if_eq (tgt := 602) dL_law_588 (by decide) (fun c_588 => ?_) (fun c_588 => ?_)
  · exact absurd c_588 (fun q => absurd (q.trans nI_0.symm) (by decide))
  · skip
    refine z_aload_n 1 dL_law_591 rfl rfl ?_
    refine z_callS (N := mL_holds) 1 [.ref 0] [] lL_holds ⟨zw_828, zw_829⟩ rfl rfl rfl (Nat.le_of_ble_eq_true rfl) (by decide) ⟨zlt, zlt⟩ hG ⟨by omega, by omega⟩ (h_holdsS hG h) dL_law_592 ?_
    refine z_if_eq (tgt := 602) dL_law_595 (by decide) (fun c_595 => ?_) (fun c_595 => ?_)
    · exact absurd c_595 (by decide)
    · skip
      refine z_iconst (v := nI 1) dL_law_598 (by decide) ?_
      refine z_goto (tgt := 603) dL_law_599 (by decide) ?_
      refine z_istore_n (lv' := [(2, .int (nI 1)), (0, .ref 1009), (1, .ref 0), (3, .int (nI k))]) dL_law_603 rfl (by decide) rfl ?_
      refine z_iinc (v := nI (k + 1)) (lv' := [(3, .int (nI (k + 1))), (2, .int (nI 1)), (0, .ref 1009), (1, .ref 0)]) 3 dL_law_604 rfl (nI_1 k) (by decide) rfl ?_
      refine z_goto (tgt := 114) dL_law_607 (by decide) ?_
      refine z_sub [2, 3, 1, 0] (lv' := [(0, .ref 1009), (1, .ref 0), (2, .int (nI 1)), (3, .int (nI (k + 1)))]) rfl ?_
      exact z_widen hG (by omega) (by omega) K9
set_option maxHeartbeats 4000000 in
set_option maxRecDepth 100000 in
theorem law_head {G : zT} {mc ms cells slots : Nat} {c r w lim : Nat} {tol : Int32} {cart wov lot sew mis : Nat → Int32} {cnt : Nat} {col len lef sbt : Nat → Int32} {shd : Nat → UInt32} {X : zXr} {Y : zYr} {out : Nat → Int64} {k : Nat} (hG : zAl G = false) (hL : zAd G 1999 ≤ 260) (h : pGd (c, r, w, lim, tol, cart, wov, lot, sew, mis, cnt, col, len, lef, sbt, shd) X) (hk : k < 36) (hc : cells ≤ mc) (hs : slots ≤ ms) (K : ∀ t, t < 2 ^ 31 → ∃ h', zPW G mL_law mc ms (.inr (some (.int 1))) h' cells slots 167 [(8, .int (nI w)), (7, .int (nI r)), (6, .int (nI c)), (5, .int (nI (t / 8))), (4, .int (nI t)), (0, .ref 1009), (1, .ref 0), (2, .int (nI 1)), (3, .int (nI k))] [.int (nI (t % 8))] (zHp (c, r, w, lim, tol, cart, wov, lot, sew, mis, cnt, col, len, lef, sbt, shd) X Y out)) : ∃ h', zPW G mL_law mc ms (.inr (some (.int 1))) h' cells slots 114 [(0, .ref 1009), (1, .ref 0), (2, .int (nI 1)), (3, .int (nI k))] [] (zHp (c, r, w, lim, tol, cart, wov, lot, sew, mis, cnt, col, len, lef, sbt, shd) X Y out) := by
  obtain ⟨t, ht, r1⟩ := c_cell (H := zHp (c, r, w, lim, tol, cart, wov, lot, sew, mis, cnt, col, len, lef, sbt, shd) X Y out) hG hL (j := 11 + k) (by omega)
  obtain ⟨h', K9⟩ := K t ht
  refine ⟨h', ?_⟩
  refine z_iload_n 3 dL_law_114 rfl rfl ?_
  refine z_bipush (v := nI 36) dL_law_115 (by decide) ?_
  refine z_icmp_ge (tgt := 610) dL_law_117 (by decide) (fun c_117 => ?_) (fun c_117 => ?_)
  · exact absurd c_117 (nI_ge hk (by omega))
  · skip
    refine z_iload_n 2 dL_law_120 rfl rfl ?_
    refine z_if_eq (tgt := 610) dL_law_121 (by decide) (fun c_121 => ?_) (fun c_121 => ?_)
    · exact absurd c_121 (fun q => absurd (q.trans nI_0.symm) (by decide))
    · skip
      refine z_aload_n 0 dL_law_124 rfl rfl ?_
      refine z_bipush (v := nI 11) dL_law_125 (by decide) ?_
      refine z_iload_n 3 dL_law_127 rfl rfl ?_
      refine z_iadd dL_law_128 ?_
      refine z_top (v2 := .int (nI (11 + k))) (congrArg Value.int (nI_add _ _)) ?_
      refine z_callS (N := mL_cell) 2 [.ref 1009, .int (nI (11 + k))] [] lL_cell ⟨zw_475, zw_476⟩ rfl rfl rfl (Nat.le_of_ble_eq_true rfl) (by decide) ⟨zlt, zlt⟩ hG ⟨by omega, by omega⟩ r1 dL_law_129 ?_
      refine z_istore (lv' := [(4, .int (nI t)), (0, .ref 1009), (1, .ref 0), (2, .int (nI 1)), (3, .int (nI k))]) dL_law_132 (by decide) rfl ?_
      refine z_iload 0 dL_law_134 rfl ?_
      refine z_bipush (v := nI 8) dL_law_136 (by decide) ?_
      refine z_idiv dL_law_138 (by exact nI_ne0 (by omega) (by omega)) ?_
      refine z_top (v2 := .int (nI (t / 8))) (congrArg Value.int (pk_div (by omega) (by omega) (by omega))) ?_
      refine z_istore (lv' := [(5, .int (nI (t / 8))), (4, .int (nI t)), (0, .ref 1009), (1, .ref 0), (2, .int (nI 1)), (3, .int (nI k))]) dL_law_139 (by decide) rfl ?_
      refine z_aload_n 3 dL_law_141 rfl rfl ?_
      refine z_iconst (v := nI 0) dL_law_142 (by decide) ?_
      refine z_callSH (N := mL_whole) 2 [.ref 0, .int (nI 0)] [] lHL_whole ⟨zw_810, zw_811⟩ rfl rfl (Nat.le_of_ble_eq_true rfl) (by decide) ⟨zlt, zlt⟩ hG ⟨by omega, by omega⟩ (h_wholeS hG h 0 (by omega) (by first | rfl | decide) rfl) dL_law_143 ?_
      refine z_istore (lv' := [(6, .int (nI c)), (5, .int (nI (t / 8))), (4, .int (nI t)), (0, .ref 1009), (1, .ref 0), (2, .int (nI 1)), (3, .int (nI k))]) dL_law_146 (by decide) rfl ?_
      refine z_aload_n 4 dL_law_148 rfl rfl ?_
      refine z_iconst (v := nI 1) dL_law_149 (by decide) ?_
      refine z_callSH (N := mL_whole) 2 [.ref 0, .int (nI 1)] [] lHL_whole ⟨zw_810, zw_811⟩ rfl rfl (Nat.le_of_ble_eq_true rfl) (by decide) ⟨zlt, zlt⟩ hG ⟨by omega, by omega⟩ (h_wholeS hG h 1 (by omega) (by first | rfl | decide) rfl) dL_law_150 ?_
      refine z_istore (lv' := [(7, .int (nI r)), (6, .int (nI c)), (5, .int (nI (t / 8))), (4, .int (nI t)), (0, .ref 1009), (1, .ref 0), (2, .int (nI 1)), (3, .int (nI k))]) dL_law_153 (by decide) rfl ?_
      refine z_aload_n 5 dL_law_155 rfl rfl ?_
      refine z_iconst (v := nI 2) dL_law_156 (by decide) ?_
      refine z_callSH (N := mL_whole) 2 [.ref 0, .int (nI 2)] [] lHL_whole ⟨zw_810, zw_811⟩ rfl rfl (Nat.le_of_ble_eq_true rfl) (by decide) ⟨zlt, zlt⟩ hG ⟨by omega, by omega⟩ (h_wholeS hG h 2 (by omega) (by first | rfl | decide) rfl) dL_law_157 ?_
      refine z_istore (lv' := [(8, .int (nI w)), (7, .int (nI r)), (6, .int (nI c)), (5, .int (nI (t / 8))), (4, .int (nI t)), (0, .ref 1009), (1, .ref 0), (2, .int (nI 1)), (3, .int (nI k))]) dL_law_160 (by decide) rfl ?_
      refine z_iload 4 dL_law_162 rfl ?_
      refine z_bipush (v := nI 8) dL_law_164 (by decide) ?_
      refine z_irem dL_law_166 (by exact nI_ne0 (by omega) (by omega)) ?_
      refine z_top (v2 := .int (nI (t % 8))) (congrArg Value.int (pk_rem (by omega) (by omega) (by omega))) ?_
      exact z_widen hG (by omega) (by omega) K9
set_option maxHeartbeats 4000000 in
set_option maxRecDepth 100000 in
theorem law_exit {G : zT} {mc ms cells slots : Nat} {H : zH} {k : Nat} {h' : zH} (hk : 36 ≤ k) (hk2 : k < 2 ^ 31) (K : zPW G mL_law mc ms (.inr (some (.int 1))) h' cells slots 610 [(0, .ref 1009), (1, .ref 0), (2, .int (nI 1))] [] H) : zPW G mL_law mc ms (.inr (some (.int 1))) h' cells slots 114 [(0, .ref 1009), (1, .ref 0), (2, .int (nI 1)), (3, .int (nI k))] [] H := by
  refine z_iload_n 3 dL_law_114 rfl rfl ?_
  refine z_bipush (v := nI 36) dL_law_115 (by decide) ?_
  refine z_icmp_ge (tgt := 610) dL_law_117 (by decide) (fun _ => ?_) (fun q => absurd (nI_le hk hk2) q)
  exact z_sub [0, 1, 2] rfl K
set_option maxHeartbeats 4000000 in
set_option maxRecDepth 100000 in
theorem law_tail {G : zT} {mc ms cells slots : Nat} {c r w lim : Nat} {tol : Int32} {cart wov lot sew mis : Nat → Int32} {cnt : Nat} {col len lef sbt : Nat → Int32} {shd : Nat → UInt32} {X : zXr} {Y : zYr} {out : Nat → Int64} (hG : zAl G = false) (hL : zAd G 1999 ≤ 260) (h : pGd (c, r, w, lim, tol, cart, wov, lot, sew, mis, cnt, col, len, lef, sbt, shd) X) (hc : cells + 4 ≤ mc) (hs : slots + 24 ≤ ms) : ∃ h', zPW G mL_law mc ms (.inr (some (.int 1))) h' cells slots 610 [(0, .ref 1009), (1, .ref 0), (2, .int (nI 1))] [] (zHp (c, r, w, lim, tol, cart, wov, lot, sew, mis, cnt, col, len, lef, sbt, shd) X Y out) := by
  obtain ⟨hi9, h49, hc49⟩ := h.iv
  obtain ⟨⟨d1, d2, d3, d4, d5, d6, d7, d8, d9⟩, -⟩ := hi9
  obtain ⟨S3, X3, n, hn4, r5, g3, r6, r7⟩ := s_undone (Y := Y) (out := out) hG h
  obtain ⟨D, rD⟩ := s_digest (Y := Y) (out := out) hG h
  have r4 := (s_limits (Y := Y) (out := out) hG h (a := 16) (by omega) (by omega)).1
  refine ⟨zHp S3 X3 Y out, ?_⟩
  refine z_aload_n 1 dL_law_610 rfl rfl ?_
  refine z_iconst (v := nI 2) dL_law_611 (by decide) ?_
  refine z_callSH (N := mL_whole) 2 [.ref 0, .int (nI 2)] [] lHL_whole ⟨zw_810, zw_811⟩ rfl rfl (Nat.le_of_ble_eq_true rfl) (by decide) ⟨zlt, zlt⟩ hG ⟨by omega, by omega⟩ (h_wholeS hG h 2 (by omega) (by first | rfl | decide) rfl) dL_law_612 ?_
  refine z_istore_n (lv' := [(3, .int (nI w)), (0, .ref 1009), (1, .ref 0), (2, .int (nI 1))]) dL_law_615 rfl (by decide) rfl ?_
  refine z_aload_n 2 dL_law_616 rfl rfl ?_
  refine z_bipush (v := nI 9) dL_law_617 (by decide) ?_
  refine z_callSH (N := mL_whole) 2 [.ref 0, .int (nI 9)] [] lHL_whole ⟨zw_810, zw_811⟩ rfl rfl (Nat.le_of_ble_eq_true rfl) (by decide) ⟨zlt, zlt⟩ hG ⟨by omega, by omega⟩ (h_wholeS hG h 9 (by omega) (by first | rfl | decide) rfl) dL_law_619 ?_
  refine z_istore (lv' := [(4, .int (nI (zGa wov lot shd c w 3212836864))), (3, .int (nI w)), (0, .ref 1009), (1, .ref 0), (2, .int (nI 1))]) dL_law_622 (by decide) rfl ?_
  refine z_aload_n 3 dL_law_624 rfl rfl ?_
  refine z_callV (N := mX9_digest) 0 [] [] lX9_digest ⟨zw_243, zw_244, zw_245⟩ rfl zgo_0 rfl rfl (Nat.le_of_ble_eq_true rfl) (by decide) ⟨zlt, zlt⟩ ⟨by omega, by omega⟩ (fun _ => rfl) rD dL_law_625 ?_
  refine z_lstore (lv' := [(5, .long D), (4, .int (nI (zGa wov lot shd c w 3212836864))), (3, .int (nI w)), (0, .ref 1009), (1, .ref 0), (2, .int (nI 1))]) dL_law_628 (by decide) rfl ?_
  refine z_iload_n 5 dL_law_630 rfl rfl ?_
  refine z_if_eq (tgt := 685) dL_law_631 (by decide) (fun c_631 => ?_) (fun c_631 => ?_)
  · exact absurd c_631 (fun q => absurd (q.trans nI_0.symm) (by decide))
  · skip
    refine z_aload_n 4 dL_law_634 rfl rfl ?_
    refine z_bipush (v := nI 20) dL_law_635 (by decide) ?_
    refine z_iconst (v := nI 0) dL_law_637 (by decide) ?_
    refine z_bipush (v := nI 20) dL_law_638 (by decide) ?_
    refine z_iconst (v := nI 0) dL_law_640 (by decide) ?_
    refine z_iconst (v := nI 0) dL_law_641 (by decide) ?_
    refine z_callSH (N := mL_fills) 6 [.ref 0, .int (nI 20), .int (nI 0), .int (nI 20), .int (nI 0), .int (nI 0)] [] lHL_fills ⟨zw_641, zw_642⟩ rfl rfl (Nat.le_of_ble_eq_true rfl) (by decide) ⟨zlt, zlt⟩ hG ⟨by omega, by omega⟩ (s_fills_1 hG h) dL_law_642 ?_
    refine z_ldc zw_640 dL_law_645 ?_
    refine z_icmp_ne (tgt := 685) dL_law_647 (by decide) (fun c_647 => ?_) (fun c_647 => ?_)
    · exact absurd c_647 (fun q => q rfl)
    · skip
      refine z_aload_n 4 dL_law_650 rfl rfl ?_
      refine z_iconst (v := nI 0) dL_law_651 (by decide) ?_
      refine z_callSH (N := mL_weaves) 2 [.ref 0, .int (nI 0)] [] lHL_weaves ⟨zw_732, zw_733⟩ rfl rfl (Nat.le_of_ble_eq_true rfl) (by decide) ⟨zlt, zlt⟩ hG ⟨by omega, by omega⟩ (s_weaves_1 hG h) dL_law_652 ?_
      refine z_ldc zw_640 dL_law_655 ?_
      refine z_icmp_ne (tgt := 685) dL_law_657 (by decide) (fun c_657 => ?_) (fun c_657 => ?_)
      · exact absurd c_657 (fun q => q rfl)
      · skip
        refine z_aload_n 4 dL_law_660 rfl rfl ?_
        refine z_bipush (v := nI 17) dL_law_661 (by decide) ?_
        refine z_callSH (N := mL_limits) 2 [.ref 0, .int (nI 17)] [] lHL_limits ⟨zw_697, zw_698⟩ rfl rfl (Nat.le_of_ble_eq_true rfl) (by decide) ⟨zlt, zlt⟩ hG ⟨by omega, by omega⟩ (s_limits_1 hG h) dL_law_663 ?_
        refine z_ldc zw_640 dL_law_666 ?_
        refine z_icmp_ne (tgt := 685) dL_law_668 (by decide) (fun c_668 => ?_) (fun c_668 => ?_)
        · exact absurd c_668 (fun q => q rfl)
        · skip
          refine z_aload_n 4 dL_law_671 rfl rfl ?_
          refine z_callV (N := mX9_digest) 0 [] [] lX9_digest ⟨zw_243, zw_244, zw_245⟩ rfl zgo_0 rfl rfl (Nat.le_of_ble_eq_true rfl) (by decide) ⟨zlt, zlt⟩ ⟨by omega, by omega⟩ (fun _ => rfl) rD dL_law_672 ?_
          refine z_lload 0 dL_law_675 rfl ?_
          refine z_lcmp dL_law_677 ?_
          refine z_if_ne (tgt := 685) dL_law_678 (by decide) (fun c_678 => ?_) (fun c_678 => ?_)
          · exact absurd c_678 (fun q => q (zL_cmp rfl))
          · skip
            refine z_iconst (v := nI 1) dL_law_681 (by decide) ?_
            refine z_goto (tgt := 686) dL_law_682 (by decide) ?_
            refine z_istore_n (lv' := [(2, .int (nI 1)), (5, .long D), (4, .int (nI (zGa wov lot shd c w 3212836864))), (3, .int (nI w)), (0, .ref 1009), (1, .ref 0)]) dL_law_686 rfl (by decide) rfl ?_
            refine z_iload_n 0 dL_law_687 rfl rfl ?_
            refine z_if_eq (tgt := 739) dL_law_688 (by decide) (fun c_688 => ?_) (fun c_688 => ?_)
            · exact absurd c_688 (fun q => absurd (q.trans nI_0.symm) (by decide))
            · skip
              refine z_aload_n 5 dL_law_691 rfl rfl ?_
              refine z_bipush (v := nI 16) dL_law_692 (by decide) ?_
              refine z_callSH (N := mL_limits) 2 [.ref 0, .int (nI 16)] [] lHL_limits ⟨zw_697, zw_698⟩ rfl rfl (Nat.le_of_ble_eq_true rfl) (by decide) ⟨zlt, zlt⟩ hG ⟨by omega, by omega⟩ r4 dL_law_694 ?_
              refine z_iconst (v := nI 1) dL_law_697 (by decide) ?_
              refine z_icmp_lt (tgt := 739) dL_law_698 (by decide) (fun c_698 => ?_) (fun c_698 => ?_)
              · exact absurd c_698 (nI_nlt d6 (by omega))
              · skip
                refine z_aload_n 5 dL_law_701 rfl rfl ?_
                refine z_callSH (N := mL_undoes) 1 [.ref 0] [] lHL_undoes ⟨zw_817, zw_818⟩ rfl rfl (Nat.le_of_ble_eq_true rfl) (by decide) ⟨zlt, zlt⟩ hG ⟨by omega, by omega⟩ r5 dL_law_702 ?_
                refine z_if_lt (tgt := 739) dL_law_705 (by decide) (fun c_705 => ?_) (fun c_705 => ?_)
                · exact absurd c_705 (nI_pos (by omega))
                · skip
                  refine z_aload_n 5 dL_law_708 rfl rfl ?_
                  refine z_iconst (v := nI 2) dL_law_709 (by decide) ?_
                  refine z_callSH (N := mL_whole) 2 [.ref 0, .int (nI 2)] [] lHL_whole ⟨zw_810, zw_811⟩ rfl rfl (Nat.le_of_ble_eq_true rfl) (by decide) ⟨zlt, zlt⟩ hG ⟨by omega, by omega⟩ r6 dL_law_710 ?_
                  refine z_iload_n 3 dL_law_713 rfl rfl ?_
                  refine z_icmp_ne (tgt := 739) dL_law_714 (by decide) (fun c_714 => ?_) (fun c_714 => ?_)
                  · exact absurd c_714 (fun q => q rfl)
                  · skip
                    refine z_aload_n 5 dL_law_717 rfl rfl ?_
                    refine z_bipush (v := nI 9) dL_law_718 (by decide) ?_
                    refine z_callSH (N := mL_whole) 2 [.ref 0, .int (nI 9)] [] lHL_whole ⟨zw_810, zw_811⟩ rfl rfl (Nat.le_of_ble_eq_true rfl) (by decide) ⟨zlt, zlt⟩ hG ⟨by omega, by omega⟩ r7 dL_law_720 ?_
                    refine z_iload 2 dL_law_723 rfl ?_
                    refine z_icmp_ne (tgt := 739) dL_law_725 (by decide) (fun c_725 => ?_) (fun c_725 => ?_)
                    · exact absurd c_725 (fun q => q rfl)
                    · skip
                      refine z_aload_n 5 dL_law_728 rfl rfl ?_
                      refine z_callS (N := mL_holds) 1 [.ref 0] [] lL_holds ⟨zw_828, zw_829⟩ rfl rfl rfl (Nat.le_of_ble_eq_true rfl) (by decide) ⟨zlt, zlt⟩ hG ⟨by omega, by omega⟩ (h_holdsS hG g3) dL_law_729 ?_
                      refine z_if_eq (tgt := 739) dL_law_732 (by decide) (fun c_732 => ?_) (fun c_732 => ?_)
                      · exact absurd c_732 (by decide)
                      · skip
                        refine z_iconst (v := 1) dL_law_735 (by decide) ?_
                        refine z_goto (tgt := 740) dL_law_736 (by decide) ?_
                        exact z_zret rfl (by decide) dL_law_740 rfl rfl (by omega) (by omega)
set_option maxHeartbeats 4000000 in
set_option maxRecDepth 100000 in
theorem law_lot {G : zT} {mc ms cells slots : Nat} {c r w lim : Nat} {tol : Int32} {cart wov lot sew mis : Nat → Int32} {cnt : Nat} {col len lef sbt : Nat → Int32} {shd : Nat → UInt32} {X : zXr} {Y : zYr} {out : Nat → Int64} (hG : zAl G = false) (hL : zAd G 1999 ≤ 260) (h : pGd (c, r, w, lim, tol, cart, wov, lot, sew, mis, cnt, col, len, lef, sbt, shd) X) (hk : cnt < 9) (hc : cells ≤ mc) (hs : slots ≤ ms) (K : ∀ S2 X2, pGd S2 X2 → S2.2.2.2.2.2.2.2.2.2.2.1 = cnt + 1 → ∃ h', zPW G mL_law mc ms (.inr (some (.int 1))) h' cells slots 50 [(0, .ref 1009), (1, .ref 0), (2, .int (nI 1)), (3, .int (nI (cnt + 1)))] [] (zHp S2 X2 Y out)) : ∃ h', zPW G mL_law mc ms (.inr (some (.int 1))) h' cells slots 50 [(0, .ref 1009), (1, .ref 0), (2, .int (nI 1)), (3, .int (nI cnt))] [] (zHp (c, r, w, lim, tol, cart, wov, lot, sew, mis, cnt, col, len, lef, sbt, shd) X Y out) := by
  obtain ⟨t, ht, r1⟩ := c_cell (H := zHp (c, r, w, lim, tol, cart, wov, lot, sew, mis, cnt, col, len, lef, sbt, shd) X Y out) hG hL (j := 2 + cnt) (by omega)
  obtain ⟨r2, g⟩ := s_lots (Y := Y) (out := out) hG h (v := cnt % 5) (l := 1 + t % 300) (s := 1065353216 + t / 512 % 40000000) (by omega) (by omega) (by omega) (by omega) (by omega)
  obtain ⟨h', K9⟩ := K _ _ g rfl
  refine ⟨h', ?_⟩
  refine z_iload_n 3 dL_law_50 rfl rfl ?_
  refine z_bipush (v := nI 9) dL_law_51 (by decide) ?_
  refine z_icmp_ge (tgt := 112) dL_law_53 (by decide) (fun c_53 => ?_) (fun c_53 => ?_)
  · exact absurd c_53 (nI_ge hk (by omega))
  · skip
    refine z_iload_n 2 dL_law_56 rfl rfl ?_
    refine z_if_eq (tgt := 112) dL_law_57 (by decide) (fun c_57 => ?_) (fun c_57 => ?_)
    · exact absurd c_57 (fun q => absurd (q.trans nI_0.symm) (by decide))
    · skip
      refine z_aload_n 0 dL_law_60 rfl rfl ?_
      refine z_iconst (v := nI 2) dL_law_61 (by decide) ?_
      refine z_iload_n 3 dL_law_62 rfl rfl ?_
      refine z_iadd dL_law_63 ?_
      refine z_top (v2 := .int (nI (2 + cnt))) (congrArg Value.int (nI_add _ _)) ?_
      refine z_callS (N := mL_cell) 2 [.ref 1009, .int (nI (2 + cnt))] [] lL_cell ⟨zw_475, zw_476⟩ rfl rfl rfl (Nat.le_of_ble_eq_true rfl) (by decide) ⟨zlt, zlt⟩ hG ⟨by omega, by omega⟩ r1 dL_law_64 ?_
      refine z_istore (lv' := [(4, .int (nI t)), (0, .ref 1009), (1, .ref 0), (2, .int (nI 1)), (3, .int (nI cnt))]) dL_law_67 (by decide) rfl ?_
      refine z_aload_n 2 dL_law_69 rfl rfl ?_
      refine z_iload_n 4 dL_law_70 rfl rfl ?_
      refine z_iconst (v := nI 5) dL_law_71 (by decide) ?_
      refine z_irem dL_law_72 (by exact nI_ne0 (by omega) (by omega)) ?_
      refine z_top (v2 := .int (nI (cnt % 5))) (congrArg Value.int (pk_rem (by omega) (by omega) (by omega))) ?_
      refine z_iconst (v := nI 1) dL_law_73 (by decide) ?_
      refine z_iload 0 dL_law_74 rfl ?_
      refine z_sipush (v := nI 300) dL_law_76 (by decide) ?_
      refine z_irem dL_law_79 (by exact nI_ne0 (by omega) (by omega)) ?_
      refine z_top (v2 := .int (nI (t % 300))) (congrArg Value.int (pk_rem (by omega) (by omega) (by omega))) ?_
      refine z_iadd dL_law_80 ?_
      refine z_top (v2 := .int (nI (1 + (t % 300)))) (congrArg Value.int (nI_add _ _)) ?_
      refine z_ldc zw_922 dL_law_81 ?_
      refine z_top (v2 := .int (nI 1065353216)) (by first | rfl | decide) ?_
      refine z_iload 0 dL_law_83 rfl ?_
      refine z_sipush (v := nI 512) dL_law_85 (by decide) ?_
      refine z_idiv dL_law_88 (by exact nI_ne0 (by omega) (by omega)) ?_
      refine z_top (v2 := .int (nI (t / 512))) (congrArg Value.int (pk_div (by omega) (by omega) (by omega))) ?_
      refine z_ldc zw_923 dL_law_89 ?_
      refine z_top (v2 := .int (nI 40000000)) (by first | rfl | decide) ?_
      refine z_irem dL_law_91 (by exact nI_ne0 (by omega) (by omega)) ?_
      refine z_top (v2 := .int (nI ((t / 512) % 40000000))) (congrArg Value.int (pk_rem (by omega) (by omega) (by omega))) ?_
      refine z_iadd dL_law_92 ?_
      refine z_top (v2 := .int (nI (1065353216 + ((t / 512) % 40000000)))) (congrArg Value.int (nI_add _ _)) ?_
      refine z_callSH (N := mL_lots) 4 [.ref 0, .int (nI (cnt % 5)), .int (nI (1 + (t % 300))), .int (nI (1065353216 + ((t / 512) % 40000000)))] [] lHL_lots ⟨zw_670, zw_671⟩ rfl rfl (Nat.le_of_ble_eq_true rfl) (by decide) ⟨zlt, zlt⟩ hG ⟨by omega, by omega⟩ r2 dL_law_93 ?_
      refine z_iload_n 4 dL_law_96 rfl rfl ?_
      refine z_icmp_ne (tgt := 104) dL_law_97 (by decide) (fun c_97 => ?_) (fun c_97 => ?_)
      · exact absurd c_97 (fun q => q rfl)
      · skip
        refine z_iconst (v := nI 1) dL_law_100 (by decide) ?_
        refine z_goto (tgt := 105) dL_law_101 (by decide) ?_
        refine z_istore_n (lv' := [(2, .int (nI 1)), (4, .int (nI t)), (0, .ref 1009), (1, .ref 0), (3, .int (nI cnt))]) dL_law_105 rfl (by decide) rfl ?_
        refine z_iinc (v := nI (cnt + 1)) (lv' := [(3, .int (nI (cnt + 1))), (2, .int (nI 1)), (4, .int (nI t)), (0, .ref 1009), (1, .ref 0)]) 4 dL_law_106 rfl (nI_1 cnt) (by decide) rfl ?_
        refine z_goto (tgt := 50) dL_law_109 (by decide) ?_
        refine z_sub [3, 4, 1, 0] (lv' := [(0, .ref 1009), (1, .ref 0), (2, .int (nI 1)), (3, .int (nI (cnt + 1)))]) rfl ?_
        exact z_widen hG (by omega) (by omega) K9
set_option maxHeartbeats 4000000 in
set_option maxRecDepth 100000 in
theorem law_lots {G : zT} {mc ms cells slots : Nat} {Y : zYr} {out : Nat → Int64} (hG : zAl G = false) (hL : zAd G 1999 ≤ 260) (hc : cells ≤ mc) (hs : slots ≤ ms) (K : ∀ S2 X2, pGd S2 X2 → ∃ h', zPW G mL_law mc ms (.inr (some (.int 1))) h' cells slots 112 [(0, .ref 1009), (1, .ref 0), (2, .int (nI 1))] [] (zHp S2 X2 Y out)) : ∀ (n : Nat) (S2 : zS) (X2 : zXr), n + S2.2.2.2.2.2.2.2.2.2.2.1 = 9 → pGd S2 X2 → ∃ h', zPW G mL_law mc ms (.inr (some (.int 1))) h' cells slots 50 [(0, .ref 1009), (1, .ref 0), (2, .int (nI 1)), (3, .int (nI S2.2.2.2.2.2.2.2.2.2.2.1))] [] (zHp S2 X2 Y out)
  | 0, S2, X2, e, h => by
    obtain ⟨h', K9⟩ := K S2 X2 h
    refine ⟨h', ?_⟩
    refine z_iload_n 3 dL_law_50 rfl rfl ?_
    refine z_bipush (v := nI 9) dL_law_51 (by decide) ?_
    refine z_icmp_ge (tgt := 112) dL_law_53 (by decide) (fun _ => ?_) (fun q => absurd (nI_le (by omega) (by omega)) q)
    exact z_sub [0, 1, 2] rfl K9
  | n + 1, S2, X2, e, h => by
    obtain ⟨c, r, w, lim, tol, cart, wov, lot, sew, mis, cnt, col, len, lef, sbt, shd⟩ := S2
    dsimp only at e ⊢
    exact law_lot hG hL h (by omega) hc hs (fun S3 X3 g q => by
      have k := law_lots hG hL hc hs K n S3 X3 (by omega) g
      rw [q] at k
      exact k)

set_option maxHeartbeats 4000000 in
set_option maxRecDepth 100000 in
theorem law_first {G : zT} {mc ms cells slots : Nat} {c r w lim : Nat} {tol : Int32} {cart wov lot sew mis : Nat → Int32} {cnt : Nat} {col len lef sbt : Nat → Int32} {shd : Nat → UInt32} {X : zXr} {Y : zYr} {out : Nat → Int64} (hG : zAl G = false) (hL : zAd G 1999 ≤ 260) (h : pGd (c, r, w, lim, tol, cart, wov, lot, sew, mis, cnt, col, len, lef, sbt, shd) X) (hw0 : w = 0) (hc : cells ≤ mc) (hs : slots ≤ ms) (K : ∀ S2 X2, pGd S2 X2 → S2.2.2.2.2.2.2.2.2.2.2.1 = cnt → ∃ h', zPW G mL_law mc ms (.inr (some (.int 1))) h' cells slots 50 [(0, .ref 1009), (1, .ref 0), (2, .int (nI 1)), (3, .int (nI 0))] [] (zHp S2 X2 Y out)) : ∃ h', zPW G mL_law mc ms (.inr (some (.int 1))) h' cells slots 8 [(1, .ref 0), (0, .ref 1009)] [] (zHp (c, r, w, lim, tol, cart, wov, lot, sew, mis, cnt, col, len, lef, sbt, shd) X Y out) := by
  obtain ⟨t, ht, r1⟩ := c_cell (H := zHp (c, r, w, lim, tol, cart, wov, lot, sew, mis, cnt, col, len, lef, sbt, shd) X Y out) hG hL (j := 0) (by omega)
  obtain ⟨u, hu, r2⟩ := c_cell (H := zHp (c, r, w, lim, tol, cart, wov, lot, sew, mis, cnt, col, len, lef, sbt, shd) X Y out) hG hL (j := 1) (by omega)
  obtain ⟨r3, g⟩ := s_begin (Y := Y) (out := out) hG h (a := (1 + t % 20)) (b := (1 + u % 16)) (by omega) (by omega) (by omega) (by omega)
  obtain ⟨h', K9⟩ := K _ _ g rfl
  refine ⟨h', ?_⟩
  refine z_aload_n 0 dL_law_8 rfl rfl ?_
  refine z_callS (N := mL_holds) 1 [.ref 0] [] lL_holds ⟨zw_828, zw_829⟩ rfl rfl rfl (Nat.le_of_ble_eq_true rfl) (by decide) ⟨zlt, zlt⟩ hG ⟨by omega, by omega⟩ (h_holdsS hG h) dL_law_9 ?_
  refine z_if_eq (tgt := 46) dL_law_12 (by decide) (fun c_12 => ?_) (fun c_12 => ?_)
  · exact absurd c_12 (by decide)
  · skip
    refine z_aload_n 0 dL_law_15 rfl rfl ?_
    refine z_iconst (v := nI 1) dL_law_16 (by decide) ?_
    refine z_aload_n 1 dL_law_17 rfl rfl ?_
    refine z_iconst (v := nI 0) dL_law_18 (by decide) ?_
    refine z_callS (N := mL_cell) 2 [.ref 1009, .int (nI 0)] [.int (nI 1), .ref 0] lL_cell ⟨zw_475, zw_476⟩ rfl rfl rfl (Nat.le_of_ble_eq_true rfl) (by decide) ⟨zlt, zlt⟩ hG ⟨by omega, by omega⟩ r1 dL_law_19 ?_
    refine z_bipush (v := nI 20) dL_law_22 (by decide) ?_
    refine z_irem dL_law_24 (by exact nI_ne0 (by omega) (by omega)) ?_
    refine z_top (v2 := .int (nI (t % 20))) (congrArg Value.int (pk_rem (by omega) (by omega) (by omega))) ?_
    refine z_iadd dL_law_25 ?_
    refine z_top (v2 := .int (nI (1 + (t % 20)))) (congrArg Value.int (nI_add _ _)) ?_
    refine z_iconst (v := nI 1) dL_law_26 (by decide) ?_
    refine z_aload_n 1 dL_law_27 rfl rfl ?_
    refine z_iconst (v := nI 1) dL_law_28 (by decide) ?_
    refine z_callS (N := mL_cell) 2 [.ref 1009, .int (nI 1)] [.int (nI 1), .int (nI (1 + (t % 20))), .ref 0] lL_cell ⟨zw_475, zw_476⟩ rfl rfl rfl (Nat.le_of_ble_eq_true rfl) (by decide) ⟨zlt, zlt⟩ hG ⟨by omega, by omega⟩ r2 dL_law_29 ?_
    refine z_bipush (v := nI 16) dL_law_32 (by decide) ?_
    refine z_irem dL_law_34 (by exact nI_ne0 (by omega) (by omega)) ?_
    refine z_top (v2 := .int (nI (u % 16))) (congrArg Value.int (pk_rem (by omega) (by omega) (by omega))) ?_
    refine z_iadd dL_law_35 ?_
    refine z_top (v2 := .int (nI (1 + (u % 16)))) (congrArg Value.int (nI_add _ _)) ?_
    refine z_callSH (N := mL_begins) 3 [.ref 0, .int (nI (1 + (t % 20))), .int (nI (1 + (u % 16)))] [] lHL_begins ⟨zw_480, zw_481⟩ rfl rfl (Nat.le_of_ble_eq_true rfl) (by decide) ⟨zlt, zlt⟩ hG ⟨by omega, by omega⟩ r3 dL_law_36 ?_
    refine z_if_ne (tgt := 46) dL_law_39 (by decide) (fun c_39 => ?_) (fun c_39 => ?_)
    · exact absurd c_39 (fun q => q (by rw [hw0]; rfl))
    · skip
      refine z_iconst (v := nI 1) dL_law_42 (by decide) ?_
      refine z_goto (tgt := 47) dL_law_43 (by decide) ?_
      refine z_istore_n (lv' := [(2, .int (nI 1)), (1, .ref 0), (0, .ref 1009)]) dL_law_47 rfl (by decide) rfl ?_
      refine z_iconst (v := nI 0) dL_law_48 (by decide) ?_
      refine z_istore_n (lv' := [(3, .int (nI 0)), (2, .int (nI 1)), (1, .ref 0), (0, .ref 1009)]) dL_law_49 rfl (by decide) rfl ?_
      refine z_sub [3, 2, 1, 0] (lv' := [(0, .ref 1009), (1, .ref 0), (2, .int (nI 1)), (3, .int (nI 0))]) rfl ?_
      exact z_widen hG (by omega) (by omega) K9
set_option maxHeartbeats 4000000 in
set_option maxRecDepth 100000 in
theorem law_sw {G : zT} {mc ms cells slots : Nat} {c r w lim : Nat} {tol : Int32} {cart wov lot sew mis : Nat → Int32} {cnt : Nat} {col len lef sbt : Nat → Int32} {shd : Nat → UInt32} {X : zXr} {Y : zYr} {out : Nat → Int64} {t k : Nat} (hG : zAl G = false) (hL : zAd G 1999 ≤ 260) (h : pGd (c, r, w, lim, tol, cart, wov, lot, sew, mis, cnt, col, len, lef, sbt, shd) X) (ht : t < 2 ^ 31) (hc : cells + 1 ≤ mc) (hs : slots + 6 ≤ ms) (K : ∀ S2 X2, pGd S2 X2 → ∃ h', zPW G mL_law mc ms (.inr (some (.int 1))) h' (cells + 1) (slots + 6) 587 [(0, .ref 1009), (1, .ref 0), (2, .int (nI 1)), (3, .int (nI k))] [] (zHp S2 X2 Y out)) : ∃ h', zPW G mL_law mc ms (.inr (some (.int 1))) h' cells slots 167 [(8, .int (nI w)), (7, .int (nI r)), (6, .int (nI c)), (5, .int (nI (t / 8))), (4, .int (nI t)), (0, .ref 1009), (1, .ref 0), (2, .int (nI 1)), (3, .int (nI k))] [.int (nI (t % 8))] (zHp (c, r, w, lim, tol, cart, wov, lot, sew, mis, cnt, col, len, lef, sbt, shd) X Y out) := by
  have hq : t % 8 = 0 ∨ t % 8 = 1 ∨ t % 8 = 2 ∨ t % 8 = 3 ∨ t % 8 = 4 ∨ t % 8 = 5 ∨ t % 8 = 6 ∨ t % 8 = 7 := by omega
  rcases hq with e | e | e | e | e | e | e | e
  · rw [e]
    obtain ⟨h', k9⟩ := law_c0 (z := t / 8) hG hL h (by omega) hc hs K
    exact ⟨h', z_tableIn (off := 37) (tgt := 204) dL_law_167 (by decide +kernel) (by decide +kernel) (by decide +kernel) (by decide) k9⟩
  · rw [e]
    obtain ⟨h', k9⟩ := law_c0 (z := t / 8) hG hL h (by omega) hc hs K
    exact ⟨h', z_tableIn (off := 37) (tgt := 204) dL_law_167 (by decide +kernel) (by decide +kernel) (by decide +kernel) (by decide) k9⟩
  · rw [e]
    obtain ⟨h', k9⟩ := law_c2 (z := t / 8) hG hL h (by omega) hc hs K
    exact ⟨h', z_tableIn (off := 134) (tgt := 301) dL_law_167 (by decide +kernel) (by decide +kernel) (by decide +kernel) (by decide) k9⟩
  · rw [e]
    by_cases q : 1 + t / 8 % 4 ≤ w
    · obtain ⟨h', k9⟩ := law_c3 (z := t / 8) hG hL h q (by omega) hc hs K
      exact ⟨h', z_tableIn (off := 173) (tgt := 340) dL_law_167 (by decide +kernel) (by decide +kernel) (by decide +kernel) (by decide) k9⟩
    · obtain ⟨h', k9⟩ := law_c3b (z := t / 8) hG hL h (Nat.lt_of_not_le q) (by omega) hc hs K
      exact ⟨h', z_tableIn (off := 173) (tgt := 340) dL_law_167 (by decide +kernel) (by decide +kernel) (by decide +kernel) (by decide) k9⟩
  · rw [e]
    by_cases q : (t / 8 % (zSc wov c w lim + 1)) < zSc wov c w lim
    · cases q2 : pSs wov sew c w lim (t / 8 % (zSc wov c w lim + 1)) with
      | false =>
        obtain ⟨h', k9⟩ := law_c4 (z := t / 8) hG hL h q q2 (by omega) hc hs K
        exact ⟨h', z_tableIn (off := 243) (tgt := 410) dL_law_167 (by decide +kernel) (by decide +kernel) (by decide +kernel) (by decide) k9⟩
      | true =>
        obtain ⟨h', k9⟩ := law_c4c (z := t / 8) hG hL h q q2 (by omega) hc hs K
        exact ⟨h', z_tableIn (off := 243) (tgt := 410) dL_law_167 (by decide +kernel) (by decide +kernel) (by decide +kernel) (by decide) k9⟩
    · obtain ⟨h', k9⟩ := law_c4b (z := t / 8) hG hL h (Nat.le_of_not_lt q) (by omega) hc hs K
      exact ⟨h', z_tableIn (off := 243) (tgt := 410) dL_law_167 (by decide +kernel) (by decide +kernel) (by decide +kernel) (by decide) k9⟩
  · rw [e]
    obtain ⟨h', k9⟩ := law_c5 (z := t / 8) hG hL h (by omega) hc hs K
    exact ⟨h', z_tableIn (off := 330) (tgt := 497) dL_law_167 (by decide +kernel) (by decide +kernel) (by decide +kernel) (by decide) k9⟩
  · rw [e]
    obtain ⟨h', k9⟩ := law_c6 (z := t / 8) hG hL h (by omega) hc hs K
    exact ⟨h', z_tableOut (tgt := 537) dL_law_167 (by decide +kernel) (by decide) k9⟩
  · rw [e]
    obtain ⟨h', k9⟩ := law_c6 (z := t / 8) hG hL h (by omega) hc hs K
    exact ⟨h', z_tableOut (tgt := 537) dL_law_167 (by decide +kernel) (by decide) k9⟩
set_option maxHeartbeats 4000000 in
set_option maxRecDepth 100000 in
theorem law_ops {G : zT} {mc ms : Nat} {Y : zYr} {out : Nat → Int64} (hG : zAl G = false) (hL : zAd G 1999 ≤ 260) : ∀ (n k cells slots : Nat) (S2 : zS) (X2 : zXr), n + k = 36 → cells + n + 4 ≤ mc → slots + 6 * n + 24 ≤ ms → pGd S2 X2 → ∃ h', zPW G mL_law mc ms (.inr (some (.int 1))) h' cells slots 114 [(0, .ref 1009), (1, .ref 0), (2, .int (nI 1)), (3, .int (nI k))] [] (zHp S2 X2 Y out)
  | 0, k, cells, slots, S2, X2, e, h1, h2, h => by
    obtain ⟨c, r, w, lim, tol, cart, wov, lot, sew, mis, cnt, col, len, lef, sbt, shd⟩ := S2
    obtain ⟨h', k9⟩ := law_tail (Y := Y) (out := out) (mc := mc) (ms := ms) (cells := cells) (slots := slots) hG hL h (by omega) (by omega)
    exact ⟨h', law_exit (by omega) (by omega) k9⟩
  | n + 1, k, cells, slots, S2, X2, e, h1, h2, h => by
    obtain ⟨c, r, w, lim, tol, cart, wov, lot, sew, mis, cnt, col, len, lef, sbt, shd⟩ := S2
    exact law_head hG hL h (by omega) (by omega) (by omega) (fun t ht => law_sw hG hL h ht (by omega) (by omega) (fun S3 X3 g => law_end hG g (by omega) (by omega) (law_ops hG hL n (k + 1) (cells + 1) (slots + 6) S3 X3 (by omega) (by omega) (by omega) g)))
/-- from the making's end to the law's -/
theorem law_all {G : zT} {mc ms cells slots : Nat} {Y : zYr} {out : Nat → Int64} {S2 : zS} {X2 : zXr} (hG : zAl G = false) (hL : zAd G 1999 ≤ 260) (h : pGd S2 X2) (hw : S2.2.2.1 = 0) (hn : S2.2.2.2.2.2.2.2.2.2.2.1 = 0) (hc : cells + 40 ≤ mc) (hs : slots + 240 ≤ ms) : ∃ h', zPW G mL_law mc ms (.inr (some (.int 1))) h' cells slots 8 [(1, .ref 0), (0, .ref 1009)] [] (zHp S2 X2 Y out) := by
  obtain ⟨c, r, w, lim, tol, cart, wov, lot, sew, mis, cnt, col, len, lef, sbt, shd⟩ := S2
  dsimp only at hw hn
  refine law_first hG hL h hw (by omega) (by omega) (fun S3 X3 g e => ?_)
  have k := law_lots (Y := Y) (out := out) (mc := mc) (ms := ms) (cells := cells) (slots := slots) hG hL (by omega) (by omega) (fun S4 X4 g4 => ?_) 9 S3 X3 (by omega) g
  · rw [e, hn] at k
    exact k
  · obtain ⟨h', k9⟩ := law_ops (Y := Y) (out := out) (mc := mc) (ms := ms) hG hL 36 0 cells slots S4 X4 rfl (by omega) (by omega) g4
    refine ⟨h', ?_⟩
    refine z_iconst (v := nI 0) dL_law_112 (by decide) ?_
    refine z_istore_n (lv' := [(3, .int (nI 0)), (0, .ref 1009), (1, .ref 0), (2, .int (nI 1))]) dL_law_113 rfl (by decide) rfl ?_
    exact z_sub [1, 2, 3, 0] rfl k9

