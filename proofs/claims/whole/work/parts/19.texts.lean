theorem z_ishr {G : zT} {M : zN} {mc ms : Nat} {o : zO} {h' : zH} {cells slots pc : Nat} {lv : List (Nat × Value)} {st : List Value} {h : zH} {x y v : Int32} (hv : x >>> (y &&& 31) = v) (hd : decode (mC M) pc = .ok (.ishr, 1)) (k : zPW G M mc ms o h' cells slots (pc + 1) lv (.int v :: st) h) : zPW G M mc ms o h' cells slots pc lv (.int y :: .int x :: st) h := by
  subst hv
  exact fun p e s m args below meth c A H locs ls C N hl => lv_ishr C.1 C.2.1 hd (k p e s m args below meth c A H locs ls C N hl)
theorem z_i2c {G : zT} {M : zN} {mc ms : Nat} {o : zO} {h' : zH} {cells slots pc : Nat} {lv : List (Nat × Value)} {st : List Value} {h : zH} {x v : Int32} (hv : (x.toUInt32 % 65536).toInt32 = v) (hd : decode (mC M) pc = .ok (.i2c, 1)) (k : zPW G M mc ms o h' cells slots (pc + 1) lv (.int v :: st) h) : zPW G M mc ms o h' cells slots pc lv (.int x :: st) h :=
  fun p e s m args below meth c A H locs ls C N hl => lv_i2c C.1 C.2.1 hd hv (k p e s m args below meth c A H locs ls C N hl)
theorem z_nret {G : zT} {M : zN} {mc ms : Nat} {o : zO} {h' : zH} {cells slots pc : Nat} {lv : List (Nat × Value)} {h : zH} {x : Int32} {ty : FieldType} (hr : mR M = some ty) (hn : narrow ty (.int x) = .int x) (hd : decode (mC M) pc = .ok (.ireturn, 1)) (ho : o = .inr (some (.int x))) (hh : h = h') (hc : cells ≤ mc) (hs : slots ≤ ms) : zPW G M mc ms o h' cells slots pc lv [.int x] h := by
  intro p e s m args below meth c A H locs ls C N hl
  subst hh
  refine W.widen hc hs (vx_ret ?_)
  exact W.zret C.1 C.2.1 (C.2.2.2.1.trans hr) hn (fun t ht hW => ⟨⟨_, ho, rfl, by rw [show t.heap = H from ht]; exact N.1, N.2.1⟩, N.2.2.1.F ht⟩) N.2.2.1.2.2 hd C.2.2.2.2.1
/-- a call on a text -/
theorem z_callK {G : zT} {M N : zN} {mc ms mc1 ms1 : Nat} {o : zO} {h h1 h' : zH} {cells slots pc : Nat} {lv : List (Nat × Value)} {stk : List Value} {r : Option Value} {idx j : Nat} (n : Nat) (As st : List Value)
    (hN : zCal N n) (hw : Cond.methodLink (mO M) idx (mY N) ∈ zG ∧ Cond.instanceMethod (mY N) ∈ zG ∧ Cond.selects (mY N).cls (mY N) (mY N) ∈ zG) (hc : (mY N).cls = "java/lang/String") (hj : j < 8)
    (hst : stk = As.reverse ++ .ref (1010 + j) :: st) (hn : As.length = n) (hcat : (st.map fun v => v.category).sum ≤ 8) (hdp : mD N + 1 ≤ mD M) (hsm : h1.length < 1000) (hal0 : zAl G = false) (hfit : cells + mc1 ≤ mc ∧ slots + ms1 ≤ ms)
    (hR : zRun G N mc1 ms1 (.ref (1010 + j) :: As) h (.inr r) h1) (hd : decode (mC M) pc = .ok (.invokevirtual idx, 3))
    (k : zPW G M mc ms o h' (cells + mc1) (slots + ms1) (pc + 3) lv (r.toList ++ st) h1) : zPW G M mc ms o h' cells slots pc lv stk h := by
  intro p e s m args below meth c A H locs ls C N9 hl
  subst hst
  obtain ⟨hh, hcd, hini, hnm, hnl⟩ := hN
  obtain ⟨hws, hgood⟩ := z_ws hh hcd
  have hpre := z_pre (av := .ref (1010 + j) :: As) C N9 (fun z => by rw [hal0] at z; cases z)
  have hrecv := vk_recv C.2.2.2.2.2.2.2.2.1.2.2.2.2.2.1 hj N9.2.2.1
  have hgi : GoodIn zG (wsV (mO M) idx (mY N).cls (mY N) (zWs N)) := by
    intro w hw9
    rcases List.mem_append.mp hw9 with h9 | h9
    · simp only [List.mem_cons, List.not_mem_nil, or_false] at h9
      rcases h9 with rfl | rfl | rfl | rfl
      · exact zG_good _ hw.1
      · exact zG_good _ hw.2.1
      · exact zG_good _ hw.2.2
      · exact zG_good _ hini
    · exact hgood w h9
  have cw : CallW (zR M mc ms) s args (mO M) (mY N).cls idx (mY N) (mC N) (mN N) (mR N) (zWs N) (zR N mc1 ms1) mc1 ms1 n := cwV n C.2.2.2.2.2.2.1 hgi hws rfl rfl ⟨rfl, hnm⟩ (z_room hdp hnl)
  rw [show (As.reverse ++ .ref (1010 + j) :: st).map (zv (zAd G)) = (As.map (zv (zAd G))).reverse ++ .ref (zAd G (1010 + j)) :: st.map (zv (zAd G)) by rw [List.map_append, List.map_reverse]; rfl]
  exact z_after C N9 hl (fun z => by rw [hal0] at z; cases z) hsm (va_runV (As := As.map (zv (zAd G))) (rest := st.map (zv (zAd G))) ⟨C.1, C.2.1, C.2.2.1, C.2.2.2.2.2.1, C.2.2.2.2.2.2.1⟩ (hR.met H.size) cw ⟨hpre.1, by rw [hc]; exact hrecv, fun U hU hW => hpre.2 U hU hW⟩ rfl (by rw [List.length_map]; exact hn) hl.1 rfl (z_cats hcat) hd (z_fit hfit)) k
/-- the check of an index: what stands in the third place is never looked at -/
def m9Ck : zN := (RJ3, yJ3_checkIndex_8e157, cJ3_checkIndex_8e157, 3, some .int, 1, [])
theorem l9Ck : zCal m9Ck 3 := ⟨rfl, zw_492, zw_128, ⟨by decide +kernel, by decide +kernel, by decide +kernel⟩, by decide⟩
theorem z_ckMet {G : zT} {h : zH} {i n : Nat} {v : Value} (hv : v.category = 1) (hin : i < n) (hn : n < 2 ^ 31) (sz : Nat) : Met (zL G) (mY m9Ck) (zWs m9Ck) (zR m9Ck 0 0) (va_Pc [.int (nI i), .int (nI n), v] (zPre G h sz)) (zQ G (.inr (some (.int (nI i)))) h (va_A (zWd G h) sz)) 0 0 (va_A (zWd G h) sz) := by
  have k : ∀ (o9 : zO), (Sum.inr (some (.int (nI i))) : zO) = o9 → zPW G m9Ck 0 0 o9 h 0 0 0 [(0, .int (nI i)), (1, .int (nI n))] [] h := by
    intro o9 ho9
    refine z_iload_n 0 dJ3_checkIndex_8e157_0 rfl rfl ?_
    refine z_if_lt (tgt := 9) dJ3_checkIndex_8e157_1 (by decide) (fun c_1 => absurd c_1 (nI_pos (by omega))) (fun c_1 => ?_)
    refine z_iload_n 0 dJ3_checkIndex_8e157_4 rfl rfl ?_
    refine z_iload_n 1 dJ3_checkIndex_8e157_5 rfl rfl ?_
    refine z_icmp_lt (tgt := 16) dJ3_checkIndex_8e157_6 (by decide) (fun c_6 => ?_) (fun c_6 => absurd ((nI_ltI (by omega) hn).mpr hin) c_6)
    refine z_iload_n 0 dJ3_checkIndex_8e157_16 rfl rfl ?_
    exact z_iret rfl dJ3_checkIndex_8e157_17 ho9.symm rfl (Nat.le_refl 0) (Nat.le_refl 0)
  have q : vx_Met (zL G) (mY m9Ck) (zWs m9Ck) (zR m9Ck 0 0) (va_Pc [.int (nI i), .int (nI n), v] (zPre G h sz)) (zQ G (.inr (some (.int (nI i)))) h (va_A (zWd G h) sz)) (zX G (.inr (some (.int (nI i)))) h (va_A (zWd G h) sz)) 0 0 (va_A (zWd G h) sz) := by
    refine vx_ofW (cc := mC m9Ck) (maxL := mN m9Ck) (ret := mR m9Ck) (ws' := zG) (by decide +kernel) rfl ?_
    intro p e s m args below meth c s₁ B hml ht hv9
    obtain ⟨rfl, hsz, hK, hKh, hP, hD0, hal⟩ := hv9
    subst hsz
    have hts := atoms_spec (ws := zWs m9Ck) B.pre
    have hS : va_S (va_A (zWd G h) s.heap.size) s.heap s.heap [] := va_S.rf
    have hl := lv_entry [.int (nI i), .int (nI n), v] (n := mN m9Ck) (by cases v <;> first | exact Nat.le_refl 3 | (exact absurd hv (by intro q; cases q)))
    rw [lg_entry_eq]
    exact k _ rfl p e s m _ below meth c _ s.heap [] _ ⟨B.exec, B.bytes, hml, B.returns, B.notSynchronized, findClass_of_methodNamed B.named, fun w hw => hts w (List.mem_cons_of_mem _ hw), hK, hKh, fun q hq => Or.inr hq, (name_of_methodNamed B.named B.method).1, zTab ht⟩ ⟨hP, hD0.self, hS, fun z => hal z⟩ ⟨hl.1, hl.2.1, fun q hq => hl.2.2 q (by
      rcases List.mem_cons.mp hq with rfl | hq
      · exact List.mem_cons_self
      · rcases List.mem_cons.mp hq with rfl | hq
        · exact List.mem_cons_of_mem _ List.mem_cons_self
        · cases hq)⟩
  exact zMet_imp q fun a s o t z => by
    rcases z with z | ⟨z, -, E, ce, L, ⟨⟨e, -⟩, -⟩, -⟩
    · exact z
    · cases e
/-- a callee's start, over values as they are -/
theorem z_preR {G : zT} {M : zN} {h : zH} {cells : Nat} (av : List Value) {p : Program} {s : State} {m : MethodId} {args : Array Value} {meth : Method} {c : Code} {A : Nat → Prop} {H : Heap} {locs : List Loc}
    (C : zCx G M p s m args meth c A) (N : zNw G A h s H locs cells) (hsz : zAl G = true → H.size = zAd G h.length) : PreS s H (va_Pc av (zPre G h H.size)) av := by
  obtain ⟨hP, hD, hS, -⟩ := N
  have hA : ∀ q : Nat, s.heap.size ≤ q → A q := C.2.2.2.2.2.2.2.2.2.1
  have hF : ∀ q, va_A (zWd G h) H.size q → A q := va_free hD hS hA (List.range h.length) zw_all
  have hKs := C.2.2.2.2.2.2.2.1
  have hKh := C.2.2.2.2.2.2.2.2.1
  refine ⟨?_, ?_⟩
  · intro a U g mk q
    obtain ⟨q1, q2, q3, q4, q5, q6, q7⟩ := q
    exact ⟨q1, q2, q3.same rfl, q4.moved (u := U) (U := U.calling g mk a) (Vm.Alike.refl U.vm), q5, q6, q7⟩
  · intro U hU hW
    exact ⟨rfl, by rw [hU], hKs.warm hW, by rw [hU]; exact ((hKh.kept hS.2.1).narrow hF).moved hW.alike, by rw [hU]; exact hP, hD.weaken (fun _ _ _ _ => trivial), hsz⟩
theorem zw_sio : Cond.fieldLink "java/lang/String" 1053 "jdk/internal/util/Preconditions" "SIOOBE_FORMATTER" "Ljava/util/function/BiFunction;" ∈ zG := zw_488
/-- the static that formats, then the check itself -/
theorem z_sioobe {G : zT} {mc ms : Nat} {o : zO} {h' : zH} {cells slots : Nat} {lv : List (Nat × Value)} {h : zH} {i n : Nat} (hal0 : zAl G = false) (hsm : h.length < 1000) (hin : i < n) (hn : n < 2 ^ 31) (hfit : cells ≤ mc ∧ slots ≤ ms)
    (k : zPW G mJ0_checkIndex_df160 mc ms o h' cells slots 8 lv [.int (nI i)] h) : zPW G mJ0_checkIndex_df160 mc ms o h' cells slots 2 lv [.int (nI n), .int (nI i)] h := by
  intro p e s m args below meth c A H locs ls C N hl
  have hgi : GoodIn zG (va_wsS (mO mJ0_checkIndex_df160) 1059 (mY m9Ck) (zWs m9Ck)) := by
    intro w hw9
    rcases List.mem_append.mp hw9 with h9 | h9
    · simp only [List.mem_cons, List.not_mem_nil, or_false] at h9
      rcases h9 with rfl | rfl | rfl
      · exact zG_good _ zw_490
      · exact zG_good _ zw_491
      · exact zG_good _ l9Ck.2.2.1
    · exact (z_ws l9Ck.1 l9Ck.2.1).2 w h9
  have go : ∀ v : Value, v.category = 1 → W p (zL G) e (zR mJ0_checkIndex_df160 mc ms) s m args below meth c H locs cells slots (vx_MQ below (zQ G o h' A) (zX G o h' A) args s mc ms A) (F0 m (2 + 3) ls [v, .int (nI n), .int (nI i)]) := by
    intro v hv
    have hpre := z_preR [.int (nI i), .int (nI n), v] C N (fun z => by rw [hal0] at z; cases z)
    exact z_after (st := []) (pc := 5) (r := some (.int (nI i))) (mc1 := 0) (ms1 := 0) C N hl (fun z => by rw [hal0] at z; cases z) hsm (va_runS (As := [.int (nI i), .int (nI n), v]) (rest := []) ⟨C.1, C.2.1, C.2.2.1, C.2.2.2.2.2.1, C.2.2.2.2.2.2.1⟩ (z_ckMet hv hin hn H.size) (va_cwS 3 C.2.2.2.2.2.2.1 hgi (z_ws l9Ck.1 l9Ck.2.1).1 rfl rfl l9Ck.2.2.2.1 (z_room (by decide) l9Ck.2.2.2.2)) hpre rfl rfl hl.1 rfl (z_cats (ad := zAd G) (st := []) (by decide)) dJ0_checkIndex_df160_5 (z_fit hfit)) k
  have hq := C.2.2.2.2.2.2.2.2.1.2.2.2.2.2.2.2.1
  rcases hq with hq | ⟨t, hq⟩
  · exact va_gets C.1 C.2.1 hq N.2.2.1 C.2.2.2.2.2.1 (C.2.2.2.2.2.2.1 _ zw_sio) (fun _ z => z) dJ0_checkIndex_df160_2 (go .null rfl)
  · exact va_gets C.1 C.2.1 hq N.2.2.1 C.2.2.2.2.2.1 (C.2.2.2.2.2.2.1 _ zw_sio) (fun _ z => z) dJ0_checkIndex_df160_2 (go (.ref t) rfl)
theorem c_check {G : zT} {h : zH} (hG : zAl G = false) (hlen : h.length < 1000) {i n : Nat} (hin : i < n) (hn : n < 2 ^ 31) : zRun G mJ0_checkIndex_df160 0 0 [.int (nI i), .int (nI n)] h (.inr none) h := by
  refine zRun_of (by decide +kernel) rfl rfl (Nat.le_of_ble_eq_true rfl) ?_
  refine z_iload_n 0 dJ0_checkIndex_df160_0 rfl rfl ?_
  refine z_iload_n 1 dJ0_checkIndex_df160_1 rfl rfl ?_
  refine z_sioobe hG hlen hin hn ⟨Nat.le_refl 0, Nat.le_refl 0⟩ ?_
  refine z_pop dJ0_checkIndex_df160_8 rfl ?_
  exact z_vret rfl dJ0_checkIndex_df160_9 rfl rfl (Nat.le_refl 0) (Nat.le_refl 0)

theorem c_coder {G : zT} {h : zH} (hG : zAl G = false) (hlen : h.length < 1000) {j : Nat} (hj : j < 8) : zRun G mJ0_coder_7d493 0 0 [.ref (1010 + j)] h (.inr (some (.int 0))) h := by
  refine zRun_of (by decide +kernel) rfl rfl (Nat.le_of_ble_eq_true rfl) ?_
  refine z_compact zw_472 dJ0_coder_7d493_0 ?_
  refine z_if_eq (tgt := 13) dJ0_coder_7d493_3 (by decide) (fun c => absurd c (by decide)) (fun c => ?_)
  refine z_aload_n 0 dJ0_coder_7d493_6 rfl rfl ?_
  refine z_strC j hj zw_1624 dJ0_coder_7d493_7 ?_
  refine z_goto (tgt := 14) dJ0_coder_7d493_10 (by decide) ?_
  exact z_nret rfl rfl dJ0_coder_7d493_14 rfl rfl (Nat.zero_le _) (Nat.zero_le _)
theorem c_latin {G : zT} {h : zH} (hG : zAl G = false) (hlen : h.length < 1000) {j : Nat} (hj : j < 8) : zRun G mJ0_isLatin1_aae02 0 0 [.ref (1010 + j)] h (.inr (some (.int 1))) h := by
  refine zRun_of (by decide +kernel) rfl rfl (Nat.le_of_ble_eq_true rfl) ?_
  refine z_compact zw_472 dJ0_isLatin1_aae02_0 ?_
  refine z_if_eq (tgt := 17) dJ0_isLatin1_aae02_3 (by decide) (fun c => absurd c (by decide)) (fun c => ?_)
  refine z_aload_n 0 dJ0_isLatin1_aae02_6 rfl rfl ?_
  refine z_strC j hj zw_1624 dJ0_isLatin1_aae02_7 ?_
  refine z_if_ne (tgt := 17) dJ0_isLatin1_aae02_10 (by decide) (fun c => absurd rfl c) (fun c => ?_)
  refine z_iconst (v := 1) dJ0_isLatin1_aae02_13 (by decide) ?_
  refine z_goto (tgt := 18) dJ0_isLatin1_aae02_14 (by decide) ?_
  exact z_nret rfl rfl dJ0_isLatin1_aae02_18 rfl rfl (Nat.zero_le _) (Nat.zero_le _)
theorem zSl_le {j : Nat} : zSl.getD j 0 ≤ 5 := by
  by_cases h : j < 8
  · rcases (show j = 0 ∨ j = 1 ∨ j = 2 ∨ j = 3 ∨ j = 4 ∨ j = 5 ∨ j = 6 ∨ j = 7 by omega) with rfl | rfl | rfl | rfl | rfl | rfl | rfl | rfl <;> decide
  · rw [List.getD_eq_getElem?_getD, List.getElem?_eq_none (by show 8 ≤ j; omega)]
    decide
theorem c_sLen {G : zT} {h : zH} (hG : zAl G = false) (hlen : h.length < 1000) {j : Nat} (hj : j < 8) : zRun G mJ0_length_8abf5 0 0 [.ref (1010 + j)] h (.inr (some (.int (nI (zSl.getD j 0))))) h := by
  refine zRun_of (by decide +kernel) rfl rfl (Nat.le_of_ble_eq_true rfl) ?_
  refine z_aload_n 0 dJ0_length_8abf5_0 rfl rfl ?_
  refine z_strV j hj zw_1623 dJ0_length_8abf5_1 ?_
  refine z_strL (v := nI (zSl.getD j 0)) j hj rfl dJ0_length_8abf5_4 ?_
  refine z_aload_n 0 dJ0_length_8abf5_5 rfl rfl ?_
  refine z_callK (N := mJ0_coder_7d493) 0 [] [.int (nI (zSl.getD j 0))] lJ0_coder_7d493 ⟨zw_468, zw_469, zw_470⟩ rfl hj rfl rfl (Nat.le_of_ble_eq_true rfl) (by decide) hlen hG ⟨Nat.le_refl _, Nat.le_refl _⟩ (c_coder hG hlen hj) dJ0_length_8abf5_6 ?_
  refine z_ishr (v := nI (zSl.getD j 0)) (by
    rcases (show j = 0 ∨ j = 1 ∨ j = 2 ∨ j = 3 ∨ j = 4 ∨ j = 5 ∨ j = 6 ∨ j = 7 by omega) with rfl | rfl | rfl | rfl | rfl | rfl | rfl | rfl <;> decide) dJ0_length_8abf5_9 ?_
  exact z_iret rfl dJ0_length_8abf5_10 rfl rfl (Nat.zero_le _) (Nat.zero_le _)
theorem zSb_b {j k : Nat} (hj : j < 8) (hk : k < zSl.getD j 0) : ((((zSb.getD j []).getD k 0) &&& nI 255).toUInt32 % 65536).toInt32 = (zSb.getD j []).getD k 0 ∧ narrow .char (.int ((zSb.getD j []).getD k 0)) = .int ((zSb.getD j []).getD k 0) := by
  have h5 := Nat.lt_of_lt_of_le hk zSl_le
  rcases (show j = 0 ∨ j = 1 ∨ j = 2 ∨ j = 3 ∨ j = 4 ∨ j = 5 ∨ j = 6 ∨ j = 7 by omega) with rfl | rfl | rfl | rfl | rfl | rfl | rfl | rfl <;>
    rcases (show k = 0 ∨ k = 1 ∨ k = 2 ∨ k = 3 ∨ k = 4 by omega) with rfl | rfl | rfl | rfl | rfl <;> first | exact absurd hk (by decide) | exact ⟨by decide, rfl⟩
theorem c_lChar {G : zT} {h : zH} (hG : zAl G = false) (hlen : h.length < 1000) {j : Nat} (hj : j < 8) {k : Nat} (hk : k < zSl.getD j 0) : zRun G mJ1_charAt_3b067 0 0 [.ref (1030 + j), .int (nI k)] h (.inr (some (.int ((zSb.getD j []).getD k 0)))) h := by
  have hs5 := zSl_le (j := j)
  refine zRun_of (by decide +kernel) rfl rfl (Nat.le_of_ble_eq_true rfl) ?_
  refine z_iload_n 1 dJ1_charAt_3b067_0 rfl rfl ?_
  refine z_aload_n 0 dJ1_charAt_3b067_1 rfl rfl ?_
  refine z_strL (v := nI (zSl.getD j 0)) j hj rfl dJ1_charAt_3b067_2 ?_
  refine z_callSO (N := mJ0_checkIndex_df160) 2 [.int (nI k), .int (nI (zSl.getD j 0))] [] lJ0_checkIndex_df160 ⟨zw_485, zw_486⟩ rfl rfl (Nat.le_of_ble_eq_true rfl) (by decide) ⟨hlen, hlen⟩ hG ⟨Nat.le_refl _, Nat.le_refl _⟩ (c_check hG hlen hk (by omega)) dJ1_charAt_3b067_3 ?_
  refine z_aload_n 0 dJ1_charAt_3b067_6 rfl rfl ?_
  refine z_iload_n 1 dJ1_charAt_3b067_7 rfl rfl ?_
  refine z_strB (v := (zSb.getD j []).getD k 0) j hj (vp_in_nI hk (by omega)) (by rw [nI_clamp (by omega)]) dJ1_charAt_3b067_8 ?_
  refine z_sipush (v := nI 255) dJ1_charAt_3b067_9 (by decide) ?_
  refine z_iand dJ1_charAt_3b067_12 ?_
  refine z_i2c (zSb_b hj hk).1 dJ1_charAt_3b067_13 ?_
  exact z_nret rfl (zSb_b hj hk).2 dJ1_charAt_3b067_14 rfl rfl (Nat.zero_le _) (Nat.zero_le _)
theorem c_sChar {G : zT} {h : zH} (hG : zAl G = false) (hlen : h.length < 1000) {j : Nat} (hj : j < 8) {k : Nat} (hk : k < zSl.getD j 0) : zRun G mJ0_charAt_5068e 0 0 [.ref (1010 + j), .int (nI k)] h (.inr (some (.int ((zSb.getD j []).getD k 0)))) h := by
  refine zRun_of (by decide +kernel) rfl rfl (Nat.le_of_ble_eq_true rfl) ?_
  refine z_aload_n 0 dJ0_charAt_5068e_0 rfl rfl ?_
  refine z_callK (N := mJ0_isLatin1_aae02) 0 [] [] lJ0_isLatin1_aae02 ⟨zw_478, zw_479, zw_480⟩ rfl hj rfl rfl (Nat.le_of_ble_eq_true rfl) (by decide) hlen hG ⟨Nat.le_refl _, Nat.le_refl _⟩ (c_latin hG hlen hj) dJ0_charAt_5068e_1 ?_
  refine z_if_eq (tgt := 16) dJ0_charAt_5068e_4 (by decide) (fun c => absurd c (by decide)) (fun c => ?_)
  refine z_aload_n 0 dJ0_charAt_5068e_7 rfl rfl ?_
  refine z_strV j hj zw_1623 dJ0_charAt_5068e_8 ?_
  refine z_iload_n 1 dJ0_charAt_5068e_11 rfl rfl ?_
  refine z_callSO (N := mJ1_charAt_3b067) 2 [.ref (1030 + j), .int (nI k)] [] lJ1_charAt_3b067 ⟨zw_482, zw_483⟩ rfl rfl (Nat.le_of_ble_eq_true rfl) (by decide) ⟨hlen, hlen⟩ hG ⟨Nat.le_refl _, Nat.le_refl _⟩ (c_lChar hG hlen hj hk) dJ0_charAt_5068e_12 ?_
  exact z_nret rfl (zSb_b hj hk).2 dJ0_charAt_5068e_15 rfl rfl (Nat.zero_le _) (Nat.zero_le _)

