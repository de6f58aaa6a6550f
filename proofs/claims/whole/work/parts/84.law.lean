/-! THE LAW'S LOOP -/
def zCalH (N : zN) (n : Nat) : Prop := ¬ mH N = [] ∧ Cond.codeWith (mY N) (mC N) (mN N) (mR N) (mH N) ∈ zG ∧ Cond.initialized (mY N).cls ∈ zG ∧ ((mY N).cls ≠ "java/lang/invoke/MethodHandle" ∧ (mY N).cls ≠ "java/lang/invoke/VarHandle" ∧ (parseMethodDescriptor (mY N).desc).map (fun d => d.parameters.length) = some n) ∧ mN N ≤ 16
/-- invokestatic of the class's own method with handlers -/
theorem z_callSH {G : zT} {M N : zN} {mc ms mc1 ms1 : Nat} {o : zO} {h h1 h' : zH} {cells slots pc : Nat} {lv : List (Nat × Value)} {stk : List Value} {r : Option Value} {idx : Nat} (n : Nat) (As st : List Value)
    (hN : zCalH N n) (hw : Cond.methodLink (mO M) idx (mY N) ∈ zG ∧ Cond.static (mY N) ∈ zG)
    (hst : stk = As.reverse ++ st) (hn : As.length = n) (hcat : (st.map fun v => v.category).sum ≤ 8) (hdp : mD N + 1 ≤ mD M) (hsm : h.length < 1000 ∧ h1.length < 1000) (hal0 : zAl G = false) (hfit : cells + mc1 ≤ mc ∧ slots + ms1 ≤ ms)
    (hR : zRun G N mc1 ms1 As h (.inr r) h1) (hd : decode (mC M) pc = .ok (.invokestatic idx, 3))
    (k : zPW G M mc ms o h' (cells + mc1) (slots + ms1) (pc + 3) lv (r.toList ++ st) h1) : zPW G M mc ms o h' cells slots pc lv stk h := by
  intro p e s m args below meth c A H locs ls C N9 hl
  subst hst
  obtain ⟨hh, hcd, hini, hnm, hnl⟩ := hN
  have hws : zWs N = Cond.codeWith (mY N) (mC N) (mN N) (mR N) (mH N) :: zG := by unfold zWs; rw [if_neg hh]
  have hgood : GoodIn zG (zWs N) := by
    rw [hws]
    intro w hw9
    rcases List.mem_cons.mp hw9 with rfl | hw9
    · exact zG_good _ hcd
    · exact zG_good _ hw9
  have hpre := z_pre (av := As) C N9 (fun z => by rw [hal0] at z; cases z)
  have hgi : GoodIn zG (va_wsS (mO M) idx (mY N) (zWs N)) := by
    intro w hw9
    rcases List.mem_append.mp hw9 with h9 | h9
    · simp only [List.mem_cons, List.not_mem_nil, or_false] at h9
      rcases h9 with rfl | rfl | rfl
      · exact zG_good _ hw.1
      · exact zG_good _ hw.2
      · exact zG_good _ hini
    · exact hgood w h9
  rw [z_vis]
  exact z_after C N9 hl (fun z => by rw [hal0] at z; cases z) hsm.2 (vx_runSW (hh := mH N) (As := As.map (zv (zAd G))) (rest := st.map (zv (zAd G))) ⟨C.1, C.2.1, C.2.2.1, C.2.2.2.2.2.1, C.2.2.2.2.2.2.1⟩ (hR.met H.size) (vx_cwSW n C.2.2.2.2.2.2.1 hgi hws rfl rfl hnm (z_room hdp hnl)) hpre rfl (by rw [List.length_map]; exact hn) hl.1 rfl (z_cats hcat) hd (z_fit hfit)) k
def mL_law : zN := (RL, yL_law, cL_law, 7, some .boolean, 12, [])
theorem z_scrOf {G : zT} {M : zN} {p : Program} {s : State} {m : MethodId} {args : Array Value} {meth : Method} {c : Code} {A : Nat → Prop} (C : zCx G M p s m args meth c A) : zScr (zAd G) A s s.heap := C.2.2.2.2.2.2.2.2.1.2.2.2.2.2.2.2.2
theorem z_slen {G : zT} {M : zN} {mc ms : Nat} {o : zO} {h' : zH} {cells slots pc : Nat} {lv : List (Nat × Value)} {st : List Value} {h : zH} (hd : decode (mC M) pc = .ok (.arraylength, 1)) (k : zPW G M mc ms o h' cells slots (pc + 1) lv (.int (nI (zAd G 1999)) :: st) h) : zPW G M mc ms o h' cells slots pc lv (.ref 1009 :: st) h :=
  fun p e s m args below meth c A H locs ls C N hl => va_slen C.1 C.2.1 (z_scrOf C).1 (z_scrOf C).lt (z_scrOf C).2 N.2.2.1 hd (k p e s m args below meth c A H locs ls C N hl)
theorem z_sld {G : zT} {M : zN} {mc ms : Nat} {o : zO} {h' : zH} {cells slots pc : Nat} {lv : List (Nat × Value)} {st : List Value} {h : zH} {j : Nat} (hj : j < zAd G 1999) (hs : zAd G 1999 < 2 ^ 31) (hd : decode (mC M) pc = .ok (.iaload, 1)) (k : zPW G M mc ms o h' cells slots (pc + 1) lv (.int (nI (zAd G (2000 + j))) :: st) h) : zPW G M mc ms o h' cells slots pc lv (.int (nI j) :: .ref 1009 :: st) h := by
  intro p e s m args below meth c A H locs ls C N hl
  have k9 := k p e s m args below meth c A H locs ls C N hl
  have e9 : (nI j).toNatClampNeg = j := nI_clamp (Nat.lt_trans hj hs)
  refine va_sld C.1 C.2.1 (z_scrOf C).1 (z_scrOf C).lt (z_scrOf C).2 N.2.2.1 (nI_in hj hs) hd ?_
  rw [e9]
  exact k9
theorem z_widen {G : zT} {M : zN} {mc ms : Nat} {o : zO} {h' : zH} {cells slots c2 s2 pc : Nat} {lv : List (Nat × Value)} {st : List Value} {h : zH} (hG : zAl G = false) (h1 : cells ≤ c2) (h2 : slots ≤ s2) (k : zPW G M mc ms o h' c2 s2 pc lv st h) : zPW G M mc ms o h' cells slots pc lv st h :=
  fun p e s m args below meth c A H locs ls C N hl => W.widen h1 h2 (k p e s m args below meth c A H locs ls C ⟨N.1, N.2.1, N.2.2.1, fun z => by rw [hG] at z; cases z⟩ hl)
theorem zL_and (a : Int32) : ∃ j : Nat, j < 32 ∧ a &&& 31 = nI j := by
  refine ⟨(a.toBitVec &&& 31#32).toNat, ?_, ?_⟩
  · have h : (a.toBitVec &&& 31#32).toNat ≤ 31 := by
      rw [BitVec.toNat_and]
      exact Nat.and_le_right
    omega
  · refine Int32.toBitVec_inj.mp ?_
    show a.toBitVec &&& 31#32 = BitVec.ofNat 32 (a.toBitVec &&& 31#32).toNat
    rw [BitVec.ofNat_toNat, BitVec.setWidth_eq]
theorem zL_end {L i : Nat} (hL : L ≤ 3072) (hi : i < 2 ^ 31) : nI L - 6 < nI i ↔ L < i + 6 := by
  rw [Int32.lt_iff_toInt_lt, nI_toInt hi, show (6 : Int32) = nI 6 from by decide, pk_sub_toInt (by omega) (by omega)]
  omega
theorem zL_cmp {x y : Int64} (h : x = y) : lg_cmp x y = 0 := by
  subst h
  unfold lg_cmp
  rw [if_neg (by intro q; exact absurd (Int64.lt_iff_toInt_lt.mp q) (by omega)), if_pos rfl]
theorem zIsH.len {H : zH} (h : zIsH H) : H.length < 1000 := by
  obtain ⟨S, X, Y, o, rfl⟩ := h
  exact zlt
theorem zIsH.o0 {H : zH} (h : zIsH H) : ∃ fs, H[0]? = some (.inr (7, fs)) := by
  obtain ⟨S, X, Y, o, rfl⟩ := h
  exact ⟨_, zgo_0⟩
theorem zIsH.o114 {H : zH} (h : zIsH H) : ∃ fs, H[114]? = some (.inr (8, fs)) := by
  obtain ⟨S, X, Y, o, rfl⟩ := h
  exact ⟨_, zgo_114⟩
theorem zGd.isH {k : Int32} {out : Nat → Int64} {H : zH} (h : zGd k out H) : zIsH H := by
  obtain ⟨S, sa, sb, sc, sd, hcn, hnx, tln, wj, pos, byt, num, flt, s, past, aside, line, need, left, slits, slB, slF, slT, at9, wd9, got, ans, worst, hR, hH, h150, hj, hnm, hgo, rfl⟩ := h
  exact ⟨_, _, _, _, rfl⟩
theorem zGd.out {k : Int32} {out : Nat → Int64} {H : zH} (h : zGd k out H) : H[126]? = some (.inl (1, 1, .inr (.inl out))) := by
  obtain ⟨S, sa, sb, sc, sd, hcn, hnx, tln, wj, pos, byt, num, flt, s, past, aside, line, need, left, slits, slB, slF, slT, at9, wd9, got, ans, worst, hR, hH, h150, hj, hnm, hgo, rfl⟩ := h
  exact zgl_126
theorem zGd.thr {G : zT} {k : Int32} {out : Nat → Int64} {H : zH} (hG : zAl G = false) (h : zGd k out H) : zRun G mX10_thrown 0 0 [.ref 114] H (.inr (some (.int k))) H := by
  obtain ⟨S, sa, sb, sc, sd, hcn, hnx, tln, wj, pos, byt, num, flt, s, past, aside, line, need, left, slits, slB, slF, slT, at9, wd9, got, ans, worst, hR, hH, h150, hj, hnm, hgo, rfl⟩ := h
  exact m_thrown hG

theorem lH_begin : zCalH mL_begin 4 := ⟨by decide, zG_in 877 (by decide +kernel) (by decide +kernel), zw_105, ⟨by decide +kernel, by decide +kernel, by decide +kernel⟩, by decide⟩
set_option maxHeartbeats 4000000 in
set_option maxRecDepth 100000 in
theorem law_c0 {G : zT} (hG : zAl G = false) {mc ms i cells slots : Nat} {k0 : Int32} {out : Nat → Int64} {H : zH} (h : zGd k0 out H) (hi : i + 6 ≤ zAd G 1999) (hL : zAd G 1999 ≤ 3072) (hc : cells + 1 ≤ mc) (hs : slots + 6 ≤ ms)
    (K : ∀ (k : Int32) (out : Nat → Int64) (H : zH), zGd k out H → ∃ h', zPW G mL_law mc ms (.inr (some (.int 1))) h' (cells + 1) (slots + 6) 1635 [(0, .ref 1009), (1, .ref 0), (2, .ref 114), (3, .ref 126), (4, .int (nI i))] [] H) : ∃ h', zPW G mL_law mc ms (.inr (some (.int 1))) h' cells slots 168 [(0, .ref 1009), (1, .ref 0), (2, .ref 114), (3, .ref 126), (4, .int (nI i))] [] H := by
  obtain ⟨m1, s1, k, v, H1, H2, out2, hm1, hs1, R1, R2, g2, ho, z1⟩ := s_begin hG (zNcs_ok G) h (nI (zAd G (2000 + (i + 1)))) (nI (zAd G (2000 + (i + 2))))
  obtain ⟨h', K⟩ := K k out2 H2 g2
  refine ⟨h', ?_⟩
  have l0 := h.isH.len
  have l1 := z1.len
  have l2 := g2.isH.len
  obtain ⟨f1, e1⟩ := z1.o114
  obtain ⟨f2, e2⟩ := g2.isH.o114
  have e3 := g2.out
  have T := zGd.thr hG g2
  have hb : zAd G 1999 < 2 ^ 31 := by omega
  refine z_aload_n 1 dL_law_168 rfl rfl ?_
  refine z_aload_n 0 dL_law_169 rfl rfl ?_
  refine z_iload 4 dL_law_170 rfl ?_
  refine z_iconst (v := nI 1) dL_law_172 (by decide) ?_
  refine z_iadd dL_law_173 ?_
  refine z_top (congrArg Value.int (nI_add i 1)) ?_
  refine z_sld (j := i + 1) (by omega) hb dL_law_174 ?_
  refine z_aload_n 0 dL_law_175 rfl rfl ?_
  refine z_iload 4 dL_law_176 rfl ?_
  refine z_iconst (v := nI 2) dL_law_178 (by decide) ?_
  refine z_iadd dL_law_179 ?_
  refine z_top (congrArg Value.int (nI_add i 2)) ?_
  refine z_sld (j := i + 2) (by omega) hb dL_law_180 ?_
  refine z_aload_n 3 dL_law_181 rfl rfl ?_
  refine z_callSH (N := mL_begin) 4 [.ref 0, .int (nI (zAd G (2000 + (i + 1)))), .int (nI (zAd G (2000 + (i + 2)))), .ref 126] [] lH_begin ⟨zw_875, zw_876⟩ rfl rfl (by decide) (by decide) ⟨l0, l1⟩ hG ⟨by omega, by omega⟩ R1 dL_law_182 ?_
  refine z_istore (lv' := [(5, .int k), (0, .ref 1009), (1, .ref 0), (2, .ref 114), (3, .ref 126), (4, .int (nI i))]) dL_law_185 (by decide) rfl ?_
  refine z_aload_n 3 dL_law_187 rfl rfl ?_
  refine z_aload_n 1 dL_law_188 rfl rfl ?_
  refine z_iload 5 dL_law_189 rfl ?_
  refine z_iconst (v := nI 1) dL_law_191 (by decide) ?_
  refine z_iadd dL_law_192 ?_
  refine z_top (congrArg Value.int (nI_add i 1)) ?_
  refine z_sld (j := i + 1) (by omega) hb dL_law_193 ?_
  refine z_aload_n 1 dL_law_194 rfl rfl ?_
  refine z_iload 5 dL_law_195 rfl ?_
  refine z_iconst (v := nI 2) dL_law_197 (by decide) ?_
  refine z_iadd dL_law_198 ?_
  refine z_top (congrArg Value.int (nI_add i 2)) ?_
  refine z_sld (j := i + 2) (by omega) hb dL_law_199 ?_
  refine z_callV (N := mX10_begin) 2 [.int (nI (zAd G (2000 + (i + 1)))), .int (nI (zAd G (2000 + (i + 2))))] [] lX10_begin ⟨zw_1240, zw_1241, zw_1242⟩ rfl e1 rfl rfl (by decide) (by decide) ⟨l1, l2⟩ ⟨by omega, by omega⟩ (fun z => by rw [hG] at z; cases z) R2 dL_law_200 ?_
  refine z_istore (lv' := [(6, .int v), (5, .int k), (0, .ref 1009), (1, .ref 0), (2, .ref 114), (3, .ref 126), (4, .int (nI i))]) dL_law_203 (by decide) rfl ?_
  refine z_aload_n 4 dL_law_205 rfl rfl ?_
  refine z_callV (N := mX10_thrown) 0 [] [] lX10_thrown ⟨zw_1236, zw_1237, zw_1238⟩ rfl e2 rfl rfl (by decide) (by decide) ⟨l2, l2⟩ ⟨by omega, by omega⟩ (fun z => by rw [hG] at z; cases z) T dL_law_206 ?_
  refine z_iload 1 dL_law_209 rfl ?_
  have K9 : zPW G mL_law mc ms (.inr (some (.int 1))) h' (cells + m1 + 0 + 0) (slots + s1 + 0 + 0) 233 [(6, .int v), (5, .int k), (0, .ref 1009), (1, .ref 0), (2, .ref 114), (3, .ref 126), (4, .int (nI i))] [] H2 := by
    refine z_goto (tgt := 1635) dL_law_233 (by decide) ?_
    refine z_sub [2, 3, 4, 5, 6] rfl ?_
    exact z_widen hG (by omega) (by omega) K
  refine z_icmp_eq (tgt := 216) dL_law_211 (by decide) (fun _ => ?_) (fun q => absurd rfl q)
  refine z_iload 1 dL_law_216 rfl ?_
  refine z_if_ne (tgt := 233) dL_law_218 (by decide) (fun _ => K9) (fun q => ?_)
  refine z_aload_n 5 dL_law_221 rfl rfl ?_
  refine z_iconst (v := 0) dL_law_222 (by decide) ?_
  refine z_lald e3 (by unfold vp_in; decide) dL_law_223 ?_
  refine z_iload 0 dL_law_224 rfl ?_
  refine z_i2l dL_law_226 ?_
  refine z_lcmp dL_law_227 ?_
  exact z_if_eq (tgt := 233) dL_law_228 (by decide) (fun _ => K9) (fun q9 => absurd (zL_cmp (ho q)) q9)

theorem lH_fill : zCalH mL_fill 7 := ⟨by decide, zG_in 988 (by decide +kernel) (by decide +kernel), zw_105, ⟨by decide +kernel, by decide +kernel, by decide +kernel⟩, by decide⟩
set_option maxHeartbeats 4000000 in
set_option maxRecDepth 100000 in
theorem law_c1 {G : zT} (hG : zAl G = false) {mc ms i cells slots : Nat} {k0 : Int32} {out : Nat → Int64} {H : zH} (h : zGd k0 out H) (hi : i + 6 ≤ zAd G 1999) (hL : zAd G 1999 ≤ 3072) (hc : cells + 1 ≤ mc) (hs : slots + 6 ≤ ms)
    (K : ∀ (k : Int32) (out : Nat → Int64) (H : zH), zGd k out H → ∃ h', zPW G mL_law mc ms (.inr (some (.int 1))) h' (cells + 1) (slots + 6) 1635 [(0, .ref 1009), (1, .ref 0), (2, .ref 114), (3, .ref 126), (4, .int (nI i))] [] H) : ∃ h', zPW G mL_law mc ms (.inr (some (.int 1))) h' cells slots 236 [(0, .ref 1009), (1, .ref 0), (2, .ref 114), (3, .ref 126), (4, .int (nI i))] [] H := by
  obtain ⟨m1, s1, k, v, H1, H2, out2, hm1, hs1, R1, R2, g2, ho, z1⟩ := s_fill hG (zNcs_ok G) h (nI (zAd G (2000 + (i + 1)))) (nI (zAd G (2000 + (i + 2)))) (nI (zAd G (2000 + (i + 3)))) (nI (zAd G (2000 + (i + 4)))) (nI (zAd G (2000 + (i + 5))))
  obtain ⟨h', K⟩ := K k out2 H2 g2
  refine ⟨h', ?_⟩
  have l0 := h.isH.len
  have l1 := z1.len
  have l2 := g2.isH.len
  obtain ⟨f1, e1⟩ := z1.o114
  obtain ⟨f2, e2⟩ := g2.isH.o114
  have e3 := g2.out
  have T := zGd.thr hG g2
  have hb : zAd G 1999 < 2 ^ 31 := by omega
  refine z_aload_n 1 dL_law_236 rfl rfl ?_
  refine z_aload_n 0 dL_law_237 rfl rfl ?_
  refine z_iload 4 dL_law_238 rfl ?_
  refine z_iconst (v := nI 1) dL_law_240 (by decide) ?_
  refine z_iadd dL_law_241 ?_
  refine z_top (congrArg Value.int (nI_add i 1)) ?_
  refine z_sld (j := i + 1) (by omega) hb dL_law_242 ?_
  refine z_aload_n 0 dL_law_243 rfl rfl ?_
  refine z_iload 4 dL_law_244 rfl ?_
  refine z_iconst (v := nI 2) dL_law_246 (by decide) ?_
  refine z_iadd dL_law_247 ?_
  refine z_top (congrArg Value.int (nI_add i 2)) ?_
  refine z_sld (j := i + 2) (by omega) hb dL_law_248 ?_
  refine z_aload_n 0 dL_law_249 rfl rfl ?_
  refine z_iload 4 dL_law_250 rfl ?_
  refine z_iconst (v := nI 3) dL_law_252 (by decide) ?_
  refine z_iadd dL_law_253 ?_
  refine z_top (congrArg Value.int (nI_add i 3)) ?_
  refine z_sld (j := i + 3) (by omega) hb dL_law_254 ?_
  refine z_aload_n 0 dL_law_255 rfl rfl ?_
  refine z_iload 4 dL_law_256 rfl ?_
  refine z_iconst (v := nI 4) dL_law_258 (by decide) ?_
  refine z_iadd dL_law_259 ?_
  refine z_top (congrArg Value.int (nI_add i 4)) ?_
  refine z_sld (j := i + 4) (by omega) hb dL_law_260 ?_
  refine z_aload_n 0 dL_law_261 rfl rfl ?_
  refine z_iload 4 dL_law_262 rfl ?_
  refine z_iconst (v := nI 5) dL_law_264 (by decide) ?_
  refine z_iadd dL_law_265 ?_
  refine z_top (congrArg Value.int (nI_add i 5)) ?_
  refine z_sld (j := i + 5) (by omega) hb dL_law_266 ?_
  refine z_aload_n 3 dL_law_267 rfl rfl ?_
  refine z_callSH (N := mL_fill) 7 [.ref 0, .int (nI (zAd G (2000 + (i + 1)))), .int (nI (zAd G (2000 + (i + 2)))), .int (nI (zAd G (2000 + (i + 3)))), .int (nI (zAd G (2000 + (i + 4)))), .int (nI (zAd G (2000 + (i + 5)))), .ref 126] [] lH_fill ⟨zw_986, zw_987⟩ rfl rfl (by decide) (by decide) ⟨l0, l1⟩ hG ⟨by omega, by omega⟩ R1 dL_law_268 ?_
  refine z_istore (lv' := [(5, .int k), (0, .ref 1009), (1, .ref 0), (2, .ref 114), (3, .ref 126), (4, .int (nI i))]) dL_law_271 (by decide) rfl ?_
  refine z_aload_n 3 dL_law_273 rfl rfl ?_
  refine z_aload_n 1 dL_law_274 rfl rfl ?_
  refine z_iload 5 dL_law_275 rfl ?_
  refine z_iconst (v := nI 1) dL_law_277 (by decide) ?_
  refine z_iadd dL_law_278 ?_
  refine z_top (congrArg Value.int (nI_add i 1)) ?_
  refine z_sld (j := i + 1) (by omega) hb dL_law_279 ?_
  refine z_aload_n 1 dL_law_280 rfl rfl ?_
  refine z_iload 5 dL_law_281 rfl ?_
  refine z_iconst (v := nI 2) dL_law_283 (by decide) ?_
  refine z_iadd dL_law_284 ?_
  refine z_top (congrArg Value.int (nI_add i 2)) ?_
  refine z_sld (j := i + 2) (by omega) hb dL_law_285 ?_
  refine z_aload_n 1 dL_law_286 rfl rfl ?_
  refine z_iload 5 dL_law_287 rfl ?_
  refine z_iconst (v := nI 3) dL_law_289 (by decide) ?_
  refine z_iadd dL_law_290 ?_
  refine z_top (congrArg Value.int (nI_add i 3)) ?_
  refine z_sld (j := i + 3) (by omega) hb dL_law_291 ?_
  refine z_aload_n 1 dL_law_292 rfl rfl ?_
  refine z_iload 5 dL_law_293 rfl ?_
  refine z_iconst (v := nI 4) dL_law_295 (by decide) ?_
  refine z_iadd dL_law_296 ?_
  refine z_top (congrArg Value.int (nI_add i 4)) ?_
  refine z_sld (j := i + 4) (by omega) hb dL_law_297 ?_
  refine z_aload_n 1 dL_law_298 rfl rfl ?_
  refine z_iload 5 dL_law_299 rfl ?_
  refine z_iconst (v := nI 5) dL_law_301 (by decide) ?_
  refine z_iadd dL_law_302 ?_
  refine z_top (congrArg Value.int (nI_add i 5)) ?_
  refine z_sld (j := i + 5) (by omega) hb dL_law_303 ?_
  refine z_callV (N := mX10_fill) 5 [.int (nI (zAd G (2000 + (i + 1)))), .int (nI (zAd G (2000 + (i + 2)))), .int (nI (zAd G (2000 + (i + 3)))), .int (nI (zAd G (2000 + (i + 4)))), .int (nI (zAd G (2000 + (i + 5))))] [] lX10_fill ⟨zw_1271, zw_1272, zw_1273⟩ rfl e1 rfl rfl (by decide) (by decide) ⟨l1, l2⟩ ⟨by omega, by omega⟩ (fun z => by rw [hG] at z; cases z) R2 dL_law_304 ?_
  refine z_istore (lv' := [(6, .int v), (5, .int k), (0, .ref 1009), (1, .ref 0), (2, .ref 114), (3, .ref 126), (4, .int (nI i))]) dL_law_307 (by decide) rfl ?_
  refine z_aload_n 4 dL_law_309 rfl rfl ?_
  refine z_callV (N := mX10_thrown) 0 [] [] lX10_thrown ⟨zw_1236, zw_1237, zw_1238⟩ rfl e2 rfl rfl (by decide) (by decide) ⟨l2, l2⟩ ⟨by omega, by omega⟩ (fun z => by rw [hG] at z; cases z) T dL_law_310 ?_
  refine z_iload 1 dL_law_313 rfl ?_
  have K9 : zPW G mL_law mc ms (.inr (some (.int 1))) h' (cells + m1 + 0 + 0) (slots + s1 + 0 + 0) 337 [(6, .int v), (5, .int k), (0, .ref 1009), (1, .ref 0), (2, .ref 114), (3, .ref 126), (4, .int (nI i))] [] H2 := by
    refine z_goto (tgt := 1635) dL_law_337 (by decide) ?_
    refine z_sub [2, 3, 4, 5, 6] rfl ?_
    exact z_widen hG (by omega) (by omega) K
  refine z_icmp_eq (tgt := 320) dL_law_315 (by decide) (fun _ => ?_) (fun q => absurd rfl q)
  refine z_iload 1 dL_law_320 rfl ?_
  refine z_if_ne (tgt := 337) dL_law_322 (by decide) (fun _ => K9) (fun q => ?_)
  refine z_aload_n 5 dL_law_325 rfl rfl ?_
  refine z_iconst (v := 0) dL_law_326 (by decide) ?_
  refine z_lald e3 (by unfold vp_in; decide) dL_law_327 ?_
  refine z_iload 0 dL_law_328 rfl ?_
  refine z_i2l dL_law_330 ?_
  refine z_lcmp dL_law_331 ?_
  exact z_if_eq (tgt := 337) dL_law_332 (by decide) (fun _ => K9) (fun q9 => absurd (zL_cmp (ho q)) q9)

theorem lH_addLot : zCalH mL_addLot 5 := ⟨by decide, zG_in 996 (by decide +kernel) (by decide +kernel), zw_105, ⟨by decide +kernel, by decide +kernel, by decide +kernel⟩, by decide⟩
set_option maxHeartbeats 4000000 in
set_option maxRecDepth 100000 in
theorem law_c2 {G : zT} (hG : zAl G = false) {mc ms i cells slots : Nat} {k0 : Int32} {out : Nat → Int64} {H : zH} (h : zGd k0 out H) (hi : i + 6 ≤ zAd G 1999) (hL : zAd G 1999 ≤ 3072) (hc : cells + 1 ≤ mc) (hs : slots + 6 ≤ ms)
    (K : ∀ (k : Int32) (out : Nat → Int64) (H : zH), zGd k out H → ∃ h', zPW G mL_law mc ms (.inr (some (.int 1))) h' (cells + 1) (slots + 6) 1635 [(0, .ref 1009), (1, .ref 0), (2, .ref 114), (3, .ref 126), (4, .int (nI i))] [] H) : ∃ h', zPW G mL_law mc ms (.inr (some (.int 1))) h' cells slots 340 [(0, .ref 1009), (1, .ref 0), (2, .ref 114), (3, .ref 126), (4, .int (nI i))] [] H := by
  obtain ⟨m1, s1, k, v, H1, H2, out2, hm1, hs1, R1, R2, g2, ho, z1⟩ := s_addLot hG (zNcs_ok G) h (nI (zAd G (2000 + (i + 1)))) (nI (zAd G (2000 + (i + 2)))) (nI (zAd G (2000 + (i + 3))))
  obtain ⟨h', K⟩ := K k out2 H2 g2
  refine ⟨h', ?_⟩
  have l0 := h.isH.len
  have l1 := z1.len
  have l2 := g2.isH.len
  obtain ⟨f1, e1⟩ := z1.o114
  obtain ⟨f2, e2⟩ := g2.isH.o114
  have e3 := g2.out
  have T := zGd.thr hG g2
  have hb : zAd G 1999 < 2 ^ 31 := by omega
  refine z_aload_n 1 dL_law_340 rfl rfl ?_
  refine z_aload_n 0 dL_law_341 rfl rfl ?_
  refine z_iload 4 dL_law_342 rfl ?_
  refine z_iconst (v := nI 1) dL_law_344 (by decide) ?_
  refine z_iadd dL_law_345 ?_
  refine z_top (congrArg Value.int (nI_add i 1)) ?_
  refine z_sld (j := i + 1) (by omega) hb dL_law_346 ?_
  refine z_aload_n 0 dL_law_347 rfl rfl ?_
  refine z_iload 4 dL_law_348 rfl ?_
  refine z_iconst (v := nI 2) dL_law_350 (by decide) ?_
  refine z_iadd dL_law_351 ?_
  refine z_top (congrArg Value.int (nI_add i 2)) ?_
  refine z_sld (j := i + 2) (by omega) hb dL_law_352 ?_
  refine z_aload_n 0 dL_law_353 rfl rfl ?_
  refine z_iload 4 dL_law_354 rfl ?_
  refine z_iconst (v := nI 3) dL_law_356 (by decide) ?_
  refine z_iadd dL_law_357 ?_
  refine z_top (congrArg Value.int (nI_add i 3)) ?_
  refine z_sld (j := i + 3) (by omega) hb dL_law_358 ?_
  refine z_aload_n 3 dL_law_359 rfl rfl ?_
  refine z_callSH (N := mL_addLot) 5 [.ref 0, .int (nI (zAd G (2000 + (i + 1)))), .int (nI (zAd G (2000 + (i + 2)))), .int (nI (zAd G (2000 + (i + 3)))), .ref 126] [] lH_addLot ⟨zw_994, zw_995⟩ rfl rfl (by decide) (by decide) ⟨l0, l1⟩ hG ⟨by omega, by omega⟩ R1 dL_law_360 ?_
  refine z_istore (lv' := [(5, .int k), (0, .ref 1009), (1, .ref 0), (2, .ref 114), (3, .ref 126), (4, .int (nI i))]) dL_law_363 (by decide) rfl ?_
  refine z_aload_n 3 dL_law_365 rfl rfl ?_
  refine z_aload_n 1 dL_law_366 rfl rfl ?_
  refine z_iload 5 dL_law_367 rfl ?_
  refine z_iconst (v := nI 1) dL_law_369 (by decide) ?_
  refine z_iadd dL_law_370 ?_
  refine z_top (congrArg Value.int (nI_add i 1)) ?_
  refine z_sld (j := i + 1) (by omega) hb dL_law_371 ?_
  refine z_aload_n 1 dL_law_372 rfl rfl ?_
  refine z_iload 5 dL_law_373 rfl ?_
  refine z_iconst (v := nI 2) dL_law_375 (by decide) ?_
  refine z_iadd dL_law_376 ?_
  refine z_top (congrArg Value.int (nI_add i 2)) ?_
  refine z_sld (j := i + 2) (by omega) hb dL_law_377 ?_
  refine z_aload_n 1 dL_law_378 rfl rfl ?_
  refine z_iload 5 dL_law_379 rfl ?_
  refine z_iconst (v := nI 3) dL_law_381 (by decide) ?_
  refine z_iadd dL_law_382 ?_
  refine z_top (congrArg Value.int (nI_add i 3)) ?_
  refine z_sld (j := i + 3) (by omega) hb dL_law_383 ?_
  refine z_callV (N := mX10_addLot) 3 [.int (nI (zAd G (2000 + (i + 1)))), .int (nI (zAd G (2000 + (i + 2)))), .int (nI (zAd G (2000 + (i + 3))))] [] lX10_addLot ⟨zw_1283, zw_1284, zw_1285⟩ rfl e1 rfl rfl (by decide) (by decide) ⟨l1, l2⟩ ⟨by omega, by omega⟩ (fun z => by rw [hG] at z; cases z) R2 dL_law_384 ?_
  refine z_istore (lv' := [(6, .int v), (5, .int k), (0, .ref 1009), (1, .ref 0), (2, .ref 114), (3, .ref 126), (4, .int (nI i))]) dL_law_387 (by decide) rfl ?_
  refine z_aload_n 4 dL_law_389 rfl rfl ?_
  refine z_callV (N := mX10_thrown) 0 [] [] lX10_thrown ⟨zw_1236, zw_1237, zw_1238⟩ rfl e2 rfl rfl (by decide) (by decide) ⟨l2, l2⟩ ⟨by omega, by omega⟩ (fun z => by rw [hG] at z; cases z) T dL_law_390 ?_
  refine z_iload 1 dL_law_393 rfl ?_
  have K9 : zPW G mL_law mc ms (.inr (some (.int 1))) h' (cells + m1 + 0 + 0) (slots + s1 + 0 + 0) 417 [(6, .int v), (5, .int k), (0, .ref 1009), (1, .ref 0), (2, .ref 114), (3, .ref 126), (4, .int (nI i))] [] H2 := by
    refine z_goto (tgt := 1635) dL_law_417 (by decide) ?_
    refine z_sub [2, 3, 4, 5, 6] rfl ?_
    exact z_widen hG (by omega) (by omega) K
  refine z_icmp_eq (tgt := 400) dL_law_395 (by decide) (fun _ => ?_) (fun q => absurd rfl q)
  refine z_iload 1 dL_law_400 rfl ?_
  refine z_if_ne (tgt := 417) dL_law_402 (by decide) (fun _ => K9) (fun q => ?_)
  refine z_aload_n 5 dL_law_405 rfl rfl ?_
  refine z_iconst (v := 0) dL_law_406 (by decide) ?_
  refine z_lald e3 (by unfold vp_in; decide) dL_law_407 ?_
  refine z_iload 0 dL_law_408 rfl ?_
  refine z_i2l dL_law_410 ?_
  refine z_lcmp dL_law_411 ?_
  exact z_if_eq (tgt := 417) dL_law_412 (by decide) (fun _ => K9) (fun q9 => absurd (zL_cmp (ho q)) q9)

theorem lH_setTolerance : zCalH mL_setTolerance 3 := ⟨by decide, zG_in 1004 (by decide +kernel) (by decide +kernel), zw_105, ⟨by decide +kernel, by decide +kernel, by decide +kernel⟩, by decide⟩
set_option maxHeartbeats 4000000 in
set_option maxRecDepth 100000 in
theorem law_c3 {G : zT} (hG : zAl G = false) {mc ms i cells slots : Nat} {k0 : Int32} {out : Nat → Int64} {H : zH} (h : zGd k0 out H) (hi : i + 6 ≤ zAd G 1999) (hL : zAd G 1999 ≤ 3072) (hc : cells + 1 ≤ mc) (hs : slots + 6 ≤ ms)
    (K : ∀ (k : Int32) (out : Nat → Int64) (H : zH), zGd k out H → ∃ h', zPW G mL_law mc ms (.inr (some (.int 1))) h' (cells + 1) (slots + 6) 1635 [(0, .ref 1009), (1, .ref 0), (2, .ref 114), (3, .ref 126), (4, .int (nI i))] [] H) : ∃ h', zPW G mL_law mc ms (.inr (some (.int 1))) h' cells slots 420 [(0, .ref 1009), (1, .ref 0), (2, .ref 114), (3, .ref 126), (4, .int (nI i))] [] H := by
  obtain ⟨m1, s1, k, v, H1, H2, out2, hm1, hs1, R1, R2, g2, ho, z1⟩ := s_setTolerance hG (zNcs_ok G) h (nI (zAd G (2000 + (i + 1))))
  obtain ⟨h', K⟩ := K k out2 H2 g2
  refine ⟨h', ?_⟩
  have l0 := h.isH.len
  have l1 := z1.len
  have l2 := g2.isH.len
  obtain ⟨f1, e1⟩ := z1.o114
  obtain ⟨f2, e2⟩ := g2.isH.o114
  have e3 := g2.out
  have T := zGd.thr hG g2
  have hb : zAd G 1999 < 2 ^ 31 := by omega
  refine z_aload_n 1 dL_law_420 rfl rfl ?_
  refine z_aload_n 0 dL_law_421 rfl rfl ?_
  refine z_iload 4 dL_law_422 rfl ?_
  refine z_iconst (v := nI 1) dL_law_424 (by decide) ?_
  refine z_iadd dL_law_425 ?_
  refine z_top (congrArg Value.int (nI_add i 1)) ?_
  refine z_sld (j := i + 1) (by omega) hb dL_law_426 ?_
  refine z_aload_n 3 dL_law_427 rfl rfl ?_
  refine z_callSH (N := mL_setTolerance) 3 [.ref 0, .int (nI (zAd G (2000 + (i + 1)))), .ref 126] [] lH_setTolerance ⟨zw_1002, zw_1003⟩ rfl rfl (by decide) (by decide) ⟨l0, l1⟩ hG ⟨by omega, by omega⟩ R1 dL_law_428 ?_
  refine z_istore (lv' := [(5, .int k), (0, .ref 1009), (1, .ref 0), (2, .ref 114), (3, .ref 126), (4, .int (nI i))]) dL_law_431 (by decide) rfl ?_
  refine z_aload_n 3 dL_law_433 rfl rfl ?_
  refine z_aload_n 1 dL_law_434 rfl rfl ?_
  refine z_iload 5 dL_law_435 rfl ?_
  refine z_iconst (v := nI 1) dL_law_437 (by decide) ?_
  refine z_iadd dL_law_438 ?_
  refine z_top (congrArg Value.int (nI_add i 1)) ?_
  refine z_sld (j := i + 1) (by omega) hb dL_law_439 ?_
  refine z_callV (N := mX10_setTolerance) 1 [.int (nI (zAd G (2000 + (i + 1))))] [] lX10_setTolerance ⟨zw_1300, zw_1301, zw_1302⟩ rfl e1 rfl rfl (by decide) (by decide) ⟨l1, l2⟩ ⟨by omega, by omega⟩ (fun z => by rw [hG] at z; cases z) R2 dL_law_440 ?_
  refine z_istore (lv' := [(6, .int v), (5, .int k), (0, .ref 1009), (1, .ref 0), (2, .ref 114), (3, .ref 126), (4, .int (nI i))]) dL_law_443 (by decide) rfl ?_
  refine z_aload_n 4 dL_law_445 rfl rfl ?_
  refine z_callV (N := mX10_thrown) 0 [] [] lX10_thrown ⟨zw_1236, zw_1237, zw_1238⟩ rfl e2 rfl rfl (by decide) (by decide) ⟨l2, l2⟩ ⟨by omega, by omega⟩ (fun z => by rw [hG] at z; cases z) T dL_law_446 ?_
  refine z_iload 1 dL_law_449 rfl ?_
  have K9 : zPW G mL_law mc ms (.inr (some (.int 1))) h' (cells + m1 + 0 + 0) (slots + s1 + 0 + 0) 473 [(6, .int v), (5, .int k), (0, .ref 1009), (1, .ref 0), (2, .ref 114), (3, .ref 126), (4, .int (nI i))] [] H2 := by
    refine z_goto (tgt := 1635) dL_law_473 (by decide) ?_
    refine z_sub [2, 3, 4, 5, 6] rfl ?_
    exact z_widen hG (by omega) (by omega) K
  refine z_icmp_eq (tgt := 456) dL_law_451 (by decide) (fun _ => ?_) (fun q => absurd rfl q)
  refine z_iload 1 dL_law_456 rfl ?_
  refine z_if_ne (tgt := 473) dL_law_458 (by decide) (fun _ => K9) (fun q => ?_)
  refine z_aload_n 5 dL_law_461 rfl rfl ?_
  refine z_iconst (v := 0) dL_law_462 (by decide) ?_
  refine z_lald e3 (by unfold vp_in; decide) dL_law_463 ?_
  refine z_iload 0 dL_law_464 rfl ?_
  refine z_i2l dL_law_466 ?_
  refine z_lcmp dL_law_467 ?_
  exact z_if_eq (tgt := 473) dL_law_468 (by decide) (fun _ => K9) (fun q9 => absurd (zL_cmp (ho q)) q9)

theorem lH_setLimit : zCalH mL_setLimit 3 := ⟨by decide, zG_in 1016 (by decide +kernel) (by decide +kernel), zw_105, ⟨by decide +kernel, by decide +kernel, by decide +kernel⟩, by decide⟩
set_option maxHeartbeats 4000000 in
set_option maxRecDepth 100000 in
theorem law_c4 {G : zT} (hG : zAl G = false) {mc ms i cells slots : Nat} {k0 : Int32} {out : Nat → Int64} {H : zH} (h : zGd k0 out H) (hi : i + 6 ≤ zAd G 1999) (hL : zAd G 1999 ≤ 3072) (hc : cells + 1 ≤ mc) (hs : slots + 6 ≤ ms)
    (K : ∀ (k : Int32) (out : Nat → Int64) (H : zH), zGd k out H → ∃ h', zPW G mL_law mc ms (.inr (some (.int 1))) h' (cells + 1) (slots + 6) 1635 [(0, .ref 1009), (1, .ref 0), (2, .ref 114), (3, .ref 126), (4, .int (nI i))] [] H) : ∃ h', zPW G mL_law mc ms (.inr (some (.int 1))) h' cells slots 476 [(0, .ref 1009), (1, .ref 0), (2, .ref 114), (3, .ref 126), (4, .int (nI i))] [] H := by
  obtain ⟨m1, s1, k, v, H1, H2, out2, hm1, hs1, R1, R2, g2, ho, z1⟩ := s_setLimit hG (zNcs_ok G) h (nI (zAd G (2000 + (i + 1))))
  obtain ⟨h', K⟩ := K k out2 H2 g2
  refine ⟨h', ?_⟩
  have l0 := h.isH.len
  have l1 := z1.len
  have l2 := g2.isH.len
  obtain ⟨f1, e1⟩ := z1.o114
  obtain ⟨f2, e2⟩ := g2.isH.o114
  have e3 := g2.out
  have T := zGd.thr hG g2
  have hb : zAd G 1999 < 2 ^ 31 := by omega
  refine z_aload_n 1 dL_law_476 rfl rfl ?_
  refine z_aload_n 0 dL_law_477 rfl rfl ?_
  refine z_iload 4 dL_law_478 rfl ?_
  refine z_iconst (v := nI 1) dL_law_480 (by decide) ?_
  refine z_iadd dL_law_481 ?_
  refine z_top (congrArg Value.int (nI_add i 1)) ?_
  refine z_sld (j := i + 1) (by omega) hb dL_law_482 ?_
  refine z_aload_n 3 dL_law_483 rfl rfl ?_
  refine z_callSH (N := mL_setLimit) 3 [.ref 0, .int (nI (zAd G (2000 + (i + 1)))), .ref 126] [] lH_setLimit ⟨zw_1014, zw_1015⟩ rfl rfl (by decide) (by decide) ⟨l0, l1⟩ hG ⟨by omega, by omega⟩ R1 dL_law_484 ?_
  refine z_istore (lv' := [(5, .int k), (0, .ref 1009), (1, .ref 0), (2, .ref 114), (3, .ref 126), (4, .int (nI i))]) dL_law_487 (by decide) rfl ?_
  refine z_aload_n 3 dL_law_489 rfl rfl ?_
  refine z_aload_n 1 dL_law_490 rfl rfl ?_
  refine z_iload 5 dL_law_491 rfl ?_
  refine z_iconst (v := nI 1) dL_law_493 (by decide) ?_
  refine z_iadd dL_law_494 ?_
  refine z_top (congrArg Value.int (nI_add i 1)) ?_
  refine z_sld (j := i + 1) (by omega) hb dL_law_495 ?_
  refine z_callV (N := mX10_setLimit) 1 [.int (nI (zAd G (2000 + (i + 1))))] [] lX10_setLimit ⟨zw_1304, zw_1305, zw_1306⟩ rfl e1 rfl rfl (by decide) (by decide) ⟨l1, l2⟩ ⟨by omega, by omega⟩ (fun z => by rw [hG] at z; cases z) R2 dL_law_496 ?_
  refine z_istore (lv' := [(6, .int v), (5, .int k), (0, .ref 1009), (1, .ref 0), (2, .ref 114), (3, .ref 126), (4, .int (nI i))]) dL_law_499 (by decide) rfl ?_
  refine z_aload_n 4 dL_law_501 rfl rfl ?_
  refine z_callV (N := mX10_thrown) 0 [] [] lX10_thrown ⟨zw_1236, zw_1237, zw_1238⟩ rfl e2 rfl rfl (by decide) (by decide) ⟨l2, l2⟩ ⟨by omega, by omega⟩ (fun z => by rw [hG] at z; cases z) T dL_law_502 ?_
  refine z_iload 1 dL_law_505 rfl ?_
  have K9 : zPW G mL_law mc ms (.inr (some (.int 1))) h' (cells + m1 + 0 + 0) (slots + s1 + 0 + 0) 529 [(6, .int v), (5, .int k), (0, .ref 1009), (1, .ref 0), (2, .ref 114), (3, .ref 126), (4, .int (nI i))] [] H2 := by
    refine z_goto (tgt := 1635) dL_law_529 (by decide) ?_
    refine z_sub [2, 3, 4, 5, 6] rfl ?_
    exact z_widen hG (by omega) (by omega) K
  refine z_icmp_eq (tgt := 512) dL_law_507 (by decide) (fun _ => ?_) (fun q => absurd rfl q)
  refine z_iload 1 dL_law_512 rfl ?_
  refine z_if_ne (tgt := 529) dL_law_514 (by decide) (fun _ => K9) (fun q => ?_)
  refine z_aload_n 5 dL_law_517 rfl rfl ?_
  refine z_iconst (v := 0) dL_law_518 (by decide) ?_
  refine z_lald e3 (by unfold vp_in; decide) dL_law_519 ?_
  refine z_iload 0 dL_law_520 rfl ?_
  refine z_i2l dL_law_522 ?_
  refine z_lcmp dL_law_523 ?_
  exact z_if_eq (tgt := 529) dL_law_524 (by decide) (fun _ => K9) (fun q9 => absurd (zL_cmp (ho q)) q9)

theorem lH_plant : zCalH mL_plant 4 := ⟨by decide, zG_in 1023 (by decide +kernel) (by decide +kernel), zw_105, ⟨by decide +kernel, by decide +kernel, by decide +kernel⟩, by decide⟩
set_option maxHeartbeats 4000000 in
set_option maxRecDepth 100000 in
theorem law_c5 {G : zT} (hG : zAl G = false) {mc ms i cells slots : Nat} {k0 : Int32} {out : Nat → Int64} {H : zH} (h : zGd k0 out H) (hi : i + 6 ≤ zAd G 1999) (hL : zAd G 1999 ≤ 3072) (hc : cells + 1 ≤ mc) (hs : slots + 6 ≤ ms)
    (K : ∀ (k : Int32) (out : Nat → Int64) (H : zH), zGd k out H → ∃ h', zPW G mL_law mc ms (.inr (some (.int 1))) h' (cells + 1) (slots + 6) 1635 [(0, .ref 1009), (1, .ref 0), (2, .ref 114), (3, .ref 126), (4, .int (nI i))] [] H) : ∃ h', zPW G mL_law mc ms (.inr (some (.int 1))) h' cells slots 532 [(0, .ref 1009), (1, .ref 0), (2, .ref 114), (3, .ref 126), (4, .int (nI i))] [] H := by
  obtain ⟨m1, s1, k, v, H1, H2, out2, hm1, hs1, R1, R2, g2, ho, z1⟩ := s_plant hG (zNcs_ok G) h (nI (zAd G (2000 + (i + 1)))) (nI (zAd G (2000 + (i + 2))))
  obtain ⟨h', K⟩ := K k out2 H2 g2
  refine ⟨h', ?_⟩
  have l0 := h.isH.len
  have l1 := z1.len
  have l2 := g2.isH.len
  obtain ⟨f1, e1⟩ := z1.o114
  obtain ⟨f2, e2⟩ := g2.isH.o114
  have e3 := g2.out
  have T := zGd.thr hG g2
  have hb : zAd G 1999 < 2 ^ 31 := by omega
  refine z_aload_n 1 dL_law_532 rfl rfl ?_
  refine z_aload_n 0 dL_law_533 rfl rfl ?_
  refine z_iload 4 dL_law_534 rfl ?_
  refine z_iconst (v := nI 1) dL_law_536 (by decide) ?_
  refine z_iadd dL_law_537 ?_
  refine z_top (congrArg Value.int (nI_add i 1)) ?_
  refine z_sld (j := i + 1) (by omega) hb dL_law_538 ?_
  refine z_aload_n 0 dL_law_539 rfl rfl ?_
  refine z_iload 4 dL_law_540 rfl ?_
  refine z_iconst (v := nI 2) dL_law_542 (by decide) ?_
  refine z_iadd dL_law_543 ?_
  refine z_top (congrArg Value.int (nI_add i 2)) ?_
  refine z_sld (j := i + 2) (by omega) hb dL_law_544 ?_
  refine z_aload_n 3 dL_law_545 rfl rfl ?_
  refine z_callSH (N := mL_plant) 4 [.ref 0, .int (nI (zAd G (2000 + (i + 1)))), .int (nI (zAd G (2000 + (i + 2)))), .ref 126] [] lH_plant ⟨zw_1021, zw_1022⟩ rfl rfl (by decide) (by decide) ⟨l0, l1⟩ hG ⟨by omega, by omega⟩ R1 dL_law_546 ?_
  refine z_istore (lv' := [(5, .int k), (0, .ref 1009), (1, .ref 0), (2, .ref 114), (3, .ref 126), (4, .int (nI i))]) dL_law_549 (by decide) rfl ?_
  refine z_aload_n 3 dL_law_551 rfl rfl ?_
  refine z_aload_n 1 dL_law_552 rfl rfl ?_
  refine z_iload 5 dL_law_553 rfl ?_
  refine z_iconst (v := nI 1) dL_law_555 (by decide) ?_
  refine z_iadd dL_law_556 ?_
  refine z_top (congrArg Value.int (nI_add i 1)) ?_
  refine z_sld (j := i + 1) (by omega) hb dL_law_557 ?_
  refine z_aload_n 1 dL_law_558 rfl rfl ?_
  refine z_iload 5 dL_law_559 rfl ?_
  refine z_iconst (v := nI 2) dL_law_561 (by decide) ?_
  refine z_iadd dL_law_562 ?_
  refine z_top (congrArg Value.int (nI_add i 2)) ?_
  refine z_sld (j := i + 2) (by omega) hb dL_law_563 ?_
  refine z_callV (N := mX10_plant) 2 [.int (nI (zAd G (2000 + (i + 1)))), .int (nI (zAd G (2000 + (i + 2))))] [] lX10_plant ⟨zw_1332, zw_1333, zw_1334⟩ rfl e1 rfl rfl (by decide) (by decide) ⟨l1, l2⟩ ⟨by omega, by omega⟩ (fun z => by rw [hG] at z; cases z) R2 dL_law_564 ?_
  refine z_istore (lv' := [(6, .int v), (5, .int k), (0, .ref 1009), (1, .ref 0), (2, .ref 114), (3, .ref 126), (4, .int (nI i))]) dL_law_567 (by decide) rfl ?_
  refine z_aload_n 4 dL_law_569 rfl rfl ?_
  refine z_callV (N := mX10_thrown) 0 [] [] lX10_thrown ⟨zw_1236, zw_1237, zw_1238⟩ rfl e2 rfl rfl (by decide) (by decide) ⟨l2, l2⟩ ⟨by omega, by omega⟩ (fun z => by rw [hG] at z; cases z) T dL_law_570 ?_
  refine z_iload 1 dL_law_573 rfl ?_
  have K9 : zPW G mL_law mc ms (.inr (some (.int 1))) h' (cells + m1 + 0 + 0) (slots + s1 + 0 + 0) 597 [(6, .int v), (5, .int k), (0, .ref 1009), (1, .ref 0), (2, .ref 114), (3, .ref 126), (4, .int (nI i))] [] H2 := by
    refine z_goto (tgt := 1635) dL_law_597 (by decide) ?_
    refine z_sub [2, 3, 4, 5, 6] rfl ?_
    exact z_widen hG (by omega) (by omega) K
  refine z_icmp_eq (tgt := 580) dL_law_575 (by decide) (fun _ => ?_) (fun q => absurd rfl q)
  refine z_iload 1 dL_law_580 rfl ?_
  refine z_if_ne (tgt := 597) dL_law_582 (by decide) (fun _ => K9) (fun q => ?_)
  refine z_aload_n 5 dL_law_585 rfl rfl ?_
  refine z_iconst (v := 0) dL_law_586 (by decide) ?_
  refine z_lald e3 (by unfold vp_in; decide) dL_law_587 ?_
  refine z_iload 0 dL_law_588 rfl ?_
  refine z_i2l dL_law_590 ?_
  refine z_lcmp dL_law_591 ?_
  exact z_if_eq (tgt := 597) dL_law_592 (by decide) (fun _ => K9) (fun q9 => absurd (zL_cmp (ho q)) q9)

theorem lH_weave : zCalH mL_weave 3 := ⟨by decide, zG_in 1030 (by decide +kernel) (by decide +kernel), zw_105, ⟨by decide +kernel, by decide +kernel, by decide +kernel⟩, by decide⟩
set_option maxHeartbeats 4000000 in
set_option maxRecDepth 100000 in
theorem law_c6 {G : zT} (hG : zAl G = false) {mc ms i cells slots : Nat} {k0 : Int32} {out : Nat → Int64} {H : zH} (h : zGd k0 out H) (hi : i + 6 ≤ zAd G 1999) (hL : zAd G 1999 ≤ 3072) (hc : cells + 1 ≤ mc) (hs : slots + 6 ≤ ms)
    (K : ∀ (k : Int32) (out : Nat → Int64) (H : zH), zGd k out H → ∃ h', zPW G mL_law mc ms (.inr (some (.int 1))) h' (cells + 1) (slots + 6) 1635 [(0, .ref 1009), (1, .ref 0), (2, .ref 114), (3, .ref 126), (4, .int (nI i))] [] H) : ∃ h', zPW G mL_law mc ms (.inr (some (.int 1))) h' cells slots 600 [(0, .ref 1009), (1, .ref 0), (2, .ref 114), (3, .ref 126), (4, .int (nI i))] [] H := by
  obtain ⟨m1, s1, k, v, H1, H2, out2, hm1, hs1, R1, R2, g2, ho, z1⟩ := s_weave hG (zNcs_ok G) h (nI (zAd G (2000 + (i + 1))))
  obtain ⟨h', K⟩ := K k out2 H2 g2
  refine ⟨h', ?_⟩
  have l0 := h.isH.len
  have l1 := z1.len
  have l2 := g2.isH.len
  obtain ⟨f1, e1⟩ := z1.o114
  obtain ⟨f2, e2⟩ := g2.isH.o114
  have e3 := g2.out
  have T := zGd.thr hG g2
  have hb : zAd G 1999 < 2 ^ 31 := by omega
  refine z_aload_n 1 dL_law_600 rfl rfl ?_
  refine z_aload_n 0 dL_law_601 rfl rfl ?_
  refine z_iload 4 dL_law_602 rfl ?_
  refine z_iconst (v := nI 1) dL_law_604 (by decide) ?_
  refine z_iadd dL_law_605 ?_
  refine z_top (congrArg Value.int (nI_add i 1)) ?_
  refine z_sld (j := i + 1) (by omega) hb dL_law_606 ?_
  refine z_aload_n 3 dL_law_607 rfl rfl ?_
  refine z_callSH (N := mL_weave) 3 [.ref 0, .int (nI (zAd G (2000 + (i + 1)))), .ref 126] [] lH_weave ⟨zw_1028, zw_1029⟩ rfl rfl (by decide) (by decide) ⟨l0, l1⟩ hG ⟨by omega, by omega⟩ R1 dL_law_608 ?_
  refine z_istore (lv' := [(5, .int k), (0, .ref 1009), (1, .ref 0), (2, .ref 114), (3, .ref 126), (4, .int (nI i))]) dL_law_611 (by decide) rfl ?_
  refine z_aload_n 3 dL_law_613 rfl rfl ?_
  refine z_aload_n 1 dL_law_614 rfl rfl ?_
  refine z_iload 5 dL_law_615 rfl ?_
  refine z_iconst (v := nI 1) dL_law_617 (by decide) ?_
  refine z_iadd dL_law_618 ?_
  refine z_top (congrArg Value.int (nI_add i 1)) ?_
  refine z_sld (j := i + 1) (by omega) hb dL_law_619 ?_
  refine z_callV (N := mX10_weave) 1 [.int (nI (zAd G (2000 + (i + 1))))] [] lX10_weave ⟨zw_1344, zw_1345, zw_1346⟩ rfl e1 rfl rfl (by decide) (by decide) ⟨l1, l2⟩ ⟨by omega, by omega⟩ (fun z => by rw [hG] at z; cases z) R2 dL_law_620 ?_
  refine z_istore (lv' := [(6, .int v), (5, .int k), (0, .ref 1009), (1, .ref 0), (2, .ref 114), (3, .ref 126), (4, .int (nI i))]) dL_law_623 (by decide) rfl ?_
  refine z_aload_n 4 dL_law_625 rfl rfl ?_
  refine z_callV (N := mX10_thrown) 0 [] [] lX10_thrown ⟨zw_1236, zw_1237, zw_1238⟩ rfl e2 rfl rfl (by decide) (by decide) ⟨l2, l2⟩ ⟨by omega, by omega⟩ (fun z => by rw [hG] at z; cases z) T dL_law_626 ?_
  refine z_iload 1 dL_law_629 rfl ?_
  have K9 : zPW G mL_law mc ms (.inr (some (.int 1))) h' (cells + m1 + 0 + 0) (slots + s1 + 0 + 0) 653 [(6, .int v), (5, .int k), (0, .ref 1009), (1, .ref 0), (2, .ref 114), (3, .ref 126), (4, .int (nI i))] [] H2 := by
    refine z_goto (tgt := 1635) dL_law_653 (by decide) ?_
    refine z_sub [2, 3, 4, 5, 6] rfl ?_
    exact z_widen hG (by omega) (by omega) K
  refine z_icmp_eq (tgt := 636) dL_law_631 (by decide) (fun _ => ?_) (fun q => absurd rfl q)
  refine z_iload 1 dL_law_636 rfl ?_
  refine z_if_ne (tgt := 653) dL_law_638 (by decide) (fun _ => K9) (fun q => ?_)
  refine z_aload_n 5 dL_law_641 rfl rfl ?_
  refine z_iconst (v := 0) dL_law_642 (by decide) ?_
  refine z_lald e3 (by unfold vp_in; decide) dL_law_643 ?_
  refine z_iload 0 dL_law_644 rfl ?_
  refine z_i2l dL_law_646 ?_
  refine z_lcmp dL_law_647 ?_
  exact z_if_eq (tgt := 653) dL_law_648 (by decide) (fun _ => K9) (fun q9 => absurd (zL_cmp (ho q)) q9)

theorem lH_unweave : zCalH mL_unweave 3 := ⟨by decide, zG_in 1037 (by decide +kernel) (by decide +kernel), zw_105, ⟨by decide +kernel, by decide +kernel, by decide +kernel⟩, by decide⟩
set_option maxHeartbeats 4000000 in
set_option maxRecDepth 100000 in
theorem law_c7 {G : zT} (hG : zAl G = false) {mc ms i cells slots : Nat} {k0 : Int32} {out : Nat → Int64} {H : zH} (h : zGd k0 out H) (hi : i + 6 ≤ zAd G 1999) (hL : zAd G 1999 ≤ 3072) (hc : cells + 1 ≤ mc) (hs : slots + 6 ≤ ms)
    (K : ∀ (k : Int32) (out : Nat → Int64) (H : zH), zGd k out H → ∃ h', zPW G mL_law mc ms (.inr (some (.int 1))) h' (cells + 1) (slots + 6) 1635 [(0, .ref 1009), (1, .ref 0), (2, .ref 114), (3, .ref 126), (4, .int (nI i))] [] H) : ∃ h', zPW G mL_law mc ms (.inr (some (.int 1))) h' cells slots 656 [(0, .ref 1009), (1, .ref 0), (2, .ref 114), (3, .ref 126), (4, .int (nI i))] [] H := by
  obtain ⟨m1, s1, k, v, H1, H2, out2, hm1, hs1, R1, R2, g2, ho, z1⟩ := s_unweave hG (zNcs_ok G) h (nI (zAd G (2000 + (i + 1))))
  obtain ⟨h', K⟩ := K k out2 H2 g2
  refine ⟨h', ?_⟩
  have l0 := h.isH.len
  have l1 := z1.len
  have l2 := g2.isH.len
  obtain ⟨f1, e1⟩ := z1.o114
  obtain ⟨f2, e2⟩ := g2.isH.o114
  have e3 := g2.out
  have T := zGd.thr hG g2
  have hb : zAd G 1999 < 2 ^ 31 := by omega
  refine z_aload_n 1 dL_law_656 rfl rfl ?_
  refine z_aload_n 0 dL_law_657 rfl rfl ?_
  refine z_iload 4 dL_law_658 rfl ?_
  refine z_iconst (v := nI 1) dL_law_660 (by decide) ?_
  refine z_iadd dL_law_661 ?_
  refine z_top (congrArg Value.int (nI_add i 1)) ?_
  refine z_sld (j := i + 1) (by omega) hb dL_law_662 ?_
  refine z_aload_n 3 dL_law_663 rfl rfl ?_
  refine z_callSH (N := mL_unweave) 3 [.ref 0, .int (nI (zAd G (2000 + (i + 1)))), .ref 126] [] lH_unweave ⟨zw_1035, zw_1036⟩ rfl rfl (by decide) (by decide) ⟨l0, l1⟩ hG ⟨by omega, by omega⟩ R1 dL_law_664 ?_
  refine z_istore (lv' := [(5, .int k), (0, .ref 1009), (1, .ref 0), (2, .ref 114), (3, .ref 126), (4, .int (nI i))]) dL_law_667 (by decide) rfl ?_
  refine z_aload_n 3 dL_law_669 rfl rfl ?_
  refine z_aload_n 1 dL_law_670 rfl rfl ?_
  refine z_iload 5 dL_law_671 rfl ?_
  refine z_iconst (v := nI 1) dL_law_673 (by decide) ?_
  refine z_iadd dL_law_674 ?_
  refine z_top (congrArg Value.int (nI_add i 1)) ?_
  refine z_sld (j := i + 1) (by omega) hb dL_law_675 ?_
  refine z_callV (N := mX10_unweave) 1 [.int (nI (zAd G (2000 + (i + 1))))] [] lX10_unweave ⟨zw_1392, zw_1393, zw_1394⟩ rfl e1 rfl rfl (by decide) (by decide) ⟨l1, l2⟩ ⟨by omega, by omega⟩ (fun z => by rw [hG] at z; cases z) R2 dL_law_676 ?_
  refine z_istore (lv' := [(6, .int v), (5, .int k), (0, .ref 1009), (1, .ref 0), (2, .ref 114), (3, .ref 126), (4, .int (nI i))]) dL_law_679 (by decide) rfl ?_
  refine z_aload_n 4 dL_law_681 rfl rfl ?_
  refine z_callV (N := mX10_thrown) 0 [] [] lX10_thrown ⟨zw_1236, zw_1237, zw_1238⟩ rfl e2 rfl rfl (by decide) (by decide) ⟨l2, l2⟩ ⟨by omega, by omega⟩ (fun z => by rw [hG] at z; cases z) T dL_law_682 ?_
  refine z_iload 1 dL_law_685 rfl ?_
  have K9 : zPW G mL_law mc ms (.inr (some (.int 1))) h' (cells + m1 + 0 + 0) (slots + s1 + 0 + 0) 709 [(6, .int v), (5, .int k), (0, .ref 1009), (1, .ref 0), (2, .ref 114), (3, .ref 126), (4, .int (nI i))] [] H2 := by
    refine z_goto (tgt := 1635) dL_law_709 (by decide) ?_
    refine z_sub [2, 3, 4, 5, 6] rfl ?_
    exact z_widen hG (by omega) (by omega) K
  refine z_icmp_eq (tgt := 692) dL_law_687 (by decide) (fun _ => ?_) (fun q => absurd rfl q)
  refine z_iload 1 dL_law_692 rfl ?_
  refine z_if_ne (tgt := 709) dL_law_694 (by decide) (fun _ => K9) (fun q => ?_)
  refine z_aload_n 5 dL_law_697 rfl rfl ?_
  refine z_iconst (v := 0) dL_law_698 (by decide) ?_
  refine z_lald e3 (by unfold vp_in; decide) dL_law_699 ?_
  refine z_iload 0 dL_law_700 rfl ?_
  refine z_i2l dL_law_702 ?_
  refine z_lcmp dL_law_703 ?_
  exact z_if_eq (tgt := 709) dL_law_704 (by decide) (fun _ => K9) (fun q9 => absurd (zL_cmp (ho q)) q9)

theorem lH_sew : zCalH mL_sew 3 := ⟨by decide, zG_in 1044 (by decide +kernel) (by decide +kernel), zw_105, ⟨by decide +kernel, by decide +kernel, by decide +kernel⟩, by decide⟩
set_option maxHeartbeats 4000000 in
set_option maxRecDepth 100000 in
theorem law_c8 {G : zT} (hG : zAl G = false) {mc ms i cells slots : Nat} {k0 : Int32} {out : Nat → Int64} {H : zH} (h : zGd k0 out H) (hi : i + 6 ≤ zAd G 1999) (hL : zAd G 1999 ≤ 3072) (hc : cells + 1 ≤ mc) (hs : slots + 6 ≤ ms)
    (K : ∀ (k : Int32) (out : Nat → Int64) (H : zH), zGd k out H → ∃ h', zPW G mL_law mc ms (.inr (some (.int 1))) h' (cells + 1) (slots + 6) 1635 [(0, .ref 1009), (1, .ref 0), (2, .ref 114), (3, .ref 126), (4, .int (nI i))] [] H) : ∃ h', zPW G mL_law mc ms (.inr (some (.int 1))) h' cells slots 712 [(0, .ref 1009), (1, .ref 0), (2, .ref 114), (3, .ref 126), (4, .int (nI i))] [] H := by
  obtain ⟨m1, s1, k, v, H1, H2, out2, hm1, hs1, R1, R2, g2, ho, z1⟩ := s_sew hG (zNcs_ok G) h (nI (zAd G (2000 + (i + 1))))
  obtain ⟨h', K⟩ := K k out2 H2 g2
  refine ⟨h', ?_⟩
  have l0 := h.isH.len
  have l1 := z1.len
  have l2 := g2.isH.len
  obtain ⟨f1, e1⟩ := z1.o114
  obtain ⟨f2, e2⟩ := g2.isH.o114
  have e3 := g2.out
  have T := zGd.thr hG g2
  have hb : zAd G 1999 < 2 ^ 31 := by omega
  refine z_aload_n 1 dL_law_712 rfl rfl ?_
  refine z_aload_n 0 dL_law_713 rfl rfl ?_
  refine z_iload 4 dL_law_714 rfl ?_
  refine z_iconst (v := nI 1) dL_law_716 (by decide) ?_
  refine z_iadd dL_law_717 ?_
  refine z_top (congrArg Value.int (nI_add i 1)) ?_
  refine z_sld (j := i + 1) (by omega) hb dL_law_718 ?_
  refine z_aload_n 3 dL_law_719 rfl rfl ?_
  refine z_callSH (N := mL_sew) 3 [.ref 0, .int (nI (zAd G (2000 + (i + 1)))), .ref 126] [] lH_sew ⟨zw_1042, zw_1043⟩ rfl rfl (by decide) (by decide) ⟨l0, l1⟩ hG ⟨by omega, by omega⟩ R1 dL_law_720 ?_
  refine z_istore (lv' := [(5, .int k), (0, .ref 1009), (1, .ref 0), (2, .ref 114), (3, .ref 126), (4, .int (nI i))]) dL_law_723 (by decide) rfl ?_
  refine z_aload_n 3 dL_law_725 rfl rfl ?_
  refine z_aload_n 1 dL_law_726 rfl rfl ?_
  refine z_iload 5 dL_law_727 rfl ?_
  refine z_iconst (v := nI 1) dL_law_729 (by decide) ?_
  refine z_iadd dL_law_730 ?_
  refine z_top (congrArg Value.int (nI_add i 1)) ?_
  refine z_sld (j := i + 1) (by omega) hb dL_law_731 ?_
  refine z_callV (N := mX10_sew) 1 [.int (nI (zAd G (2000 + (i + 1))))] [] lX10_sew ⟨zw_1404, zw_1405, zw_1406⟩ rfl e1 rfl rfl (by decide) (by decide) ⟨l1, l2⟩ ⟨by omega, by omega⟩ (fun z => by rw [hG] at z; cases z) R2 dL_law_732 ?_
  refine z_istore (lv' := [(6, .int v), (5, .int k), (0, .ref 1009), (1, .ref 0), (2, .ref 114), (3, .ref 126), (4, .int (nI i))]) dL_law_735 (by decide) rfl ?_
  refine z_aload_n 4 dL_law_737 rfl rfl ?_
  refine z_callV (N := mX10_thrown) 0 [] [] lX10_thrown ⟨zw_1236, zw_1237, zw_1238⟩ rfl e2 rfl rfl (by decide) (by decide) ⟨l2, l2⟩ ⟨by omega, by omega⟩ (fun z => by rw [hG] at z; cases z) T dL_law_738 ?_
  refine z_iload 1 dL_law_741 rfl ?_
  have K9 : zPW G mL_law mc ms (.inr (some (.int 1))) h' (cells + m1 + 0 + 0) (slots + s1 + 0 + 0) 765 [(6, .int v), (5, .int k), (0, .ref 1009), (1, .ref 0), (2, .ref 114), (3, .ref 126), (4, .int (nI i))] [] H2 := by
    refine z_goto (tgt := 1635) dL_law_765 (by decide) ?_
    refine z_sub [2, 3, 4, 5, 6] rfl ?_
    exact z_widen hG (by omega) (by omega) K
  refine z_icmp_eq (tgt := 748) dL_law_743 (by decide) (fun _ => ?_) (fun q => absurd rfl q)
  refine z_iload 1 dL_law_748 rfl ?_
  refine z_if_ne (tgt := 765) dL_law_750 (by decide) (fun _ => K9) (fun q => ?_)
  refine z_aload_n 5 dL_law_753 rfl rfl ?_
  refine z_iconst (v := 0) dL_law_754 (by decide) ?_
  refine z_lald e3 (by unfold vp_in; decide) dL_law_755 ?_
  refine z_iload 0 dL_law_756 rfl ?_
  refine z_i2l dL_law_758 ?_
  refine z_lcmp dL_law_759 ?_
  exact z_if_eq (tgt := 765) dL_law_760 (by decide) (fun _ => K9) (fun q9 => absurd (zL_cmp (ho q)) q9)

theorem lH_cell : zCalH mL_cell 5 := ⟨by decide, zG_in 1051 (by decide +kernel) (by decide +kernel), zw_105, ⟨by decide +kernel, by decide +kernel, by decide +kernel⟩, by decide⟩
set_option maxHeartbeats 4000000 in
set_option maxRecDepth 100000 in
theorem law_c9 {G : zT} (hG : zAl G = false) {mc ms i cells slots : Nat} {k0 : Int32} {out : Nat → Int64} {H : zH} (h : zGd k0 out H) (hi : i + 6 ≤ zAd G 1999) (hL : zAd G 1999 ≤ 3072) (hc : cells + 1 ≤ mc) (hs : slots + 6 ≤ ms)
    (K : ∀ (k : Int32) (out : Nat → Int64) (H : zH), zGd k out H → ∃ h', zPW G mL_law mc ms (.inr (some (.int 1))) h' (cells + 1) (slots + 6) 1635 [(0, .ref 1009), (1, .ref 0), (2, .ref 114), (3, .ref 126), (4, .int (nI i))] [] H) : ∃ h', zPW G mL_law mc ms (.inr (some (.int 1))) h' cells slots 768 [(0, .ref 1009), (1, .ref 0), (2, .ref 114), (3, .ref 126), (4, .int (nI i))] [] H := by
  obtain ⟨m1, s1, k, v, H1, H2, out2, hm1, hs1, R1, R2, g2, ho, z1⟩ := s_cell hG (zNcs_ok G) h (nI (zAd G (2000 + (i + 1)))) (nI (zAd G (2000 + (i + 2)))) (nI (zAd G (2000 + (i + 3))))
  obtain ⟨h', K⟩ := K k out2 H2 g2
  refine ⟨h', ?_⟩
  have l0 := h.isH.len
  have l1 := z1.len
  have l2 := g2.isH.len
  obtain ⟨f1, e1⟩ := z1.o114
  obtain ⟨f2, e2⟩ := g2.isH.o114
  have e3 := g2.out
  have T := zGd.thr hG g2
  have hb : zAd G 1999 < 2 ^ 31 := by omega
  refine z_aload_n 1 dL_law_768 rfl rfl ?_
  refine z_aload_n 0 dL_law_769 rfl rfl ?_
  refine z_iload 4 dL_law_770 rfl ?_
  refine z_iconst (v := nI 1) dL_law_772 (by decide) ?_
  refine z_iadd dL_law_773 ?_
  refine z_top (congrArg Value.int (nI_add i 1)) ?_
  refine z_sld (j := i + 1) (by omega) hb dL_law_774 ?_
  refine z_aload_n 0 dL_law_775 rfl rfl ?_
  refine z_iload 4 dL_law_776 rfl ?_
  refine z_iconst (v := nI 2) dL_law_778 (by decide) ?_
  refine z_iadd dL_law_779 ?_
  refine z_top (congrArg Value.int (nI_add i 2)) ?_
  refine z_sld (j := i + 2) (by omega) hb dL_law_780 ?_
  refine z_aload_n 0 dL_law_781 rfl rfl ?_
  refine z_iload 4 dL_law_782 rfl ?_
  refine z_iconst (v := nI 3) dL_law_784 (by decide) ?_
  refine z_iadd dL_law_785 ?_
  refine z_top (congrArg Value.int (nI_add i 3)) ?_
  refine z_sld (j := i + 3) (by omega) hb dL_law_786 ?_
  refine z_aload_n 3 dL_law_787 rfl rfl ?_
  refine z_callSH (N := mL_cell) 5 [.ref 0, .int (nI (zAd G (2000 + (i + 1)))), .int (nI (zAd G (2000 + (i + 2)))), .int (nI (zAd G (2000 + (i + 3)))), .ref 126] [] lH_cell ⟨zw_1049, zw_1050⟩ rfl rfl (by decide) (by decide) ⟨l0, l1⟩ hG ⟨by omega, by omega⟩ R1 dL_law_788 ?_
  refine z_istore (lv' := [(5, .int k), (0, .ref 1009), (1, .ref 0), (2, .ref 114), (3, .ref 126), (4, .int (nI i))]) dL_law_791 (by decide) rfl ?_
  refine z_aload_n 3 dL_law_793 rfl rfl ?_
  refine z_aload_n 1 dL_law_794 rfl rfl ?_
  refine z_iload 5 dL_law_795 rfl ?_
  refine z_iconst (v := nI 1) dL_law_797 (by decide) ?_
  refine z_iadd dL_law_798 ?_
  refine z_top (congrArg Value.int (nI_add i 1)) ?_
  refine z_sld (j := i + 1) (by omega) hb dL_law_799 ?_
  refine z_aload_n 1 dL_law_800 rfl rfl ?_
  refine z_iload 5 dL_law_801 rfl ?_
  refine z_iconst (v := nI 2) dL_law_803 (by decide) ?_
  refine z_iadd dL_law_804 ?_
  refine z_top (congrArg Value.int (nI_add i 2)) ?_
  refine z_sld (j := i + 2) (by omega) hb dL_law_805 ?_
  refine z_aload_n 1 dL_law_806 rfl rfl ?_
  refine z_iload 5 dL_law_807 rfl ?_
  refine z_iconst (v := nI 3) dL_law_809 (by decide) ?_
  refine z_iadd dL_law_810 ?_
  refine z_top (congrArg Value.int (nI_add i 3)) ?_
  refine z_sld (j := i + 3) (by omega) hb dL_law_811 ?_
  refine z_callV (N := mX10_cell) 3 [.int (nI (zAd G (2000 + (i + 1)))), .int (nI (zAd G (2000 + (i + 2)))), .int (nI (zAd G (2000 + (i + 3))))] [] lX10_cell ⟨zw_1420, zw_1421, zw_1422⟩ rfl e1 rfl rfl (by decide) (by decide) ⟨l1, l2⟩ ⟨by omega, by omega⟩ (fun z => by rw [hG] at z; cases z) R2 dL_law_812 ?_
  refine z_istore (lv' := [(6, .int v), (5, .int k), (0, .ref 1009), (1, .ref 0), (2, .ref 114), (3, .ref 126), (4, .int (nI i))]) dL_law_815 (by decide) rfl ?_
  refine z_aload_n 4 dL_law_817 rfl rfl ?_
  refine z_callV (N := mX10_thrown) 0 [] [] lX10_thrown ⟨zw_1236, zw_1237, zw_1238⟩ rfl e2 rfl rfl (by decide) (by decide) ⟨l2, l2⟩ ⟨by omega, by omega⟩ (fun z => by rw [hG] at z; cases z) T dL_law_818 ?_
  refine z_iload 1 dL_law_821 rfl ?_
  have K9 : zPW G mL_law mc ms (.inr (some (.int 1))) h' (cells + m1 + 0 + 0) (slots + s1 + 0 + 0) 845 [(6, .int v), (5, .int k), (0, .ref 1009), (1, .ref 0), (2, .ref 114), (3, .ref 126), (4, .int (nI i))] [] H2 := by
    refine z_goto (tgt := 1635) dL_law_845 (by decide) ?_
    refine z_sub [2, 3, 4, 5, 6] rfl ?_
    exact z_widen hG (by omega) (by omega) K
  refine z_icmp_eq (tgt := 828) dL_law_823 (by decide) (fun _ => ?_) (fun q => absurd rfl q)
  refine z_iload 1 dL_law_828 rfl ?_
  refine z_if_ne (tgt := 845) dL_law_830 (by decide) (fun _ => K9) (fun q => ?_)
  refine z_aload_n 5 dL_law_833 rfl rfl ?_
  refine z_iconst (v := 0) dL_law_834 (by decide) ?_
  refine z_lald e3 (by unfold vp_in; decide) dL_law_835 ?_
  refine z_iload 0 dL_law_836 rfl ?_
  refine z_i2l dL_law_838 ?_
  refine z_lcmp dL_law_839 ?_
  exact z_if_eq (tgt := 845) dL_law_840 (by decide) (fun _ => K9) (fun q9 => absurd (zL_cmp (ho q)) q9)

theorem lH_row : zCalH mL_row 4 := ⟨by decide, zG_in 1059 (by decide +kernel) (by decide +kernel), zw_105, ⟨by decide +kernel, by decide +kernel, by decide +kernel⟩, by decide⟩
set_option maxHeartbeats 4000000 in
set_option maxRecDepth 100000 in
theorem law_c10 {G : zT} (hG : zAl G = false) {mc ms i cells slots : Nat} {k0 : Int32} {out : Nat → Int64} {H : zH} (h : zGd k0 out H) (hi : i + 6 ≤ zAd G 1999) (hL : zAd G 1999 ≤ 3072) (hc : cells + 1 ≤ mc) (hs : slots + 6 ≤ ms)
    (K : ∀ (k : Int32) (out : Nat → Int64) (H : zH), zGd k out H → ∃ h', zPW G mL_law mc ms (.inr (some (.int 1))) h' (cells + 1) (slots + 6) 1635 [(0, .ref 1009), (1, .ref 0), (2, .ref 114), (3, .ref 126), (4, .int (nI i))] [] H) : ∃ h', zPW G mL_law mc ms (.inr (some (.int 1))) h' cells slots 848 [(0, .ref 1009), (1, .ref 0), (2, .ref 114), (3, .ref 126), (4, .int (nI i))] [] H := by
  obtain ⟨m1, s1, k, v, H1, H2, out2, hm1, hs1, R1, R2, g2, ho, z1⟩ := s_row hG (zNcs_ok G) h (nI (zAd G (2000 + (i + 1)))) (nI (zAd G (2000 + (i + 2))))
  obtain ⟨h', K⟩ := K k out2 H2 g2
  refine ⟨h', ?_⟩
  have l0 := h.isH.len
  have l1 := z1.len
  have l2 := g2.isH.len
  obtain ⟨f1, e1⟩ := z1.o114
  obtain ⟨f2, e2⟩ := g2.isH.o114
  have e3 := g2.out
  have T := zGd.thr hG g2
  have hb : zAd G 1999 < 2 ^ 31 := by omega
  refine z_aload_n 1 dL_law_848 rfl rfl ?_
  refine z_aload_n 0 dL_law_849 rfl rfl ?_
  refine z_iload 4 dL_law_850 rfl ?_
  refine z_iconst (v := nI 1) dL_law_852 (by decide) ?_
  refine z_iadd dL_law_853 ?_
  refine z_top (congrArg Value.int (nI_add i 1)) ?_
  refine z_sld (j := i + 1) (by omega) hb dL_law_854 ?_
  refine z_aload_n 0 dL_law_855 rfl rfl ?_
  refine z_iload 4 dL_law_856 rfl ?_
  refine z_iconst (v := nI 2) dL_law_858 (by decide) ?_
  refine z_iadd dL_law_859 ?_
  refine z_top (congrArg Value.int (nI_add i 2)) ?_
  refine z_sld (j := i + 2) (by omega) hb dL_law_860 ?_
  refine z_aload_n 3 dL_law_861 rfl rfl ?_
  refine z_callSH (N := mL_row) 4 [.ref 0, .int (nI (zAd G (2000 + (i + 1)))), .int (nI (zAd G (2000 + (i + 2)))), .ref 126] [] lH_row ⟨zw_1057, zw_1058⟩ rfl rfl (by decide) (by decide) ⟨l0, l1⟩ hG ⟨by omega, by omega⟩ R1 dL_law_862 ?_
  refine z_istore (lv' := [(5, .int k), (0, .ref 1009), (1, .ref 0), (2, .ref 114), (3, .ref 126), (4, .int (nI i))]) dL_law_865 (by decide) rfl ?_
  refine z_aload_n 3 dL_law_867 rfl rfl ?_
  refine z_aload_n 1 dL_law_868 rfl rfl ?_
  refine z_iload 5 dL_law_869 rfl ?_
  refine z_iconst (v := nI 1) dL_law_871 (by decide) ?_
  refine z_iadd dL_law_872 ?_
  refine z_top (congrArg Value.int (nI_add i 1)) ?_
  refine z_sld (j := i + 1) (by omega) hb dL_law_873 ?_
  refine z_aload_n 1 dL_law_874 rfl rfl ?_
  refine z_iload 5 dL_law_875 rfl ?_
  refine z_iconst (v := nI 2) dL_law_877 (by decide) ?_
  refine z_iadd dL_law_878 ?_
  refine z_top (congrArg Value.int (nI_add i 2)) ?_
  refine z_sld (j := i + 2) (by omega) hb dL_law_879 ?_
  refine z_callV (N := mX10_row) 2 [.int (nI (zAd G (2000 + (i + 1)))), .int (nI (zAd G (2000 + (i + 2))))] [] lX10_row ⟨zw_1428, zw_1429, zw_1430⟩ rfl e1 rfl rfl (by decide) (by decide) ⟨l1, l2⟩ ⟨by omega, by omega⟩ (fun z => by rw [hG] at z; cases z) R2 dL_law_880 ?_
  refine z_istore (lv' := [(6, .int v), (5, .int k), (0, .ref 1009), (1, .ref 0), (2, .ref 114), (3, .ref 126), (4, .int (nI i))]) dL_law_883 (by decide) rfl ?_
  refine z_aload_n 4 dL_law_885 rfl rfl ?_
  refine z_callV (N := mX10_thrown) 0 [] [] lX10_thrown ⟨zw_1236, zw_1237, zw_1238⟩ rfl e2 rfl rfl (by decide) (by decide) ⟨l2, l2⟩ ⟨by omega, by omega⟩ (fun z => by rw [hG] at z; cases z) T dL_law_886 ?_
  refine z_iload 1 dL_law_889 rfl ?_
  have K9 : zPW G mL_law mc ms (.inr (some (.int 1))) h' (cells + m1 + 0 + 0) (slots + s1 + 0 + 0) 913 [(6, .int v), (5, .int k), (0, .ref 1009), (1, .ref 0), (2, .ref 114), (3, .ref 126), (4, .int (nI i))] [] H2 := by
    refine z_goto (tgt := 1635) dL_law_913 (by decide) ?_
    refine z_sub [2, 3, 4, 5, 6] rfl ?_
    exact z_widen hG (by omega) (by omega) K
  refine z_icmp_eq (tgt := 896) dL_law_891 (by decide) (fun _ => ?_) (fun q => absurd rfl q)
  refine z_iload 1 dL_law_896 rfl ?_
  refine z_if_ne (tgt := 913) dL_law_898 (by decide) (fun _ => K9) (fun q => ?_)
  refine z_aload_n 5 dL_law_901 rfl rfl ?_
  refine z_iconst (v := 0) dL_law_902 (by decide) ?_
  refine z_lald e3 (by unfold vp_in; decide) dL_law_903 ?_
  refine z_iload 0 dL_law_904 rfl ?_
  refine z_i2l dL_law_906 ?_
  refine z_lcmp dL_law_907 ?_
  exact z_if_eq (tgt := 913) dL_law_908 (by decide) (fun _ => K9) (fun q9 => absurd (zL_cmp (ho q)) q9)

theorem lH_lot : zCalH mL_lot 4 := ⟨by decide, zG_in 1067 (by decide +kernel) (by decide +kernel), zw_105, ⟨by decide +kernel, by decide +kernel, by decide +kernel⟩, by decide⟩
set_option maxHeartbeats 4000000 in
set_option maxRecDepth 100000 in
theorem law_c11 {G : zT} (hG : zAl G = false) {mc ms i cells slots : Nat} {k0 : Int32} {out : Nat → Int64} {H : zH} (h : zGd k0 out H) (hi : i + 6 ≤ zAd G 1999) (hL : zAd G 1999 ≤ 3072) (hc : cells + 1 ≤ mc) (hs : slots + 6 ≤ ms)
    (K : ∀ (k : Int32) (out : Nat → Int64) (H : zH), zGd k out H → ∃ h', zPW G mL_law mc ms (.inr (some (.int 1))) h' (cells + 1) (slots + 6) 1635 [(0, .ref 1009), (1, .ref 0), (2, .ref 114), (3, .ref 126), (4, .int (nI i))] [] H) : ∃ h', zPW G mL_law mc ms (.inr (some (.int 1))) h' cells slots 916 [(0, .ref 1009), (1, .ref 0), (2, .ref 114), (3, .ref 126), (4, .int (nI i))] [] H := by
  obtain ⟨m1, s1, k, v, H1, H2, out2, hm1, hs1, R1, R2, g2, ho, z1⟩ := s_lot hG (zNcs_ok G) h (nI (zAd G (2000 + (i + 1)))) (nI (zAd G (2000 + (i + 2))))
  obtain ⟨h', K⟩ := K k out2 H2 g2
  refine ⟨h', ?_⟩
  have l0 := h.isH.len
  have l1 := z1.len
  have l2 := g2.isH.len
  obtain ⟨f1, e1⟩ := z1.o114
  obtain ⟨f2, e2⟩ := g2.isH.o114
  have e3 := g2.out
  have T := zGd.thr hG g2
  have hb : zAd G 1999 < 2 ^ 31 := by omega
  refine z_aload_n 1 dL_law_916 rfl rfl ?_
  refine z_aload_n 0 dL_law_917 rfl rfl ?_
  refine z_iload 4 dL_law_918 rfl ?_
  refine z_iconst (v := nI 1) dL_law_920 (by decide) ?_
  refine z_iadd dL_law_921 ?_
  refine z_top (congrArg Value.int (nI_add i 1)) ?_
  refine z_sld (j := i + 1) (by omega) hb dL_law_922 ?_
  refine z_aload_n 0 dL_law_923 rfl rfl ?_
  refine z_iload 4 dL_law_924 rfl ?_
  refine z_iconst (v := nI 2) dL_law_926 (by decide) ?_
  refine z_iadd dL_law_927 ?_
  refine z_top (congrArg Value.int (nI_add i 2)) ?_
  refine z_sld (j := i + 2) (by omega) hb dL_law_928 ?_
  refine z_aload_n 3 dL_law_929 rfl rfl ?_
  refine z_callSH (N := mL_lot) 4 [.ref 0, .int (nI (zAd G (2000 + (i + 1)))), .int (nI (zAd G (2000 + (i + 2)))), .ref 126] [] lH_lot ⟨zw_1065, zw_1066⟩ rfl rfl (by decide) (by decide) ⟨l0, l1⟩ hG ⟨by omega, by omega⟩ R1 dL_law_930 ?_
  refine z_istore (lv' := [(5, .int k), (0, .ref 1009), (1, .ref 0), (2, .ref 114), (3, .ref 126), (4, .int (nI i))]) dL_law_933 (by decide) rfl ?_
  refine z_aload_n 3 dL_law_935 rfl rfl ?_
  refine z_aload_n 1 dL_law_936 rfl rfl ?_
  refine z_iload 5 dL_law_937 rfl ?_
  refine z_iconst (v := nI 1) dL_law_939 (by decide) ?_
  refine z_iadd dL_law_940 ?_
  refine z_top (congrArg Value.int (nI_add i 1)) ?_
  refine z_sld (j := i + 1) (by omega) hb dL_law_941 ?_
  refine z_aload_n 1 dL_law_942 rfl rfl ?_
  refine z_iload 5 dL_law_943 rfl ?_
  refine z_iconst (v := nI 2) dL_law_945 (by decide) ?_
  refine z_iadd dL_law_946 ?_
  refine z_top (congrArg Value.int (nI_add i 2)) ?_
  refine z_sld (j := i + 2) (by omega) hb dL_law_947 ?_
  refine z_callV (N := mX10_lot) 2 [.int (nI (zAd G (2000 + (i + 1)))), .int (nI (zAd G (2000 + (i + 2))))] [] lX10_lot ⟨zw_1460, zw_1461, zw_1462⟩ rfl e1 rfl rfl (by decide) (by decide) ⟨l1, l2⟩ ⟨by omega, by omega⟩ (fun z => by rw [hG] at z; cases z) R2 dL_law_948 ?_
  refine z_istore (lv' := [(6, .int v), (5, .int k), (0, .ref 1009), (1, .ref 0), (2, .ref 114), (3, .ref 126), (4, .int (nI i))]) dL_law_951 (by decide) rfl ?_
  refine z_aload_n 4 dL_law_953 rfl rfl ?_
  refine z_callV (N := mX10_thrown) 0 [] [] lX10_thrown ⟨zw_1236, zw_1237, zw_1238⟩ rfl e2 rfl rfl (by decide) (by decide) ⟨l2, l2⟩ ⟨by omega, by omega⟩ (fun z => by rw [hG] at z; cases z) T dL_law_954 ?_
  refine z_iload 1 dL_law_957 rfl ?_
  have K9 : zPW G mL_law mc ms (.inr (some (.int 1))) h' (cells + m1 + 0 + 0) (slots + s1 + 0 + 0) 981 [(6, .int v), (5, .int k), (0, .ref 1009), (1, .ref 0), (2, .ref 114), (3, .ref 126), (4, .int (nI i))] [] H2 := by
    refine z_goto (tgt := 1635) dL_law_981 (by decide) ?_
    refine z_sub [2, 3, 4, 5, 6] rfl ?_
    exact z_widen hG (by omega) (by omega) K
  refine z_icmp_eq (tgt := 964) dL_law_959 (by decide) (fun _ => ?_) (fun q => absurd rfl q)
  refine z_iload 1 dL_law_964 rfl ?_
  refine z_if_ne (tgt := 981) dL_law_966 (by decide) (fun _ => K9) (fun q => ?_)
  refine z_aload_n 5 dL_law_969 rfl rfl ?_
  refine z_iconst (v := 0) dL_law_970 (by decide) ?_
  refine z_lald e3 (by unfold vp_in; decide) dL_law_971 ?_
  refine z_iload 0 dL_law_972 rfl ?_
  refine z_i2l dL_law_974 ?_
  refine z_lcmp dL_law_975 ?_
  exact z_if_eq (tgt := 981) dL_law_976 (by decide) (fun _ => K9) (fun q9 => absurd (zL_cmp (ho q)) q9)

theorem lH_color : zCalH mL_color 4 := ⟨by decide, zG_in 1078 (by decide +kernel) (by decide +kernel), zw_105, ⟨by decide +kernel, by decide +kernel, by decide +kernel⟩, by decide⟩
set_option maxHeartbeats 4000000 in
set_option maxRecDepth 100000 in
theorem law_c12 {G : zT} (hG : zAl G = false) {mc ms i cells slots : Nat} {k0 : Int32} {out : Nat → Int64} {H : zH} (h : zGd k0 out H) (hi : i + 6 ≤ zAd G 1999) (hL : zAd G 1999 ≤ 3072) (hc : cells + 1 ≤ mc) (hs : slots + 6 ≤ ms)
    (K : ∀ (k : Int32) (out : Nat → Int64) (H : zH), zGd k out H → ∃ h', zPW G mL_law mc ms (.inr (some (.int 1))) h' (cells + 1) (slots + 6) 1635 [(0, .ref 1009), (1, .ref 0), (2, .ref 114), (3, .ref 126), (4, .int (nI i))] [] H) : ∃ h', zPW G mL_law mc ms (.inr (some (.int 1))) h' cells slots 984 [(0, .ref 1009), (1, .ref 0), (2, .ref 114), (3, .ref 126), (4, .int (nI i))] [] H := by
  obtain ⟨m1, s1, k, v, H1, H2, out2, hm1, hs1, R1, R2, g2, ho, z1⟩ := s_color hG (zNcs_ok G) h (nI (zAd G (2000 + (i + 1)))) (nI (zAd G (2000 + (i + 2))))
  obtain ⟨h', K⟩ := K k out2 H2 g2
  refine ⟨h', ?_⟩
  have l0 := h.isH.len
  have l1 := z1.len
  have l2 := g2.isH.len
  obtain ⟨f1, e1⟩ := z1.o114
  obtain ⟨f2, e2⟩ := g2.isH.o114
  have e3 := g2.out
  have T := zGd.thr hG g2
  have hb : zAd G 1999 < 2 ^ 31 := by omega
  refine z_aload_n 1 dL_law_984 rfl rfl ?_
  refine z_aload_n 0 dL_law_985 rfl rfl ?_
  refine z_iload 4 dL_law_986 rfl ?_
  refine z_iconst (v := nI 1) dL_law_988 (by decide) ?_
  refine z_iadd dL_law_989 ?_
  refine z_top (congrArg Value.int (nI_add i 1)) ?_
  refine z_sld (j := i + 1) (by omega) hb dL_law_990 ?_
  refine z_aload_n 0 dL_law_991 rfl rfl ?_
  refine z_iload 4 dL_law_992 rfl ?_
  refine z_iconst (v := nI 2) dL_law_994 (by decide) ?_
  refine z_iadd dL_law_995 ?_
  refine z_top (congrArg Value.int (nI_add i 2)) ?_
  refine z_sld (j := i + 2) (by omega) hb dL_law_996 ?_
  refine z_aload_n 3 dL_law_997 rfl rfl ?_
  refine z_callSH (N := mL_color) 4 [.ref 0, .int (nI (zAd G (2000 + (i + 1)))), .int (nI (zAd G (2000 + (i + 2)))), .ref 126] [] lH_color ⟨zw_1076, zw_1077⟩ rfl rfl (by decide) (by decide) ⟨l0, l1⟩ hG ⟨by omega, by omega⟩ R1 dL_law_998 ?_
  refine z_istore (lv' := [(5, .int k), (0, .ref 1009), (1, .ref 0), (2, .ref 114), (3, .ref 126), (4, .int (nI i))]) dL_law_1001 (by decide) rfl ?_
  refine z_aload_n 3 dL_law_1003 rfl rfl ?_
  refine z_aload_n 1 dL_law_1004 rfl rfl ?_
  refine z_iload 5 dL_law_1005 rfl ?_
  refine z_iconst (v := nI 1) dL_law_1007 (by decide) ?_
  refine z_iadd dL_law_1008 ?_
  refine z_top (congrArg Value.int (nI_add i 1)) ?_
  refine z_sld (j := i + 1) (by omega) hb dL_law_1009 ?_
  refine z_aload_n 1 dL_law_1010 rfl rfl ?_
  refine z_iload 5 dL_law_1011 rfl ?_
  refine z_iconst (v := nI 2) dL_law_1013 (by decide) ?_
  refine z_iadd dL_law_1014 ?_
  refine z_top (congrArg Value.int (nI_add i 2)) ?_
  refine z_sld (j := i + 2) (by omega) hb dL_law_1015 ?_
  refine z_callV (N := mX10_color) 2 [.int (nI (zAd G (2000 + (i + 1)))), .int (nI (zAd G (2000 + (i + 2))))] [] lX10_color ⟨zw_1472, zw_1473, zw_1474⟩ rfl e1 rfl rfl (by decide) (by decide) ⟨l1, l2⟩ ⟨by omega, by omega⟩ (fun z => by rw [hG] at z; cases z) R2 dL_law_1016 ?_
  refine z_istore (lv' := [(6, .int v), (5, .int k), (0, .ref 1009), (1, .ref 0), (2, .ref 114), (3, .ref 126), (4, .int (nI i))]) dL_law_1019 (by decide) rfl ?_
  refine z_aload_n 4 dL_law_1021 rfl rfl ?_
  refine z_callV (N := mX10_thrown) 0 [] [] lX10_thrown ⟨zw_1236, zw_1237, zw_1238⟩ rfl e2 rfl rfl (by decide) (by decide) ⟨l2, l2⟩ ⟨by omega, by omega⟩ (fun z => by rw [hG] at z; cases z) T dL_law_1022 ?_
  refine z_iload 1 dL_law_1025 rfl ?_
  have K9 : zPW G mL_law mc ms (.inr (some (.int 1))) h' (cells + m1 + 0 + 0) (slots + s1 + 0 + 0) 1049 [(6, .int v), (5, .int k), (0, .ref 1009), (1, .ref 0), (2, .ref 114), (3, .ref 126), (4, .int (nI i))] [] H2 := by
    refine z_goto (tgt := 1635) dL_law_1049 (by decide) ?_
    refine z_sub [2, 3, 4, 5, 6] rfl ?_
    exact z_widen hG (by omega) (by omega) K
  refine z_icmp_eq (tgt := 1032) dL_law_1027 (by decide) (fun _ => ?_) (fun q => absurd rfl q)
  refine z_iload 1 dL_law_1032 rfl ?_
  refine z_if_ne (tgt := 1049) dL_law_1034 (by decide) (fun _ => K9) (fun q => ?_)
  refine z_aload_n 5 dL_law_1037 rfl rfl ?_
  refine z_iconst (v := 0) dL_law_1038 (by decide) ?_
  refine z_lald e3 (by unfold vp_in; decide) dL_law_1039 ?_
  refine z_iload 0 dL_law_1040 rfl ?_
  refine z_i2l dL_law_1042 ?_
  refine z_lcmp dL_law_1043 ?_
  exact z_if_eq (tgt := 1049) dL_law_1044 (by decide) (fun _ => K9) (fun q9 => absurd (zL_cmp (ho q)) q9)

theorem lH_slit : zCalH mL_slit 4 := ⟨by decide, zG_in 1086 (by decide +kernel) (by decide +kernel), zw_105, ⟨by decide +kernel, by decide +kernel, by decide +kernel⟩, by decide⟩
set_option maxHeartbeats 4000000 in
set_option maxRecDepth 100000 in
theorem law_c13 {G : zT} (hG : zAl G = false) {mc ms i cells slots : Nat} {k0 : Int32} {out : Nat → Int64} {H : zH} (h : zGd k0 out H) (hi : i + 6 ≤ zAd G 1999) (hL : zAd G 1999 ≤ 3072) (hc : cells + 1 ≤ mc) (hs : slots + 6 ≤ ms)
    (K : ∀ (k : Int32) (out : Nat → Int64) (H : zH), zGd k out H → ∃ h', zPW G mL_law mc ms (.inr (some (.int 1))) h' (cells + 1) (slots + 6) 1635 [(0, .ref 1009), (1, .ref 0), (2, .ref 114), (3, .ref 126), (4, .int (nI i))] [] H) : ∃ h', zPW G mL_law mc ms (.inr (some (.int 1))) h' cells slots 1052 [(0, .ref 1009), (1, .ref 0), (2, .ref 114), (3, .ref 126), (4, .int (nI i))] [] H := by
  obtain ⟨m1, s1, k, v, H1, H2, out2, hm1, hs1, R1, R2, g2, ho, z1⟩ := s_slit hG (zNcs_ok G) h (nI (zAd G (2000 + (i + 1)))) (nI (zAd G (2000 + (i + 2))))
  obtain ⟨h', K⟩ := K k out2 H2 g2
  refine ⟨h', ?_⟩
  have l0 := h.isH.len
  have l1 := z1.len
  have l2 := g2.isH.len
  obtain ⟨f1, e1⟩ := z1.o114
  obtain ⟨f2, e2⟩ := g2.isH.o114
  have e3 := g2.out
  have T := zGd.thr hG g2
  have hb : zAd G 1999 < 2 ^ 31 := by omega
  refine z_aload_n 1 dL_law_1052 rfl rfl ?_
  refine z_aload_n 0 dL_law_1053 rfl rfl ?_
  refine z_iload 4 dL_law_1054 rfl ?_
  refine z_iconst (v := nI 1) dL_law_1056 (by decide) ?_
  refine z_iadd dL_law_1057 ?_
  refine z_top (congrArg Value.int (nI_add i 1)) ?_
  refine z_sld (j := i + 1) (by omega) hb dL_law_1058 ?_
  refine z_aload_n 0 dL_law_1059 rfl rfl ?_
  refine z_iload 4 dL_law_1060 rfl ?_
  refine z_iconst (v := nI 2) dL_law_1062 (by decide) ?_
  refine z_iadd dL_law_1063 ?_
  refine z_top (congrArg Value.int (nI_add i 2)) ?_
  refine z_sld (j := i + 2) (by omega) hb dL_law_1064 ?_
  refine z_aload_n 3 dL_law_1065 rfl rfl ?_
  refine z_callSH (N := mL_slit) 4 [.ref 0, .int (nI (zAd G (2000 + (i + 1)))), .int (nI (zAd G (2000 + (i + 2)))), .ref 126] [] lH_slit ⟨zw_1084, zw_1085⟩ rfl rfl (by decide) (by decide) ⟨l0, l1⟩ hG ⟨by omega, by omega⟩ R1 dL_law_1066 ?_
  refine z_istore (lv' := [(5, .int k), (0, .ref 1009), (1, .ref 0), (2, .ref 114), (3, .ref 126), (4, .int (nI i))]) dL_law_1069 (by decide) rfl ?_
  refine z_aload_n 3 dL_law_1071 rfl rfl ?_
  refine z_aload_n 1 dL_law_1072 rfl rfl ?_
  refine z_iload 5 dL_law_1073 rfl ?_
  refine z_iconst (v := nI 1) dL_law_1075 (by decide) ?_
  refine z_iadd dL_law_1076 ?_
  refine z_top (congrArg Value.int (nI_add i 1)) ?_
  refine z_sld (j := i + 1) (by omega) hb dL_law_1077 ?_
  refine z_aload_n 1 dL_law_1078 rfl rfl ?_
  refine z_iload 5 dL_law_1079 rfl ?_
  refine z_iconst (v := nI 2) dL_law_1081 (by decide) ?_
  refine z_iadd dL_law_1082 ?_
  refine z_top (congrArg Value.int (nI_add i 2)) ?_
  refine z_sld (j := i + 2) (by omega) hb dL_law_1083 ?_
  refine z_callV (N := mX10_slit) 2 [.int (nI (zAd G (2000 + (i + 1)))), .int (nI (zAd G (2000 + (i + 2))))] [] lX10_slit ⟨zw_1488, zw_1489, zw_1490⟩ rfl e1 rfl rfl (by decide) (by decide) ⟨l1, l2⟩ ⟨by omega, by omega⟩ (fun z => by rw [hG] at z; cases z) R2 dL_law_1084 ?_
  refine z_istore (lv' := [(6, .int v), (5, .int k), (0, .ref 1009), (1, .ref 0), (2, .ref 114), (3, .ref 126), (4, .int (nI i))]) dL_law_1087 (by decide) rfl ?_
  refine z_aload_n 4 dL_law_1089 rfl rfl ?_
  refine z_callV (N := mX10_thrown) 0 [] [] lX10_thrown ⟨zw_1236, zw_1237, zw_1238⟩ rfl e2 rfl rfl (by decide) (by decide) ⟨l2, l2⟩ ⟨by omega, by omega⟩ (fun z => by rw [hG] at z; cases z) T dL_law_1090 ?_
  refine z_iload 1 dL_law_1093 rfl ?_
  have K9 : zPW G mL_law mc ms (.inr (some (.int 1))) h' (cells + m1 + 0 + 0) (slots + s1 + 0 + 0) 1117 [(6, .int v), (5, .int k), (0, .ref 1009), (1, .ref 0), (2, .ref 114), (3, .ref 126), (4, .int (nI i))] [] H2 := by
    refine z_goto (tgt := 1635) dL_law_1117 (by decide) ?_
    refine z_sub [2, 3, 4, 5, 6] rfl ?_
    exact z_widen hG (by omega) (by omega) K
  refine z_icmp_eq (tgt := 1100) dL_law_1095 (by decide) (fun _ => ?_) (fun q => absurd rfl q)
  refine z_iload 1 dL_law_1100 rfl ?_
  refine z_if_ne (tgt := 1117) dL_law_1102 (by decide) (fun _ => K9) (fun q => ?_)
  refine z_aload_n 5 dL_law_1105 rfl rfl ?_
  refine z_iconst (v := 0) dL_law_1106 (by decide) ?_
  refine z_lald e3 (by unfold vp_in; decide) dL_law_1107 ?_
  refine z_iload 0 dL_law_1108 rfl ?_
  refine z_i2l dL_law_1110 ?_
  refine z_lcmp dL_law_1111 ?_
  exact z_if_eq (tgt := 1117) dL_law_1112 (by decide) (fun _ => K9) (fun q9 => absurd (zL_cmp (ho q)) q9)

theorem lH_whole : zCalH mL_whole 3 := ⟨by decide, zG_in 1094 (by decide +kernel) (by decide +kernel), zw_105, ⟨by decide +kernel, by decide +kernel, by decide +kernel⟩, by decide⟩
set_option maxHeartbeats 4000000 in
set_option maxRecDepth 100000 in
theorem law_c14 {G : zT} (hG : zAl G = false) {mc ms i cells slots : Nat} {k0 : Int32} {out : Nat → Int64} {H : zH} (h : zGd k0 out H) (hi : i + 6 ≤ zAd G 1999) (hL : zAd G 1999 ≤ 3072) (hc : cells + 1 ≤ mc) (hs : slots + 6 ≤ ms)
    (K : ∀ (k : Int32) (out : Nat → Int64) (H : zH), zGd k out H → ∃ h', zPW G mL_law mc ms (.inr (some (.int 1))) h' (cells + 1) (slots + 6) 1635 [(0, .ref 1009), (1, .ref 0), (2, .ref 114), (3, .ref 126), (4, .int (nI i))] [] H) : ∃ h', zPW G mL_law mc ms (.inr (some (.int 1))) h' cells slots 1120 [(0, .ref 1009), (1, .ref 0), (2, .ref 114), (3, .ref 126), (4, .int (nI i))] [] H := by
  obtain ⟨m1, s1, k, v, H1, H2, out2, hm1, hs1, R1, R2, g2, ho, z1⟩ := s_whole hG (zNcs_ok G) h (nI (zAd G (2000 + (i + 1))))
  obtain ⟨h', K⟩ := K k out2 H2 g2
  refine ⟨h', ?_⟩
  have l0 := h.isH.len
  have l1 := z1.len
  have l2 := g2.isH.len
  obtain ⟨f1, e1⟩ := z1.o114
  obtain ⟨f2, e2⟩ := g2.isH.o114
  have e3 := g2.out
  have T := zGd.thr hG g2
  have hb : zAd G 1999 < 2 ^ 31 := by omega
  refine z_aload_n 1 dL_law_1120 rfl rfl ?_
  refine z_aload_n 0 dL_law_1121 rfl rfl ?_
  refine z_iload 4 dL_law_1122 rfl ?_
  refine z_iconst (v := nI 1) dL_law_1124 (by decide) ?_
  refine z_iadd dL_law_1125 ?_
  refine z_top (congrArg Value.int (nI_add i 1)) ?_
  refine z_sld (j := i + 1) (by omega) hb dL_law_1126 ?_
  refine z_aload_n 3 dL_law_1127 rfl rfl ?_
  refine z_callSH (N := mL_whole) 3 [.ref 0, .int (nI (zAd G (2000 + (i + 1)))), .ref 126] [] lH_whole ⟨zw_1092, zw_1093⟩ rfl rfl (by decide) (by decide) ⟨l0, l1⟩ hG ⟨by omega, by omega⟩ R1 dL_law_1128 ?_
  refine z_istore (lv' := [(5, .int k), (0, .ref 1009), (1, .ref 0), (2, .ref 114), (3, .ref 126), (4, .int (nI i))]) dL_law_1131 (by decide) rfl ?_
  refine z_aload_n 3 dL_law_1133 rfl rfl ?_
  refine z_aload_n 1 dL_law_1134 rfl rfl ?_
  refine z_iload 5 dL_law_1135 rfl ?_
  refine z_iconst (v := nI 1) dL_law_1137 (by decide) ?_
  refine z_iadd dL_law_1138 ?_
  refine z_top (congrArg Value.int (nI_add i 1)) ?_
  refine z_sld (j := i + 1) (by omega) hb dL_law_1139 ?_
  refine z_callV (N := mX10_whole) 1 [.int (nI (zAd G (2000 + (i + 1))))] [] lX10_whole ⟨zw_1496, zw_1497, zw_1498⟩ rfl e1 rfl rfl (by decide) (by decide) ⟨l1, l2⟩ ⟨by omega, by omega⟩ (fun z => by rw [hG] at z; cases z) R2 dL_law_1140 ?_
  refine z_istore (lv' := [(6, .int v), (5, .int k), (0, .ref 1009), (1, .ref 0), (2, .ref 114), (3, .ref 126), (4, .int (nI i))]) dL_law_1143 (by decide) rfl ?_
  refine z_aload_n 4 dL_law_1145 rfl rfl ?_
  refine z_callV (N := mX10_thrown) 0 [] [] lX10_thrown ⟨zw_1236, zw_1237, zw_1238⟩ rfl e2 rfl rfl (by decide) (by decide) ⟨l2, l2⟩ ⟨by omega, by omega⟩ (fun z => by rw [hG] at z; cases z) T dL_law_1146 ?_
  refine z_iload 1 dL_law_1149 rfl ?_
  have K9 : zPW G mL_law mc ms (.inr (some (.int 1))) h' (cells + m1 + 0 + 0) (slots + s1 + 0 + 0) 1173 [(6, .int v), (5, .int k), (0, .ref 1009), (1, .ref 0), (2, .ref 114), (3, .ref 126), (4, .int (nI i))] [] H2 := by
    refine z_goto (tgt := 1635) dL_law_1173 (by decide) ?_
    refine z_sub [2, 3, 4, 5, 6] rfl ?_
    exact z_widen hG (by omega) (by omega) K
  refine z_icmp_eq (tgt := 1156) dL_law_1151 (by decide) (fun _ => ?_) (fun q => absurd rfl q)
  refine z_iload 1 dL_law_1156 rfl ?_
  refine z_if_ne (tgt := 1173) dL_law_1158 (by decide) (fun _ => K9) (fun q => ?_)
  refine z_aload_n 5 dL_law_1161 rfl rfl ?_
  refine z_iconst (v := 0) dL_law_1162 (by decide) ?_
  refine z_lald e3 (by unfold vp_in; decide) dL_law_1163 ?_
  refine z_iload 0 dL_law_1164 rfl ?_
  refine z_i2l dL_law_1166 ?_
  refine z_lcmp dL_law_1167 ?_
  exact z_if_eq (tgt := 1173) dL_law_1168 (by decide) (fun _ => K9) (fun q9 => absurd (zL_cmp (ho q)) q9)

theorem lH_meanShade : zCalH mL_meanShade 3 := ⟨by decide, zG_in 1101 (by decide +kernel) (by decide +kernel), zw_105, ⟨by decide +kernel, by decide +kernel, by decide +kernel⟩, by decide⟩
set_option maxHeartbeats 4000000 in
set_option maxRecDepth 100000 in
theorem law_c15 {G : zT} (hG : zAl G = false) {mc ms i cells slots : Nat} {k0 : Int32} {out : Nat → Int64} {H : zH} (h : zGd k0 out H) (hi : i + 6 ≤ zAd G 1999) (hL : zAd G 1999 ≤ 3072) (hc : cells + 1 ≤ mc) (hs : slots + 6 ≤ ms)
    (K : ∀ (k : Int32) (out : Nat → Int64) (H : zH), zGd k out H → ∃ h', zPW G mL_law mc ms (.inr (some (.int 1))) h' (cells + 1) (slots + 6) 1635 [(0, .ref 1009), (1, .ref 0), (2, .ref 114), (3, .ref 126), (4, .int (nI i))] [] H) : ∃ h', zPW G mL_law mc ms (.inr (some (.int 1))) h' cells slots 1176 [(0, .ref 1009), (1, .ref 0), (2, .ref 114), (3, .ref 126), (4, .int (nI i))] [] H := by
  obtain ⟨m1, s1, k, v, H1, H2, out2, hm1, hs1, R1, R2, g2, ho, z1⟩ := s_meanShade hG (zNcs_ok G) h (nI (zAd G (2000 + (i + 1))))
  obtain ⟨h', K⟩ := K k out2 H2 g2
  refine ⟨h', ?_⟩
  have l0 := h.isH.len
  have l1 := z1.len
  have l2 := g2.isH.len
  obtain ⟨f1, e1⟩ := z1.o114
  obtain ⟨f2, e2⟩ := g2.isH.o114
  have e3 := g2.out
  have T := zGd.thr hG g2
  have hb : zAd G 1999 < 2 ^ 31 := by omega
  refine z_aload_n 1 dL_law_1176 rfl rfl ?_
  refine z_aload_n 0 dL_law_1177 rfl rfl ?_
  refine z_iload 4 dL_law_1178 rfl ?_
  refine z_iconst (v := nI 1) dL_law_1180 (by decide) ?_
  refine z_iadd dL_law_1181 ?_
  refine z_top (congrArg Value.int (nI_add i 1)) ?_
  refine z_sld (j := i + 1) (by omega) hb dL_law_1182 ?_
  refine z_aload_n 3 dL_law_1183 rfl rfl ?_
  refine z_callSH (N := mL_meanShade) 3 [.ref 0, .int (nI (zAd G (2000 + (i + 1)))), .ref 126] [] lH_meanShade ⟨zw_1099, zw_1100⟩ rfl rfl (by decide) (by decide) ⟨l0, l1⟩ hG ⟨by omega, by omega⟩ R1 dL_law_1184 ?_
  refine z_istore (lv' := [(5, .int k), (0, .ref 1009), (1, .ref 0), (2, .ref 114), (3, .ref 126), (4, .int (nI i))]) dL_law_1187 (by decide) rfl ?_
  refine z_aload_n 3 dL_law_1189 rfl rfl ?_
  refine z_aload_n 1 dL_law_1190 rfl rfl ?_
  refine z_iload 5 dL_law_1191 rfl ?_
  refine z_iconst (v := nI 1) dL_law_1193 (by decide) ?_
  refine z_iadd dL_law_1194 ?_
  refine z_top (congrArg Value.int (nI_add i 1)) ?_
  refine z_sld (j := i + 1) (by omega) hb dL_law_1195 ?_
  refine z_callV (N := mX10_meanShade) 1 [.int (nI (zAd G (2000 + (i + 1))))] [] lX10_meanShade ⟨zw_1531, zw_1532, zw_1533⟩ rfl e1 rfl rfl (by decide) (by decide) ⟨l1, l2⟩ ⟨by omega, by omega⟩ (fun z => by rw [hG] at z; cases z) R2 dL_law_1196 ?_
  refine z_istore (lv' := [(6, .int v), (5, .int k), (0, .ref 1009), (1, .ref 0), (2, .ref 114), (3, .ref 126), (4, .int (nI i))]) dL_law_1199 (by decide) rfl ?_
  refine z_aload_n 4 dL_law_1201 rfl rfl ?_
  refine z_callV (N := mX10_thrown) 0 [] [] lX10_thrown ⟨zw_1236, zw_1237, zw_1238⟩ rfl e2 rfl rfl (by decide) (by decide) ⟨l2, l2⟩ ⟨by omega, by omega⟩ (fun z => by rw [hG] at z; cases z) T dL_law_1202 ?_
  refine z_iload 1 dL_law_1205 rfl ?_
  have K9 : zPW G mL_law mc ms (.inr (some (.int 1))) h' (cells + m1 + 0 + 0) (slots + s1 + 0 + 0) 1229 [(6, .int v), (5, .int k), (0, .ref 1009), (1, .ref 0), (2, .ref 114), (3, .ref 126), (4, .int (nI i))] [] H2 := by
    refine z_goto (tgt := 1635) dL_law_1229 (by decide) ?_
    refine z_sub [2, 3, 4, 5, 6] rfl ?_
    exact z_widen hG (by omega) (by omega) K
  refine z_icmp_eq (tgt := 1212) dL_law_1207 (by decide) (fun _ => ?_) (fun q => absurd rfl q)
  refine z_iload 1 dL_law_1212 rfl ?_
  refine z_if_ne (tgt := 1229) dL_law_1214 (by decide) (fun _ => K9) (fun q => ?_)
  refine z_aload_n 5 dL_law_1217 rfl rfl ?_
  refine z_iconst (v := 0) dL_law_1218 (by decide) ?_
  refine z_lald e3 (by unfold vp_in; decide) dL_law_1219 ?_
  refine z_iload 0 dL_law_1220 rfl ?_
  refine z_i2l dL_law_1222 ?_
  refine z_lcmp dL_law_1223 ?_
  exact z_if_eq (tgt := 1229) dL_law_1224 (by decide) (fun _ => K9) (fun q9 => absurd (zL_cmp (ho q)) q9)

theorem lH_contrast : zCalH mL_contrast 3 := ⟨by decide, zG_in 1108 (by decide +kernel) (by decide +kernel), zw_105, ⟨by decide +kernel, by decide +kernel, by decide +kernel⟩, by decide⟩
set_option maxHeartbeats 4000000 in
set_option maxRecDepth 100000 in
theorem law_c16 {G : zT} (hG : zAl G = false) {mc ms i cells slots : Nat} {k0 : Int32} {out : Nat → Int64} {H : zH} (h : zGd k0 out H) (hi : i + 6 ≤ zAd G 1999) (hL : zAd G 1999 ≤ 3072) (hc : cells + 1 ≤ mc) (hs : slots + 6 ≤ ms)
    (K : ∀ (k : Int32) (out : Nat → Int64) (H : zH), zGd k out H → ∃ h', zPW G mL_law mc ms (.inr (some (.int 1))) h' (cells + 1) (slots + 6) 1635 [(0, .ref 1009), (1, .ref 0), (2, .ref 114), (3, .ref 126), (4, .int (nI i))] [] H) : ∃ h', zPW G mL_law mc ms (.inr (some (.int 1))) h' cells slots 1232 [(0, .ref 1009), (1, .ref 0), (2, .ref 114), (3, .ref 126), (4, .int (nI i))] [] H := by
  obtain ⟨m1, s1, k, v, H1, H2, out2, hm1, hs1, R1, R2, g2, ho, z1⟩ := s_contrast hG (zNcs_ok G) h (nI (zAd G (2000 + (i + 1))))
  obtain ⟨h', K⟩ := K k out2 H2 g2
  refine ⟨h', ?_⟩
  have l0 := h.isH.len
  have l1 := z1.len
  have l2 := g2.isH.len
  obtain ⟨f1, e1⟩ := z1.o114
  obtain ⟨f2, e2⟩ := g2.isH.o114
  have e3 := g2.out
  have T := zGd.thr hG g2
  have hb : zAd G 1999 < 2 ^ 31 := by omega
  refine z_aload_n 1 dL_law_1232 rfl rfl ?_
  refine z_aload_n 0 dL_law_1233 rfl rfl ?_
  refine z_iload 4 dL_law_1234 rfl ?_
  refine z_iconst (v := nI 1) dL_law_1236 (by decide) ?_
  refine z_iadd dL_law_1237 ?_
  refine z_top (congrArg Value.int (nI_add i 1)) ?_
  refine z_sld (j := i + 1) (by omega) hb dL_law_1238 ?_
  refine z_aload_n 3 dL_law_1239 rfl rfl ?_
  refine z_callSH (N := mL_contrast) 3 [.ref 0, .int (nI (zAd G (2000 + (i + 1)))), .ref 126] [] lH_contrast ⟨zw_1106, zw_1107⟩ rfl rfl (by decide) (by decide) ⟨l0, l1⟩ hG ⟨by omega, by omega⟩ R1 dL_law_1240 ?_
  refine z_istore (lv' := [(5, .int k), (0, .ref 1009), (1, .ref 0), (2, .ref 114), (3, .ref 126), (4, .int (nI i))]) dL_law_1243 (by decide) rfl ?_
  refine z_aload_n 3 dL_law_1245 rfl rfl ?_
  refine z_aload_n 1 dL_law_1246 rfl rfl ?_
  refine z_iload 5 dL_law_1247 rfl ?_
  refine z_iconst (v := nI 1) dL_law_1249 (by decide) ?_
  refine z_iadd dL_law_1250 ?_
  refine z_top (congrArg Value.int (nI_add i 1)) ?_
  refine z_sld (j := i + 1) (by omega) hb dL_law_1251 ?_
  refine z_callV (N := mX10_contrast) 1 [.int (nI (zAd G (2000 + (i + 1))))] [] lX10_contrast ⟨zw_1539, zw_1540, zw_1541⟩ rfl e1 rfl rfl (by decide) (by decide) ⟨l1, l2⟩ ⟨by omega, by omega⟩ (fun z => by rw [hG] at z; cases z) R2 dL_law_1252 ?_
  refine z_istore (lv' := [(6, .int v), (5, .int k), (0, .ref 1009), (1, .ref 0), (2, .ref 114), (3, .ref 126), (4, .int (nI i))]) dL_law_1255 (by decide) rfl ?_
  refine z_aload_n 4 dL_law_1257 rfl rfl ?_
  refine z_callV (N := mX10_thrown) 0 [] [] lX10_thrown ⟨zw_1236, zw_1237, zw_1238⟩ rfl e2 rfl rfl (by decide) (by decide) ⟨l2, l2⟩ ⟨by omega, by omega⟩ (fun z => by rw [hG] at z; cases z) T dL_law_1258 ?_
  refine z_iload 1 dL_law_1261 rfl ?_
  have K9 : zPW G mL_law mc ms (.inr (some (.int 1))) h' (cells + m1 + 0 + 0) (slots + s1 + 0 + 0) 1285 [(6, .int v), (5, .int k), (0, .ref 1009), (1, .ref 0), (2, .ref 114), (3, .ref 126), (4, .int (nI i))] [] H2 := by
    refine z_goto (tgt := 1635) dL_law_1285 (by decide) ?_
    refine z_sub [2, 3, 4, 5, 6] rfl ?_
    exact z_widen hG (by omega) (by omega) K
  refine z_icmp_eq (tgt := 1268) dL_law_1263 (by decide) (fun _ => ?_) (fun q => absurd rfl q)
  refine z_iload 1 dL_law_1268 rfl ?_
  refine z_if_ne (tgt := 1285) dL_law_1270 (by decide) (fun _ => K9) (fun q => ?_)
  refine z_aload_n 5 dL_law_1273 rfl rfl ?_
  refine z_iconst (v := 0) dL_law_1274 (by decide) ?_
  refine z_lald e3 (by unfold vp_in; decide) dL_law_1275 ?_
  refine z_iload 0 dL_law_1276 rfl ?_
  refine z_i2l dL_law_1278 ?_
  refine z_lcmp dL_law_1279 ?_
  exact z_if_eq (tgt := 1285) dL_law_1280 (by decide) (fun _ => K9) (fun q9 => absurd (zL_cmp (ho q)) q9)

set_option maxHeartbeats 4000000 in
set_option maxRecDepth 100000 in
theorem law_c17 {G : zT} (hG : zAl G = false) {mc ms i cells slots : Nat} {k0 : Int32} {out : Nat → Int64} {H : zH} (h : zGd k0 out H) (hi : i + 6 ≤ zAd G 1999) (hL : zAd G 1999 ≤ 3072) (hc : cells + 1 ≤ mc) (hs : slots + 6 ≤ ms)
    (K : ∀ (k : Int32) (out : Nat → Int64) (H : zH), zGd k out H → ∃ h', zPW G mL_law mc ms (.inr (some (.int 1))) h' (cells + 1) (slots + 6) 1635 [(0, .ref 1009), (1, .ref 0), (2, .ref 114), (3, .ref 126), (4, .int (nI i))] [] H) : ∃ h', zPW G mL_law mc ms (.inr (some (.int 1))) h' cells slots 1288 [(0, .ref 1009), (1, .ref 0), (2, .ref 114), (3, .ref 126), (4, .int (nI i))] [] H := by
  obtain ⟨v, H1, H2, k, R1, R2, g2, z1, a, rfl⟩ := s_worstSeam hG h
  obtain ⟨h', K⟩ := K k out H2 g2
  refine ⟨h', ?_⟩
  have l0 := h.isH.len
  have l1 := z1.len
  have l2 := g2.isH.len
  obtain ⟨f0, e0⟩ := h.isH.o0
  obtain ⟨f1, e1⟩ := z1.o114
  refine z_aload_n 1 dL_law_1288 rfl rfl ?_
  refine z_callV (N := mX9_worstSeam) 0 [] [] lX9_worstSeam ⟨zw_325, zw_326, zw_327⟩ rfl e0 rfl rfl (by decide) (by decide) ⟨l0, l1⟩ ⟨by omega, by omega⟩ (fun z => by rw [hG] at z; cases z) R1 dL_law_1289 ?_
  refine z_aload_n 2 dL_law_1292 rfl rfl ?_
  refine z_callV (N := mX10_worstSeam) 0 [] [.int a] lX10_worstSeam ⟨zw_1547, zw_1548, zw_1549⟩ rfl e1 rfl rfl (Nat.le_of_ble_eq_true rfl) (by decide) ⟨l1, l2⟩ ⟨by omega, by omega⟩ (fun z => by rw [hG] at z; cases z) R2 dL_law_1293 ?_
  exact z_icmp_eq (tgt := 1635) dL_law_1296 (by decide) (fun _ => z_widen hG (by omega) (by omega) K) (fun q9 => absurd rfl q9)

set_option maxHeartbeats 4000000 in
set_option maxRecDepth 100000 in
theorem law_c18 {G : zT} (hG : zAl G = false) {mc ms i cells slots : Nat} {k0 : Int32} {out : Nat → Int64} {H : zH} (h : zGd k0 out H) (hi : i + 6 ≤ zAd G 1999) (hL : zAd G 1999 ≤ 3072) (hc : cells + 1 ≤ mc) (hs : slots + 6 ≤ ms)
    (K : ∀ (k : Int32) (out : Nat → Int64) (H : zH), zGd k out H → ∃ h', zPW G mL_law mc ms (.inr (some (.int 1))) h' (cells + 1) (slots + 6) 1635 [(0, .ref 1009), (1, .ref 0), (2, .ref 114), (3, .ref 126), (4, .int (nI i))] [] H) : ∃ h', zPW G mL_law mc ms (.inr (some (.int 1))) h' cells slots 1301 [(0, .ref 1009), (1, .ref 0), (2, .ref 114), (3, .ref 126), (4, .int (nI i))] [] H := by
  obtain ⟨v, H1, H2, k, R1, R2, g2, z1, a, rfl⟩ := s_rowsPossible hG h
  obtain ⟨h', K⟩ := K k out H2 g2
  refine ⟨h', ?_⟩
  have l0 := h.isH.len
  have l1 := z1.len
  have l2 := g2.isH.len
  obtain ⟨f0, e0⟩ := h.isH.o0
  obtain ⟨f1, e1⟩ := z1.o114
  refine z_aload_n 1 dL_law_1301 rfl rfl ?_
  refine z_callV (N := mX9_rowsPossible) 0 [] [] lX9_rowsPossible ⟨zw_366, zw_367, zw_368⟩ rfl e0 rfl rfl (by decide) (by decide) ⟨l0, l1⟩ ⟨by omega, by omega⟩ (fun z => by rw [hG] at z; cases z) R1 dL_law_1302 ?_
  refine z_aload_n 2 dL_law_1305 rfl rfl ?_
  refine z_callV (N := mX10_rowsPossible) 0 [] [.int a] lX10_rowsPossible ⟨zw_1555, zw_1556, zw_1557⟩ rfl e1 rfl rfl (Nat.le_of_ble_eq_true rfl) (by decide) ⟨l1, l2⟩ ⟨by omega, by omega⟩ (fun z => by rw [hG] at z; cases z) R2 dL_law_1306 ?_
  exact z_icmp_eq (tgt := 1635) dL_law_1309 (by decide) (fun _ => z_widen hG (by omega) (by omega) K) (fun q9 => absurd rfl q9)

theorem lH_missing : zCalH mL_missing 3 := ⟨by decide, zG_in 1115 (by decide +kernel) (by decide +kernel), zw_105, ⟨by decide +kernel, by decide +kernel, by decide +kernel⟩, by decide⟩
set_option maxHeartbeats 4000000 in
set_option maxRecDepth 100000 in
theorem law_c19 {G : zT} (hG : zAl G = false) {mc ms i cells slots : Nat} {k0 : Int32} {out : Nat → Int64} {H : zH} (h : zGd k0 out H) (hi : i + 6 ≤ zAd G 1999) (hL : zAd G 1999 ≤ 3072) (hc : cells + 1 ≤ mc) (hs : slots + 6 ≤ ms)
    (K : ∀ (k : Int32) (out : Nat → Int64) (H : zH), zGd k out H → ∃ h', zPW G mL_law mc ms (.inr (some (.int 1))) h' (cells + 1) (slots + 6) 1635 [(0, .ref 1009), (1, .ref 0), (2, .ref 114), (3, .ref 126), (4, .int (nI i))] [] H) : ∃ h', zPW G mL_law mc ms (.inr (some (.int 1))) h' cells slots 1314 [(0, .ref 1009), (1, .ref 0), (2, .ref 114), (3, .ref 126), (4, .int (nI i))] [] H := by
  obtain ⟨m1, s1, k, v, H1, H2, out2, hm1, hs1, R1, R2, g2, ho, z1⟩ := s_missing hG (zNcs_ok G) h (nI (zAd G (2000 + (i + 1))))
  obtain ⟨h', K⟩ := K k out2 H2 g2
  refine ⟨h', ?_⟩
  have l0 := h.isH.len
  have l1 := z1.len
  have l2 := g2.isH.len
  obtain ⟨f1, e1⟩ := z1.o114
  obtain ⟨f2, e2⟩ := g2.isH.o114
  have e3 := g2.out
  have T := zGd.thr hG g2
  have hb : zAd G 1999 < 2 ^ 31 := by omega
  refine z_aload_n 1 dL_law_1314 rfl rfl ?_
  refine z_aload_n 0 dL_law_1315 rfl rfl ?_
  refine z_iload 4 dL_law_1316 rfl ?_
  refine z_iconst (v := nI 1) dL_law_1318 (by decide) ?_
  refine z_iadd dL_law_1319 ?_
  refine z_top (congrArg Value.int (nI_add i 1)) ?_
  refine z_sld (j := i + 1) (by omega) hb dL_law_1320 ?_
  refine z_aload_n 3 dL_law_1321 rfl rfl ?_
  refine z_callSH (N := mL_missing) 3 [.ref 0, .int (nI (zAd G (2000 + (i + 1)))), .ref 126] [] lH_missing ⟨zw_1113, zw_1114⟩ rfl rfl (by decide) (by decide) ⟨l0, l1⟩ hG ⟨by omega, by omega⟩ R1 dL_law_1322 ?_
  refine z_istore (lv' := [(5, .int k), (0, .ref 1009), (1, .ref 0), (2, .ref 114), (3, .ref 126), (4, .int (nI i))]) dL_law_1325 (by decide) rfl ?_
  refine z_aload_n 3 dL_law_1327 rfl rfl ?_
  refine z_aload_n 1 dL_law_1328 rfl rfl ?_
  refine z_iload 5 dL_law_1329 rfl ?_
  refine z_iconst (v := nI 1) dL_law_1331 (by decide) ?_
  refine z_iadd dL_law_1332 ?_
  refine z_top (congrArg Value.int (nI_add i 1)) ?_
  refine z_sld (j := i + 1) (by omega) hb dL_law_1333 ?_
  refine z_callV (N := mX10_missing) 1 [.int (nI (zAd G (2000 + (i + 1))))] [] lX10_missing ⟨zw_1559, zw_1560, zw_1561⟩ rfl e1 rfl rfl (by decide) (by decide) ⟨l1, l2⟩ ⟨by omega, by omega⟩ (fun z => by rw [hG] at z; cases z) R2 dL_law_1334 ?_
  refine z_istore (lv' := [(6, .int v), (5, .int k), (0, .ref 1009), (1, .ref 0), (2, .ref 114), (3, .ref 126), (4, .int (nI i))]) dL_law_1337 (by decide) rfl ?_
  refine z_aload_n 4 dL_law_1339 rfl rfl ?_
  refine z_callV (N := mX10_thrown) 0 [] [] lX10_thrown ⟨zw_1236, zw_1237, zw_1238⟩ rfl e2 rfl rfl (by decide) (by decide) ⟨l2, l2⟩ ⟨by omega, by omega⟩ (fun z => by rw [hG] at z; cases z) T dL_law_1340 ?_
  refine z_iload 1 dL_law_1343 rfl ?_
  have K9 : zPW G mL_law mc ms (.inr (some (.int 1))) h' (cells + m1 + 0 + 0) (slots + s1 + 0 + 0) 1367 [(6, .int v), (5, .int k), (0, .ref 1009), (1, .ref 0), (2, .ref 114), (3, .ref 126), (4, .int (nI i))] [] H2 := by
    refine z_goto (tgt := 1635) dL_law_1367 (by decide) ?_
    refine z_sub [2, 3, 4, 5, 6] rfl ?_
    exact z_widen hG (by omega) (by omega) K
  refine z_icmp_eq (tgt := 1350) dL_law_1345 (by decide) (fun _ => ?_) (fun q => absurd rfl q)
  refine z_iload 1 dL_law_1350 rfl ?_
  refine z_if_ne (tgt := 1367) dL_law_1352 (by decide) (fun _ => K9) (fun q => ?_)
  refine z_aload_n 5 dL_law_1355 rfl rfl ?_
  refine z_iconst (v := 0) dL_law_1356 (by decide) ?_
  refine z_lald e3 (by unfold vp_in; decide) dL_law_1357 ?_
  refine z_iload 0 dL_law_1358 rfl ?_
  refine z_i2l dL_law_1360 ?_
  refine z_lcmp dL_law_1361 ?_
  exact z_if_eq (tgt := 1367) dL_law_1362 (by decide) (fun _ => K9) (fun q9 => absurd (zL_cmp (ho q)) q9)

theorem lH_slitsWith : zCalH mL_slitsWith 3 := ⟨by decide, zG_in 1125 (by decide +kernel) (by decide +kernel), zw_105, ⟨by decide +kernel, by decide +kernel, by decide +kernel⟩, by decide⟩
set_option maxHeartbeats 4000000 in
set_option maxRecDepth 100000 in
theorem law_c20 {G : zT} (hG : zAl G = false) {mc ms i cells slots : Nat} {k0 : Int32} {out : Nat → Int64} {H : zH} (h : zGd k0 out H) (hi : i + 6 ≤ zAd G 1999) (hL : zAd G 1999 ≤ 3072) (hc : cells + 1 ≤ mc) (hs : slots + 6 ≤ ms)
    (K : ∀ (k : Int32) (out : Nat → Int64) (H : zH), zGd k out H → ∃ h', zPW G mL_law mc ms (.inr (some (.int 1))) h' (cells + 1) (slots + 6) 1635 [(0, .ref 1009), (1, .ref 0), (2, .ref 114), (3, .ref 126), (4, .int (nI i))] [] H) : ∃ h', zPW G mL_law mc ms (.inr (some (.int 1))) h' cells slots 1370 [(0, .ref 1009), (1, .ref 0), (2, .ref 114), (3, .ref 126), (4, .int (nI i))] [] H := by
  obtain ⟨m1, s1, k, v, H1, H2, out2, hm1, hs1, R1, R2, g2, ho, z1⟩ := s_slitsWith hG (zNcs_ok G) h (nI (zAd G (2000 + (i + 1))))
  obtain ⟨h', K⟩ := K k out2 H2 g2
  refine ⟨h', ?_⟩
  have l0 := h.isH.len
  have l1 := z1.len
  have l2 := g2.isH.len
  obtain ⟨f1, e1⟩ := z1.o114
  obtain ⟨f2, e2⟩ := g2.isH.o114
  have e3 := g2.out
  have T := zGd.thr hG g2
  have hb : zAd G 1999 < 2 ^ 31 := by omega
  refine z_aload_n 1 dL_law_1370 rfl rfl ?_
  refine z_aload_n 0 dL_law_1371 rfl rfl ?_
  refine z_iload 4 dL_law_1372 rfl ?_
  refine z_iconst (v := nI 1) dL_law_1374 (by decide) ?_
  refine z_iadd dL_law_1375 ?_
  refine z_top (congrArg Value.int (nI_add i 1)) ?_
  refine z_sld (j := i + 1) (by omega) hb dL_law_1376 ?_
  refine z_aload_n 3 dL_law_1377 rfl rfl ?_
  refine z_callSH (N := mL_slitsWith) 3 [.ref 0, .int (nI (zAd G (2000 + (i + 1)))), .ref 126] [] lH_slitsWith ⟨zw_1123, zw_1124⟩ rfl rfl (by decide) (by decide) ⟨l0, l1⟩ hG ⟨by omega, by omega⟩ R1 dL_law_1378 ?_
  refine z_istore (lv' := [(5, .int k), (0, .ref 1009), (1, .ref 0), (2, .ref 114), (3, .ref 126), (4, .int (nI i))]) dL_law_1381 (by decide) rfl ?_
  refine z_aload_n 3 dL_law_1383 rfl rfl ?_
  refine z_aload_n 1 dL_law_1384 rfl rfl ?_
  refine z_iload 5 dL_law_1385 rfl ?_
  refine z_iconst (v := nI 1) dL_law_1387 (by decide) ?_
  refine z_iadd dL_law_1388 ?_
  refine z_top (congrArg Value.int (nI_add i 1)) ?_
  refine z_sld (j := i + 1) (by omega) hb dL_law_1389 ?_
  refine z_callV (N := mX10_slitsWith) 1 [.int (nI (zAd G (2000 + (i + 1))))] [] lX10_slitsWith ⟨zw_1563, zw_1564, zw_1565⟩ rfl e1 rfl rfl (by decide) (by decide) ⟨l1, l2⟩ ⟨by omega, by omega⟩ (fun z => by rw [hG] at z; cases z) R2 dL_law_1390 ?_
  refine z_istore (lv' := [(6, .int v), (5, .int k), (0, .ref 1009), (1, .ref 0), (2, .ref 114), (3, .ref 126), (4, .int (nI i))]) dL_law_1393 (by decide) rfl ?_
  refine z_aload_n 4 dL_law_1395 rfl rfl ?_
  refine z_callV (N := mX10_thrown) 0 [] [] lX10_thrown ⟨zw_1236, zw_1237, zw_1238⟩ rfl e2 rfl rfl (by decide) (by decide) ⟨l2, l2⟩ ⟨by omega, by omega⟩ (fun z => by rw [hG] at z; cases z) T dL_law_1396 ?_
  refine z_iload 1 dL_law_1399 rfl ?_
  have K9 : zPW G mL_law mc ms (.inr (some (.int 1))) h' (cells + m1 + 0 + 0) (slots + s1 + 0 + 0) 1423 [(6, .int v), (5, .int k), (0, .ref 1009), (1, .ref 0), (2, .ref 114), (3, .ref 126), (4, .int (nI i))] [] H2 := by
    refine z_goto (tgt := 1635) dL_law_1423 (by decide) ?_
    refine z_sub [2, 3, 4, 5, 6] rfl ?_
    exact z_widen hG (by omega) (by omega) K
  refine z_icmp_eq (tgt := 1406) dL_law_1401 (by decide) (fun _ => ?_) (fun q => absurd rfl q)
  refine z_iload 1 dL_law_1406 rfl ?_
  refine z_if_ne (tgt := 1423) dL_law_1408 (by decide) (fun _ => K9) (fun q => ?_)
  refine z_aload_n 5 dL_law_1411 rfl rfl ?_
  refine z_iconst (v := 0) dL_law_1412 (by decide) ?_
  refine z_lald e3 (by unfold vp_in; decide) dL_law_1413 ?_
  refine z_iload 0 dL_law_1414 rfl ?_
  refine z_i2l dL_law_1416 ?_
  refine z_lcmp dL_law_1417 ?_
  exact z_if_eq (tgt := 1423) dL_law_1418 (by decide) (fun _ => K9) (fun q9 => absurd (zL_cmp (ho q)) q9)

set_option maxHeartbeats 4000000 in
set_option maxRecDepth 100000 in
theorem law_c21 {G : zT} (hG : zAl G = false) {mc ms i cells slots : Nat} {k0 : Int32} {out : Nat → Int64} {H : zH} (h : zGd k0 out H) (hi : i + 6 ≤ zAd G 1999) (hL : zAd G 1999 ≤ 3072) (hc : cells + 1 ≤ mc) (hs : slots + 6 ≤ ms)
    (K : ∀ (k : Int32) (out : Nat → Int64) (H : zH), zGd k out H → ∃ h', zPW G mL_law mc ms (.inr (some (.int 1))) h' (cells + 1) (slots + 6) 1635 [(0, .ref 1009), (1, .ref 0), (2, .ref 114), (3, .ref 126), (4, .int (nI i))] [] H) : ∃ h', zPW G mL_law mc ms (.inr (some (.int 1))) h' cells slots 1426 [(0, .ref 1009), (1, .ref 0), (2, .ref 114), (3, .ref 126), (4, .int (nI i))] [] H := by
  obtain ⟨v, H1, H2, k, R1, R2, g2, z1, a, rfl⟩ := s_firstWrong hG h
  obtain ⟨h', K⟩ := K k out H2 g2
  refine ⟨h', ?_⟩
  have l0 := h.isH.len
  have l1 := z1.len
  have l2 := g2.isH.len
  obtain ⟨f0, e0⟩ := h.isH.o0
  obtain ⟨f1, e1⟩ := z1.o114
  refine z_aload_n 1 dL_law_1426 rfl rfl ?_
  refine z_callV (N := mX9_firstWrong) 0 [] [] lX9_firstWrong ⟨zw_402, zw_403, zw_404⟩ rfl e0 rfl rfl (by decide) (by decide) ⟨l0, l1⟩ ⟨by omega, by omega⟩ (fun z => by rw [hG] at z; cases z) R1 dL_law_1427 ?_
  refine z_aload_n 2 dL_law_1430 rfl rfl ?_
  refine z_callV (N := mX10_firstWrong) 0 [] [.int a] lX10_firstWrong ⟨zw_1567, zw_1568, zw_1569⟩ rfl e1 rfl rfl (Nat.le_of_ble_eq_true rfl) (by decide) ⟨l1, l2⟩ ⟨by omega, by omega⟩ (fun z => by rw [hG] at z; cases z) R2 dL_law_1431 ?_
  exact z_icmp_eq (tgt := 1635) dL_law_1434 (by decide) (fun _ => z_widen hG (by omega) (by omega) K) (fun q9 => absurd rfl q9)

theorem lH_shuttlesFor : zCalH mL_shuttlesFor 3 := ⟨by decide, zG_in 1133 (by decide +kernel) (by decide +kernel), zw_105, ⟨by decide +kernel, by decide +kernel, by decide +kernel⟩, by decide⟩
set_option maxHeartbeats 4000000 in
set_option maxRecDepth 100000 in
theorem law_c22 {G : zT} (hG : zAl G = false) {mc ms i cells slots : Nat} {k0 : Int32} {out : Nat → Int64} {H : zH} (h : zGd k0 out H) (hi : i + 6 ≤ zAd G 1999) (hL : zAd G 1999 ≤ 3072) (hc : cells + 1 ≤ mc) (hs : slots + 6 ≤ ms)
    (K : ∀ (k : Int32) (out : Nat → Int64) (H : zH), zGd k out H → ∃ h', zPW G mL_law mc ms (.inr (some (.int 1))) h' (cells + 1) (slots + 6) 1635 [(0, .ref 1009), (1, .ref 0), (2, .ref 114), (3, .ref 126), (4, .int (nI i))] [] H) : ∃ h', zPW G mL_law mc ms (.inr (some (.int 1))) h' cells slots 1439 [(0, .ref 1009), (1, .ref 0), (2, .ref 114), (3, .ref 126), (4, .int (nI i))] [] H := by
  obtain ⟨m1, s1, k, v, H1, H2, out2, hm1, hs1, R1, R2, g2, ho, z1⟩ := s_shuttlesFor hG (zNcs_ok G) h (nI (zAd G (2000 + (i + 1))))
  obtain ⟨h', K⟩ := K k out2 H2 g2
  refine ⟨h', ?_⟩
  have l0 := h.isH.len
  have l1 := z1.len
  have l2 := g2.isH.len
  obtain ⟨f1, e1⟩ := z1.o114
  obtain ⟨f2, e2⟩ := g2.isH.o114
  have e3 := g2.out
  have T := zGd.thr hG g2
  have hb : zAd G 1999 < 2 ^ 31 := by omega
  refine z_aload_n 1 dL_law_1439 rfl rfl ?_
  refine z_aload_n 0 dL_law_1440 rfl rfl ?_
  refine z_iload 4 dL_law_1441 rfl ?_
  refine z_iconst (v := nI 1) dL_law_1443 (by decide) ?_
  refine z_iadd dL_law_1444 ?_
  refine z_top (congrArg Value.int (nI_add i 1)) ?_
  refine z_sld (j := i + 1) (by omega) hb dL_law_1445 ?_
  refine z_aload_n 3 dL_law_1446 rfl rfl ?_
  refine z_callSH (N := mL_shuttlesFor) 3 [.ref 0, .int (nI (zAd G (2000 + (i + 1)))), .ref 126] [] lH_shuttlesFor ⟨zw_1131, zw_1132⟩ rfl rfl (by decide) (by decide) ⟨l0, l1⟩ hG ⟨by omega, by omega⟩ R1 dL_law_1447 ?_
  refine z_istore (lv' := [(5, .int k), (0, .ref 1009), (1, .ref 0), (2, .ref 114), (3, .ref 126), (4, .int (nI i))]) dL_law_1450 (by decide) rfl ?_
  refine z_aload_n 3 dL_law_1452 rfl rfl ?_
  refine z_aload_n 1 dL_law_1453 rfl rfl ?_
  refine z_iload 5 dL_law_1454 rfl ?_
  refine z_iconst (v := nI 1) dL_law_1456 (by decide) ?_
  refine z_iadd dL_law_1457 ?_
  refine z_top (congrArg Value.int (nI_add i 1)) ?_
  refine z_sld (j := i + 1) (by omega) hb dL_law_1458 ?_
  refine z_callV (N := mX10_shuttlesFor) 1 [.int (nI (zAd G (2000 + (i + 1))))] [] lX10_shuttlesFor ⟨zw_1571, zw_1572, zw_1573⟩ rfl e1 rfl rfl (by decide) (by decide) ⟨l1, l2⟩ ⟨by omega, by omega⟩ (fun z => by rw [hG] at z; cases z) R2 dL_law_1459 ?_
  refine z_istore (lv' := [(6, .int v), (5, .int k), (0, .ref 1009), (1, .ref 0), (2, .ref 114), (3, .ref 126), (4, .int (nI i))]) dL_law_1462 (by decide) rfl ?_
  refine z_aload_n 4 dL_law_1464 rfl rfl ?_
  refine z_callV (N := mX10_thrown) 0 [] [] lX10_thrown ⟨zw_1236, zw_1237, zw_1238⟩ rfl e2 rfl rfl (by decide) (by decide) ⟨l2, l2⟩ ⟨by omega, by omega⟩ (fun z => by rw [hG] at z; cases z) T dL_law_1465 ?_
  refine z_iload 1 dL_law_1468 rfl ?_
  have K9 : zPW G mL_law mc ms (.inr (some (.int 1))) h' (cells + m1 + 0 + 0) (slots + s1 + 0 + 0) 1492 [(6, .int v), (5, .int k), (0, .ref 1009), (1, .ref 0), (2, .ref 114), (3, .ref 126), (4, .int (nI i))] [] H2 := by
    refine z_goto (tgt := 1635) dL_law_1492 (by decide) ?_
    refine z_sub [2, 3, 4, 5, 6] rfl ?_
    exact z_widen hG (by omega) (by omega) K
  refine z_icmp_eq (tgt := 1475) dL_law_1470 (by decide) (fun _ => ?_) (fun q => absurd rfl q)
  refine z_iload 1 dL_law_1475 rfl ?_
  refine z_if_ne (tgt := 1492) dL_law_1477 (by decide) (fun _ => K9) (fun q => ?_)
  refine z_aload_n 5 dL_law_1480 rfl rfl ?_
  refine z_iconst (v := 0) dL_law_1481 (by decide) ?_
  refine z_lald e3 (by unfold vp_in; decide) dL_law_1482 ?_
  refine z_iload 0 dL_law_1483 rfl ?_
  refine z_i2l dL_law_1485 ?_
  refine z_lcmp dL_law_1486 ?_
  exact z_if_eq (tgt := 1492) dL_law_1487 (by decide) (fun _ => K9) (fun q9 => absurd (zL_cmp (ho q)) q9)

theorem lH_type : zCalH mL_type 3 := ⟨by decide, zG_in 1141 (by decide +kernel) (by decide +kernel), zw_105, ⟨by decide +kernel, by decide +kernel, by decide +kernel⟩, by decide⟩
set_option maxHeartbeats 4000000 in
set_option maxRecDepth 100000 in
theorem law_c23 {G : zT} (hG : zAl G = false) {mc ms i cells slots : Nat} {k0 : Int32} {out : Nat → Int64} {H : zH} (h : zGd k0 out H) (hi : i + 6 ≤ zAd G 1999) (hL : zAd G 1999 ≤ 3072) (hc : cells + 1 ≤ mc) (hs : slots + 6 ≤ ms)
    (K : ∀ (k : Int32) (out : Nat → Int64) (H : zH), zGd k out H → ∃ h', zPW G mL_law mc ms (.inr (some (.int 1))) h' (cells + 1) (slots + 6) 1635 [(0, .ref 1009), (1, .ref 0), (2, .ref 114), (3, .ref 126), (4, .int (nI i))] [] H) : ∃ h', zPW G mL_law mc ms (.inr (some (.int 1))) h' cells slots 1495 [(0, .ref 1009), (1, .ref 0), (2, .ref 114), (3, .ref 126), (4, .int (nI i))] [] H := by
  obtain ⟨m1, s1, k, v, H1, H2, out2, hm1, hs1, R1, R2, g2, ho, z1⟩ := s_type hG (zNcs_ok G) h (nI (zAd G (2000 + (i + 1))))
  obtain ⟨h', K⟩ := K k out2 H2 g2
  refine ⟨h', ?_⟩
  have l0 := h.isH.len
  have l1 := z1.len
  have l2 := g2.isH.len
  obtain ⟨f1, e1⟩ := z1.o114
  obtain ⟨f2, e2⟩ := g2.isH.o114
  have e3 := g2.out
  have T := zGd.thr hG g2
  have hb : zAd G 1999 < 2 ^ 31 := by omega
  refine z_aload_n 1 dL_law_1495 rfl rfl ?_
  refine z_aload_n 0 dL_law_1496 rfl rfl ?_
  refine z_iload 4 dL_law_1497 rfl ?_
  refine z_iconst (v := nI 1) dL_law_1499 (by decide) ?_
  refine z_iadd dL_law_1500 ?_
  refine z_top (congrArg Value.int (nI_add i 1)) ?_
  refine z_sld (j := i + 1) (by omega) hb dL_law_1501 ?_
  refine z_aload_n 3 dL_law_1502 rfl rfl ?_
  refine z_callSH (N := mL_type) 3 [.ref 0, .int (nI (zAd G (2000 + (i + 1)))), .ref 126] [] lH_type ⟨zw_1139, zw_1140⟩ rfl rfl (by decide) (by decide) ⟨l0, l1⟩ hG ⟨by omega, by omega⟩ R1 dL_law_1503 ?_
  refine z_istore (lv' := [(5, .int k), (0, .ref 1009), (1, .ref 0), (2, .ref 114), (3, .ref 126), (4, .int (nI i))]) dL_law_1506 (by decide) rfl ?_
  refine z_aload_n 3 dL_law_1508 rfl rfl ?_
  refine z_aload_n 1 dL_law_1509 rfl rfl ?_
  refine z_iload 5 dL_law_1510 rfl ?_
  refine z_iconst (v := nI 1) dL_law_1512 (by decide) ?_
  refine z_iadd dL_law_1513 ?_
  refine z_top (congrArg Value.int (nI_add i 1)) ?_
  refine z_sld (j := i + 1) (by omega) hb dL_law_1514 ?_
  refine z_callV (N := mX10_type) 1 [.int (nI (zAd G (2000 + (i + 1))))] [] lX10_type ⟨zw_1575, zw_1576, zw_1577⟩ rfl e1 rfl rfl (by decide) (by decide) ⟨l1, l2⟩ ⟨by omega, by omega⟩ (fun z => by rw [hG] at z; cases z) R2 dL_law_1515 ?_
  refine z_istore (lv' := [(6, .int v), (5, .int k), (0, .ref 1009), (1, .ref 0), (2, .ref 114), (3, .ref 126), (4, .int (nI i))]) dL_law_1518 (by decide) rfl ?_
  refine z_aload_n 4 dL_law_1520 rfl rfl ?_
  refine z_callV (N := mX10_thrown) 0 [] [] lX10_thrown ⟨zw_1236, zw_1237, zw_1238⟩ rfl e2 rfl rfl (by decide) (by decide) ⟨l2, l2⟩ ⟨by omega, by omega⟩ (fun z => by rw [hG] at z; cases z) T dL_law_1521 ?_
  refine z_iload 1 dL_law_1524 rfl ?_
  have K9 : zPW G mL_law mc ms (.inr (some (.int 1))) h' (cells + m1 + 0 + 0) (slots + s1 + 0 + 0) 1548 [(6, .int v), (5, .int k), (0, .ref 1009), (1, .ref 0), (2, .ref 114), (3, .ref 126), (4, .int (nI i))] [] H2 := by
    refine z_goto (tgt := 1635) dL_law_1548 (by decide) ?_
    refine z_sub [2, 3, 4, 5, 6] rfl ?_
    exact z_widen hG (by omega) (by omega) K
  refine z_icmp_eq (tgt := 1531) dL_law_1526 (by decide) (fun _ => ?_) (fun q => absurd rfl q)
  refine z_iload 1 dL_law_1531 rfl ?_
  refine z_if_ne (tgt := 1548) dL_law_1533 (by decide) (fun _ => K9) (fun q => ?_)
  refine z_aload_n 5 dL_law_1536 rfl rfl ?_
  refine z_iconst (v := 0) dL_law_1537 (by decide) ?_
  refine z_lald e3 (by unfold vp_in; decide) dL_law_1538 ?_
  refine z_iload 0 dL_law_1539 rfl ?_
  refine z_i2l dL_law_1541 ?_
  refine z_lcmp dL_law_1542 ?_
  exact z_if_eq (tgt := 1548) dL_law_1543 (by decide) (fun _ => K9) (fun q9 => absurd (zL_cmp (ho q)) q9)

set_option maxHeartbeats 4000000 in
set_option maxRecDepth 100000 in
theorem law_c24 {G : zT} (hG : zAl G = false) {mc ms i cells slots : Nat} {k0 : Int32} {out : Nat → Int64} {H : zH} (h : zGd k0 out H) (hi : i + 6 ≤ zAd G 1999) (hL : zAd G 1999 ≤ 3072) (hc : cells + 1 ≤ mc) (hs : slots + 6 ≤ ms)
    (K : ∀ (k : Int32) (out : Nat → Int64) (H : zH), zGd k out H → ∃ h', zPW G mL_law mc ms (.inr (some (.int 1))) h' (cells + 1) (slots + 6) 1635 [(0, .ref 1009), (1, .ref 0), (2, .ref 114), (3, .ref 126), (4, .int (nI i))] [] H) : ∃ h', zPW G mL_law mc ms (.inr (some (.int 1))) h' cells slots 1551 [(0, .ref 1009), (1, .ref 0), (2, .ref 114), (3, .ref 126), (4, .int (nI i))] [] H := by
  obtain ⟨v, H1, H2, k, R1, R2, g2, z1, a, rfl⟩ := s_clear hG h
  obtain ⟨h', K⟩ := K k out H2 g2
  refine ⟨h', ?_⟩
  have l0 := h.isH.len
  have l1 := z1.len
  have l2 := g2.isH.len
  obtain ⟨f0, e0⟩ := h.isH.o0
  obtain ⟨f1, e1⟩ := z1.o114
  refine z_aload_n 1 dL_law_1551 rfl rfl ?_
  refine z_callV (N := mX9_clearCommands) 0 [] [] lX9_clearCommands ⟨zw_418, zw_419, zw_420⟩ rfl e0 rfl rfl (by decide) (by decide) ⟨l0, l1⟩ ⟨by omega, by omega⟩ (fun z => by rw [hG] at z; cases z) R1 dL_law_1552 ?_
  refine z_aload_n 2 dL_law_1555 rfl rfl ?_
  refine z_callV (N := mX10_clearCommands) 0 [] [.int a] lX10_clearCommands ⟨zw_1579, zw_1580, zw_1581⟩ rfl e1 rfl rfl (Nat.le_of_ble_eq_true rfl) (by decide) ⟨l1, l2⟩ ⟨by omega, by omega⟩ (fun z => by rw [hG] at z; cases z) R2 dL_law_1556 ?_
  exact z_icmp_eq (tgt := 1635) dL_law_1559 (by decide) (fun _ => z_widen hG (by omega) (by omega) K) (fun q9 => absurd rfl q9)

set_option maxHeartbeats 4000000 in
set_option maxRecDepth 100000 in
theorem law_c25 {G : zT} (hG : zAl G = false) {mc ms i cells slots : Nat} {k0 : Int32} {out : Nat → Int64} {H : zH} (h : zGd k0 out H) (hi : i + 6 ≤ zAd G 1999) (hL : zAd G 1999 ≤ 3072) (hc : cells + 1 ≤ mc) (hs : slots + 6 ≤ ms)
    (K : ∀ (k : Int32) (out : Nat → Int64) (H : zH), zGd k out H → ∃ h', zPW G mL_law mc ms (.inr (some (.int 1))) h' (cells + 1) (slots + 6) 1635 [(0, .ref 1009), (1, .ref 0), (2, .ref 114), (3, .ref 126), (4, .int (nI i))] [] H) : ∃ h', zPW G mL_law mc ms (.inr (some (.int 1))) h' cells slots 1564 [(0, .ref 1009), (1, .ref 0), (2, .ref 114), (3, .ref 126), (4, .int (nI i))] [] H := by
  obtain ⟨v, H1, H2, k, R1, R2, g2, z1, a, rfl⟩ := s_run hG h
  obtain ⟨h', K⟩ := K k out H2 g2
  refine ⟨h', ?_⟩
  have l0 := h.isH.len
  have l1 := z1.len
  have l2 := g2.isH.len
  obtain ⟨f0, e0⟩ := h.isH.o0
  obtain ⟨f1, e1⟩ := z1.o114
  refine z_aload_n 1 dL_law_1564 rfl rfl ?_
  refine z_callV (N := mX9_runCommands) 0 [] [] lX9_runCommands ⟨zw_426, zw_427, zw_428⟩ rfl e0 rfl rfl (by decide) (by decide) ⟨l0, l1⟩ ⟨by omega, by omega⟩ (fun z => by rw [hG] at z; cases z) R1 dL_law_1565 ?_
  refine z_aload_n 2 dL_law_1568 rfl rfl ?_
  refine z_callV (N := mX10_runCommands) 0 [] [.int a] lX10_runCommands ⟨zw_1583, zw_1584, zw_1585⟩ rfl e1 rfl rfl (Nat.le_of_ble_eq_true rfl) (by decide) ⟨l1, l2⟩ ⟨by omega, by omega⟩ (fun z => by rw [hG] at z; cases z) R2 dL_law_1569 ?_
  exact z_icmp_eq (tgt := 1635) dL_law_1572 (by decide) (fun _ => z_widen hG (by omega) (by omega) K) (fun q9 => absurd rfl q9)

theorem lH_undo : zCalH mL_undo 2 := ⟨by decide, zG_in 1153 (by decide +kernel) (by decide +kernel), zw_105, ⟨by decide +kernel, by decide +kernel, by decide +kernel⟩, by decide⟩
set_option maxHeartbeats 4000000 in
set_option maxRecDepth 100000 in
theorem law_c26 {G : zT} (hG : zAl G = false) {mc ms i cells slots : Nat} {k0 : Int32} {out : Nat → Int64} {H : zH} (h : zGd k0 out H) (hi : i + 6 ≤ zAd G 1999) (hL : zAd G 1999 ≤ 3072) (hc : cells + 1 ≤ mc) (hs : slots + 6 ≤ ms)
    (K : ∀ (k : Int32) (out : Nat → Int64) (H : zH), zGd k out H → ∃ h', zPW G mL_law mc ms (.inr (some (.int 1))) h' (cells + 1) (slots + 6) 1635 [(0, .ref 1009), (1, .ref 0), (2, .ref 114), (3, .ref 126), (4, .int (nI i))] [] H) : ∃ h', zPW G mL_law mc ms (.inr (some (.int 1))) h' cells slots 1577 [(0, .ref 1009), (1, .ref 0), (2, .ref 114), (3, .ref 126), (4, .int (nI i))] [] H := by
  obtain ⟨m1, s1, k, v, H1, H2, out2, hm1, hs1, R1, R2, g2, ho, z1⟩ := s_undo hG (zNcs_ok G) h
  obtain ⟨h', K⟩ := K k out2 H2 g2
  refine ⟨h', ?_⟩
  have l0 := h.isH.len
  have l1 := z1.len
  have l2 := g2.isH.len
  obtain ⟨f1, e1⟩ := z1.o114
  obtain ⟨f2, e2⟩ := g2.isH.o114
  have e3 := g2.out
  have T := zGd.thr hG g2
  have hb : zAd G 1999 < 2 ^ 31 := by omega
  refine z_aload_n 1 dL_law_1577 rfl rfl ?_
  refine z_aload_n 3 dL_law_1578 rfl rfl ?_
  refine z_callSH (N := mL_undo) 2 [.ref 0, .ref 126] [] lH_undo ⟨zw_1151, zw_1152⟩ rfl rfl (by decide) (by decide) ⟨l0, l1⟩ hG ⟨by omega, by omega⟩ R1 dL_law_1579 ?_
  refine z_istore (lv' := [(5, .int k), (0, .ref 1009), (1, .ref 0), (2, .ref 114), (3, .ref 126), (4, .int (nI i))]) dL_law_1582 (by decide) rfl ?_
  refine z_aload_n 3 dL_law_1584 rfl rfl ?_
  refine z_callV (N := mX10_undo) 0 [] [] lX10_undo ⟨zw_1610, zw_1611, zw_1612⟩ rfl e1 rfl rfl (by decide) (by decide) ⟨l1, l2⟩ ⟨by omega, by omega⟩ (fun z => by rw [hG] at z; cases z) R2 dL_law_1585 ?_
  refine z_istore (lv' := [(6, .int v), (5, .int k), (0, .ref 1009), (1, .ref 0), (2, .ref 114), (3, .ref 126), (4, .int (nI i))]) dL_law_1588 (by decide) rfl ?_
  refine z_aload_n 4 dL_law_1590 rfl rfl ?_
  refine z_callV (N := mX10_thrown) 0 [] [] lX10_thrown ⟨zw_1236, zw_1237, zw_1238⟩ rfl e2 rfl rfl (by decide) (by decide) ⟨l2, l2⟩ ⟨by omega, by omega⟩ (fun z => by rw [hG] at z; cases z) T dL_law_1591 ?_
  refine z_iload 1 dL_law_1594 rfl ?_
  have K9 : zPW G mL_law mc ms (.inr (some (.int 1))) h' (cells + m1 + 0 + 0) (slots + s1 + 0 + 0) 1618 [(6, .int v), (5, .int k), (0, .ref 1009), (1, .ref 0), (2, .ref 114), (3, .ref 126), (4, .int (nI i))] [] H2 := by
    refine z_goto (tgt := 1635) dL_law_1618 (by decide) ?_
    refine z_sub [2, 3, 4, 5, 6] rfl ?_
    exact z_widen hG (by omega) (by omega) K
  refine z_icmp_eq (tgt := 1601) dL_law_1596 (by decide) (fun _ => ?_) (fun q => absurd rfl q)
  refine z_iload 1 dL_law_1601 rfl ?_
  refine z_if_ne (tgt := 1618) dL_law_1603 (by decide) (fun _ => K9) (fun q => ?_)
  refine z_aload_n 5 dL_law_1606 rfl rfl ?_
  refine z_iconst (v := 0) dL_law_1607 (by decide) ?_
  refine z_lald e3 (by unfold vp_in; decide) dL_law_1608 ?_
  refine z_iload 0 dL_law_1609 rfl ?_
  refine z_i2l dL_law_1611 ?_
  refine z_lcmp dL_law_1612 ?_
  exact z_if_eq (tgt := 1618) dL_law_1613 (by decide) (fun _ => K9) (fun q9 => absurd (zL_cmp (ho q)) q9)

set_option maxHeartbeats 4000000 in
set_option maxRecDepth 100000 in
theorem law_c27 {G : zT} (hG : zAl G = false) {mc ms i cells slots : Nat} {k0 : Int32} {out : Nat → Int64} {H : zH} (h : zGd k0 out H) (hi : i + 6 ≤ zAd G 1999) (hL : zAd G 1999 ≤ 3072) (hc : cells + 1 ≤ mc) (hs : slots + 6 ≤ ms)
    (K : ∀ (k : Int32) (out : Nat → Int64) (H : zH), zGd k out H → ∃ h', zPW G mL_law mc ms (.inr (some (.int 1))) h' (cells + 1) (slots + 6) 1635 [(0, .ref 1009), (1, .ref 0), (2, .ref 114), (3, .ref 126), (4, .int (nI i))] [] H) : ∃ h', zPW G mL_law mc ms (.inr (some (.int 1))) h' cells slots 1621 [(0, .ref 1009), (1, .ref 0), (2, .ref 114), (3, .ref 126), (4, .int (nI i))] [] H := by
  obtain ⟨v, H1, H2, k, R1, R2, g2, z1, a, rfl⟩ := s_digest hG h
  obtain ⟨h', K⟩ := K k out H2 g2
  refine ⟨h', ?_⟩
  have l0 := h.isH.len
  have l1 := z1.len
  have l2 := g2.isH.len
  obtain ⟨f0, e0⟩ := h.isH.o0
  obtain ⟨f1, e1⟩ := z1.o114
  refine z_aload_n 1 dL_law_1621 rfl rfl ?_
  refine z_callV (N := mX9_digest) 0 [] [] lX9_digest ⟨zw_756, zw_757, zw_758⟩ rfl e0 rfl rfl (by decide) (by decide) ⟨l0, l1⟩ ⟨by omega, by omega⟩ (fun z => by rw [hG] at z; cases z) R1 dL_law_1622 ?_
  refine z_aload_n 2 dL_law_1625 rfl rfl ?_
  refine z_callV (N := mX10_digest) 0 [] [.long a] lX10_digest ⟨zw_1614, zw_1615, zw_1616⟩ rfl e1 rfl rfl (Nat.le_of_ble_eq_true rfl) (by decide) ⟨l1, l2⟩ ⟨by omega, by omega⟩ (fun z => by rw [hG] at z; cases z) R2 dL_law_1626 ?_
  refine z_lcmp dL_law_1629 ?_
  exact z_if_eq (tgt := 1635) dL_law_1630 (by decide) (fun _ => z_widen hG (by omega) (by omega) K) (fun q9 => absurd (zL_cmp rfl) q9)

theorem law_head {G : zT} {mc ms i cells slots : Nat} {o : zO} {h' H : zH} {x : Int32} (hi : i < zAd G 1999) (hb : zAd G 1999 < 2 ^ 31) (e : nI (zAd G (2000 + i)) &&& 31 = x) (k : zPW G mL_law mc ms o h' cells slots 40 [(0, .ref 1009), (1, .ref 0), (2, .ref 114), (3, .ref 126), (4, .int (nI i))] [.int x] H) : zPW G mL_law mc ms o h' cells slots 33 [(0, .ref 1009), (1, .ref 0), (2, .ref 114), (3, .ref 126), (4, .int (nI i))] [] H := by
  refine z_aload_n 0 dL_law_33 rfl rfl ?_
  refine z_iload 4 dL_law_34 rfl ?_
  refine z_sld (j := i) hi hb dL_law_36 ?_
  refine z_bipush (v := 31) dL_law_37 (by decide) ?_
  refine z_iand dL_law_39 ?_
  refine z_top (congrArg Value.int e) ?_
  exact k

set_option maxHeartbeats 4000000 in
set_option maxRecDepth 100000 in
theorem law_step {G : zT} (hG : zAl G = false) {mc ms i cells slots : Nat} {k0 : Int32} {out : Nat → Int64} {H : zH} (h : zGd k0 out H) (hi : i + 6 ≤ zAd G 1999) (hL : zAd G 1999 ≤ 3072) (hc : cells + 1 ≤ mc) (hs : slots + 6 ≤ ms)
    (K : ∀ (k : Int32) (out : Nat → Int64) (H : zH), zGd k out H → ∃ h', zPW G mL_law mc ms (.inr (some (.int 1))) h' (cells + 1) (slots + 6) 1635 [(0, .ref 1009), (1, .ref 0), (2, .ref 114), (3, .ref 126), (4, .int (nI i))] [] H) : ∃ h', zPW G mL_law mc ms (.inr (some (.int 1))) h' cells slots 33 [(0, .ref 1009), (1, .ref 0), (2, .ref 114), (3, .ref 126), (4, .int (nI i))] [] H := by
  obtain ⟨j, hj, ej⟩ := zL_and (nI (zAd G (2000 + i)))
  have hj9 : j = 0 ∨ j = 1 ∨ j = 2 ∨ j = 3 ∨ j = 4 ∨ j = 5 ∨ j = 6 ∨ j = 7 ∨ j = 8 ∨ j = 9 ∨ j = 10 ∨ j = 11 ∨ j = 12 ∨ j = 13 ∨ j = 14 ∨ j = 15 ∨ j = 16 ∨ j = 17 ∨ j = 18 ∨ j = 19 ∨ j = 20 ∨ j = 21 ∨ j = 22 ∨ j = 23 ∨ j = 24 ∨ j = 25 ∨ j = 26 ∨ j = 27 ∨ j = 28 ∨ j = 29 ∨ j = 30 ∨ j = 31 := by omega
  rcases hj9 with rfl | rfl | rfl | rfl | rfl | rfl | rfl | rfl | rfl | rfl | rfl | rfl | rfl | rfl | rfl | rfl | rfl | rfl | rfl | rfl | rfl | rfl | rfl | rfl | rfl | rfl | rfl | rfl | rfl | rfl | rfl | rfl
  · obtain ⟨h', k⟩ := law_c0 hG h hi hL hc hs K
    exact ⟨h', law_head (by omega) (by omega) ej (z_tableIn (off := 128) (tgt := 168) dL_law_40 (by decide +kernel) (by decide +kernel) (by decide +kernel) (by decide) k)⟩
  · obtain ⟨h', k⟩ := law_c1 hG h hi hL hc hs K
    exact ⟨h', law_head (by omega) (by omega) ej (z_tableIn (off := 196) (tgt := 236) dL_law_40 (by decide +kernel) (by decide +kernel) (by decide +kernel) (by decide) k)⟩
  · obtain ⟨h', k⟩ := law_c2 hG h hi hL hc hs K
    exact ⟨h', law_head (by omega) (by omega) ej (z_tableIn (off := 300) (tgt := 340) dL_law_40 (by decide +kernel) (by decide +kernel) (by decide +kernel) (by decide) k)⟩
  · obtain ⟨h', k⟩ := law_c3 hG h hi hL hc hs K
    exact ⟨h', law_head (by omega) (by omega) ej (z_tableIn (off := 380) (tgt := 420) dL_law_40 (by decide +kernel) (by decide +kernel) (by decide +kernel) (by decide) k)⟩
  · obtain ⟨h', k⟩ := law_c4 hG h hi hL hc hs K
    exact ⟨h', law_head (by omega) (by omega) ej (z_tableIn (off := 436) (tgt := 476) dL_law_40 (by decide +kernel) (by decide +kernel) (by decide +kernel) (by decide) k)⟩
  · obtain ⟨h', k⟩ := law_c5 hG h hi hL hc hs K
    exact ⟨h', law_head (by omega) (by omega) ej (z_tableIn (off := 492) (tgt := 532) dL_law_40 (by decide +kernel) (by decide +kernel) (by decide +kernel) (by decide) k)⟩
  · obtain ⟨h', k⟩ := law_c6 hG h hi hL hc hs K
    exact ⟨h', law_head (by omega) (by omega) ej (z_tableIn (off := 560) (tgt := 600) dL_law_40 (by decide +kernel) (by decide +kernel) (by decide +kernel) (by decide) k)⟩
  · obtain ⟨h', k⟩ := law_c7 hG h hi hL hc hs K
    exact ⟨h', law_head (by omega) (by omega) ej (z_tableIn (off := 616) (tgt := 656) dL_law_40 (by decide +kernel) (by decide +kernel) (by decide +kernel) (by decide) k)⟩
  · obtain ⟨h', k⟩ := law_c8 hG h hi hL hc hs K
    exact ⟨h', law_head (by omega) (by omega) ej (z_tableIn (off := 672) (tgt := 712) dL_law_40 (by decide +kernel) (by decide +kernel) (by decide +kernel) (by decide) k)⟩
  · obtain ⟨h', k⟩ := law_c9 hG h hi hL hc hs K
    exact ⟨h', law_head (by omega) (by omega) ej (z_tableIn (off := 728) (tgt := 768) dL_law_40 (by decide +kernel) (by decide +kernel) (by decide +kernel) (by decide) k)⟩
  · obtain ⟨h', k⟩ := law_c10 hG h hi hL hc hs K
    exact ⟨h', law_head (by omega) (by omega) ej (z_tableIn (off := 808) (tgt := 848) dL_law_40 (by decide +kernel) (by decide +kernel) (by decide +kernel) (by decide) k)⟩
  · obtain ⟨h', k⟩ := law_c11 hG h hi hL hc hs K
    exact ⟨h', law_head (by omega) (by omega) ej (z_tableIn (off := 876) (tgt := 916) dL_law_40 (by decide +kernel) (by decide +kernel) (by decide +kernel) (by decide) k)⟩
  · obtain ⟨h', k⟩ := law_c12 hG h hi hL hc hs K
    exact ⟨h', law_head (by omega) (by omega) ej (z_tableIn (off := 944) (tgt := 984) dL_law_40 (by decide +kernel) (by decide +kernel) (by decide +kernel) (by decide) k)⟩
  · obtain ⟨h', k⟩ := law_c13 hG h hi hL hc hs K
    exact ⟨h', law_head (by omega) (by omega) ej (z_tableIn (off := 1012) (tgt := 1052) dL_law_40 (by decide +kernel) (by decide +kernel) (by decide +kernel) (by decide) k)⟩
  · obtain ⟨h', k⟩ := law_c14 hG h hi hL hc hs K
    exact ⟨h', law_head (by omega) (by omega) ej (z_tableIn (off := 1080) (tgt := 1120) dL_law_40 (by decide +kernel) (by decide +kernel) (by decide +kernel) (by decide) k)⟩
  · obtain ⟨h', k⟩ := law_c15 hG h hi hL hc hs K
    exact ⟨h', law_head (by omega) (by omega) ej (z_tableIn (off := 1136) (tgt := 1176) dL_law_40 (by decide +kernel) (by decide +kernel) (by decide +kernel) (by decide) k)⟩
  · obtain ⟨h', k⟩ := law_c16 hG h hi hL hc hs K
    exact ⟨h', law_head (by omega) (by omega) ej (z_tableIn (off := 1192) (tgt := 1232) dL_law_40 (by decide +kernel) (by decide +kernel) (by decide +kernel) (by decide) k)⟩
  · obtain ⟨h', k⟩ := law_c17 hG h hi hL hc hs K
    exact ⟨h', law_head (by omega) (by omega) ej (z_tableIn (off := 1248) (tgt := 1288) dL_law_40 (by decide +kernel) (by decide +kernel) (by decide +kernel) (by decide) k)⟩
  · obtain ⟨h', k⟩ := law_c18 hG h hi hL hc hs K
    exact ⟨h', law_head (by omega) (by omega) ej (z_tableIn (off := 1261) (tgt := 1301) dL_law_40 (by decide +kernel) (by decide +kernel) (by decide +kernel) (by decide) k)⟩
  · obtain ⟨h', k⟩ := law_c19 hG h hi hL hc hs K
    exact ⟨h', law_head (by omega) (by omega) ej (z_tableIn (off := 1274) (tgt := 1314) dL_law_40 (by decide +kernel) (by decide +kernel) (by decide +kernel) (by decide) k)⟩
  · obtain ⟨h', k⟩ := law_c20 hG h hi hL hc hs K
    exact ⟨h', law_head (by omega) (by omega) ej (z_tableIn (off := 1330) (tgt := 1370) dL_law_40 (by decide +kernel) (by decide +kernel) (by decide +kernel) (by decide) k)⟩
  · obtain ⟨h', k⟩ := law_c21 hG h hi hL hc hs K
    exact ⟨h', law_head (by omega) (by omega) ej (z_tableIn (off := 1386) (tgt := 1426) dL_law_40 (by decide +kernel) (by decide +kernel) (by decide +kernel) (by decide) k)⟩
  · obtain ⟨h', k⟩ := law_c22 hG h hi hL hc hs K
    exact ⟨h', law_head (by omega) (by omega) ej (z_tableIn (off := 1399) (tgt := 1439) dL_law_40 (by decide +kernel) (by decide +kernel) (by decide +kernel) (by decide) k)⟩
  · obtain ⟨h', k⟩ := law_c23 hG h hi hL hc hs K
    exact ⟨h', law_head (by omega) (by omega) ej (z_tableIn (off := 1455) (tgt := 1495) dL_law_40 (by decide +kernel) (by decide +kernel) (by decide +kernel) (by decide) k)⟩
  · obtain ⟨h', k⟩ := law_c24 hG h hi hL hc hs K
    exact ⟨h', law_head (by omega) (by omega) ej (z_tableIn (off := 1511) (tgt := 1551) dL_law_40 (by decide +kernel) (by decide +kernel) (by decide +kernel) (by decide) k)⟩
  · obtain ⟨h', k⟩ := law_c25 hG h hi hL hc hs K
    exact ⟨h', law_head (by omega) (by omega) ej (z_tableIn (off := 1524) (tgt := 1564) dL_law_40 (by decide +kernel) (by decide +kernel) (by decide +kernel) (by decide) k)⟩
  · obtain ⟨h', k⟩ := law_c26 hG h hi hL hc hs K
    exact ⟨h', law_head (by omega) (by omega) ej (z_tableIn (off := 1537) (tgt := 1577) dL_law_40 (by decide +kernel) (by decide +kernel) (by decide +kernel) (by decide) k)⟩
  · obtain ⟨h', k⟩ := law_c27 hG h hi hL hc hs K
    exact ⟨h', law_head (by omega) (by omega) ej (z_tableIn (off := 1581) (tgt := 1621) dL_law_40 (by decide +kernel) (by decide +kernel) (by decide +kernel) (by decide) k)⟩
  · obtain ⟨h', k⟩ := K k0 out H h
    exact ⟨h', law_head (by omega) (by omega) ej (z_tableOut (tgt := 1635) dL_law_40 (by decide +kernel) (by decide) (z_widen hG (by omega) (by omega) k))⟩
  · obtain ⟨h', k⟩ := K k0 out H h
    exact ⟨h', law_head (by omega) (by omega) ej (z_tableOut (tgt := 1635) dL_law_40 (by decide +kernel) (by decide) (z_widen hG (by omega) (by omega) k))⟩
  · obtain ⟨h', k⟩ := K k0 out H h
    exact ⟨h', law_head (by omega) (by omega) ej (z_tableOut (tgt := 1635) dL_law_40 (by decide +kernel) (by decide) (z_widen hG (by omega) (by omega) k))⟩
  · obtain ⟨h', k⟩ := K k0 out H h
    exact ⟨h', law_head (by omega) (by omega) ej (z_tableOut (tgt := 1635) dL_law_40 (by decide +kernel) (by decide) (z_widen hG (by omega) (by omega) k))⟩

theorem law_next {G : zT} {mc ms i cells slots : Nat} {o : zO} {h' H : zH} (k : zPW G mL_law mc ms o h' cells slots 23 [(0, .ref 1009), (1, .ref 0), (2, .ref 114), (3, .ref 126), (4, .int (nI (i + 6)))] [] H) : zPW G mL_law mc ms o h' cells slots 1635 [(0, .ref 1009), (1, .ref 0), (2, .ref 114), (3, .ref 126), (4, .int (nI i))] [] H := by
  refine z_iinc (v := nI (i + 6)) (lv' := [(4, .int (nI (i + 6))), (0, .ref 1009), (1, .ref 0), (2, .ref 114), (3, .ref 126)]) 4 dL_law_1635 rfl (by rw [show Int32.ofInt 6 = nI 6 from by decide]; exact nI_add i 6) (by decide) rfl ?_
  refine z_goto (tgt := 23) dL_law_1638 (by decide) ?_
  refine z_sub [1, 2, 3, 4, 0] rfl ?_
  exact k
theorem law_exit {G : zT} {mc ms i cells slots : Nat} {H : zH} (hL : zAd G 1999 ≤ 3072) (hi : i < 2 ^ 31) (h : zAd G 1999 < i + 6) (hc : cells ≤ mc) (hs : slots ≤ ms) : zPW G mL_law mc ms (.inr (some (.int 1))) H cells slots 23 [(0, .ref 1009), (1, .ref 0), (2, .ref 114), (3, .ref 126), (4, .int (nI i))] [] H := by
  refine z_iload 4 dL_law_23 rfl ?_
  refine z_aload_n 0 dL_law_25 rfl rfl ?_
  refine z_slen dL_law_26 ?_
  refine z_bipush (v := 6) dL_law_27 (by decide) ?_
  refine z_isub dL_law_29 ?_
  refine z_icmp_gt (tgt := 1641) dL_law_30 (by decide) (fun _ => ?_) (fun q => absurd ((zL_end hL hi).mpr h) q)
  refine z_iconst (v := 1) dL_law_1641 (by decide) ?_
  exact z_zret rfl (by decide) dL_law_1642 rfl rfl hc hs
theorem law_enter {G : zT} {mc ms i cells slots : Nat} {o : zO} {h' H : zH} (hL : zAd G 1999 ≤ 3072) (hi : i < 2 ^ 31) (h : ¬ zAd G 1999 < i + 6) (k : zPW G mL_law mc ms o h' cells slots 33 [(0, .ref 1009), (1, .ref 0), (2, .ref 114), (3, .ref 126), (4, .int (nI i))] [] H) : zPW G mL_law mc ms o h' cells slots 23 [(0, .ref 1009), (1, .ref 0), (2, .ref 114), (3, .ref 126), (4, .int (nI i))] [] H := by
  refine z_iload 4 dL_law_23 rfl ?_
  refine z_aload_n 0 dL_law_25 rfl rfl ?_
  refine z_slen dL_law_26 ?_
  refine z_bipush (v := 6) dL_law_27 (by decide) ?_
  refine z_isub dL_law_29 ?_
  exact z_icmp_gt (tgt := 1641) dL_law_30 (by decide) (fun q => absurd ((zL_end hL hi).mp q) h) (fun _ => k)
theorem law_loop {G : zT} (hG : zAl G = false) (hL : zAd G 1999 ≤ 3072) {mc ms : Nat} : ∀ (n i cells slots : Nat) (k : Int32) (out : Nat → Int64) (H : zH), zGd k out H → zAd G 1999 < i + 6 + 6 * n → i ≤ 3078 → cells + n ≤ mc → slots + 6 * n ≤ ms → ∃ h', zPW G mL_law mc ms (.inr (some (.int 1))) h' cells slots 23 [(0, .ref 1009), (1, .ref 0), (2, .ref 114), (3, .ref 126), (4, .int (nI i))] [] H
  | 0, i, cells, slots, k, out, H, h, h1, h2, h3, h4 => ⟨H, law_exit hL (by omega) (by omega) (by omega) (by omega)⟩
  | n + 1, i, cells, slots, k, out, H, h, h1, h2, h3, h4 => by
    by_cases q : zAd G 1999 < i + 6
    · exact ⟨H, law_exit hL (by omega) q (by omega) (by omega)⟩
    · obtain ⟨h', k9⟩ := law_step hG h (i := i) (cells := cells) (slots := slots) (mc := mc) (ms := ms) (by omega) hL (by omega) (by omega) (fun k out H g => by
        obtain ⟨h', r⟩ := law_loop hG hL (mc := mc) (ms := ms) n (i + 6) (cells + 1) (slots + 6) k out H g (by omega) (by omega) (by omega) (by omega)
        exact ⟨h', law_next r⟩)
      exact ⟨h', law_enter hL (by omega) q k9⟩
