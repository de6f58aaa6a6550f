section ZTHROW
def zDx : List Cond := zDc.map Cond.declares ++ zCs.map (fun x => Cond.castable x x)
theorem zDx_ot : ∀ w ∈ zDx, vx_ot w = true := by decide +kernel
theorem zDx_in {U : State} (h : zDw U) : ∀ w ∈ zDx, w.before #[] U = true := by
  intro w hw
  rcases List.mem_append.mp hw with q | q
  · obtain ⟨y, hy, rfl⟩ := List.mem_map.mp q
    exact h.1 y hy
  · obtain ⟨y, hy, rfl⟩ := List.mem_map.mp q
    exact h.2.1 y hy
/-- 'throw new E("text")': it goes to the caller -/
theorem z_throw {G : zT} {M : zN} {mc ms : Nat} {o : zO} {h' : zH} {cells slots pc : Nat} {lv : List (Nat × Value)} {h : zH} {cls text : String} {names : List String} {ik is ic sa : Nat}
    (hO : mO M = "MirrorLoom") (hH : mH M = []) (hD : 7 ≤ mD M) (hcls : Bundle.fit cls = true) (hnames : ∀ n ∈ names, Bundle.fit n = true) (hn3 : names.length = 2)
    (hk : Cond.classLink "MirrorLoom" ik cls ∈ zG) (hini : Cond.initialized cls ∈ zG) (hat : ∀ w ∈ vx_atS "MirrorLoom" ic cls names, (w ∈ lw_tbl ∧ goodWord w = true) ∨ w ∈ zDx) (hstr : ∀ U : State, zKs G U → vk_R "MirrorLoom" is text (zAd G sa) U)
    (d0 : decode (mC M) pc = .ok (.new ik, 3)) (d3 : decode (mC M) (pc + 3) = .ok (.dup, 1)) (d4 : decode (mC M) (pc + 4) = .ok (.ldc_w is, 3)) (d7 : decode (mC M) (pc + 7) = .ok (.invokespecial ic, 3)) (d10 : decode (mC M) (pc + 10) = .ok (.athrow, 1))
    (ho : o = .inl cls) (hh : h = h') (hc : cells + 1 ≤ mc) (hs : slots + 6 ≤ ms) : zPW G M mc ms o h' cells slots pc lv [] h := by
  intro p e s m args below meth c A H locs ls C N hl
  subst hh
  have hot : ∀ w ∈ zG, vx_ot w = true := fun w hw => by
    have := (List.mem_filter.mp hw).2
    simp only [vx_ot, this, Bool.or_true]
  have hnil : c.exceptionTable.toList = [] := by
    have := C.2.2.2.2.2.2.2.2.2.2.2
    rw [hH] at this
    exact List.map_eq_nil_iff.mp this
  have hl0 : (zL G).stackTraces = false := C.2.2.2.2.2.2.2.1.2.2.2.2.2.2.2.1.1
  have hdw : zDw s := C.2.2.2.2.2.2.2.1.2.2.2.2.2.2.2.1.2
  refine vx_throwSW (own := "MirrorLoom") (cls := cls) (text := text) (names := names) (ik := ik) (is := is) (ic := ic) (sa := zAd G sa) (A := A) C.1 C.2.1 hl0 (by rw [← hO]; exact C.2.2.2.2.2.1) hcls hnames (C.2.2.2.2.2.2.1 _ hk) (C.2.2.2.2.2.2.1 _ hini) (hstr s C.2.2.2.2.2.2.2.1) (fun w hw => (hat w hw).elim (fun q => C.2.2.2.2.2.2.1 _ (List.mem_filter.mpr q)) (fun q => vx_ot_at (State.WarmedH.refl s) rfl (zDx_ot w q) (zDx_in hdw w q))) ?_ C.2.2.2.2.2.2.2.2.1.1 C.2.2.2.2.2.2.2.2.1.2.1 N.2.2.1 (hl.1.trans C.2.2.1.symm) d0 d3 d4 d7 d10 ?_ ?_ ?_ hc hs C.2.2.2.2.1 ?_ N.2.2.1.2.2 hc hs
  · intro w hw
    rcases List.mem_cons.mp hw with rfl | hw
    · exact hot _ hk
    · rcases List.mem_cons.mp hw with rfl | hw
      · exact hot _ hini
      · exact (hat w hw).elim (fun q => hot _ (List.mem_filter.mpr q)) (fun q => zDx_ot w q)
  · intro x hx
    rw [hnil] at hx
    cases hx
  · rw [hn3]
    show 2 + 3 < mD M
    omega
  · rw [hn3]
    show 0 + (13 * (2 + 1) + 43) ≤ 35 * mD M + mD M / 13 * 33
    omega
  · intro t hal hsz hq
    obtain ⟨hP, hDd, hS, -⟩ := N
    refine ⟨⟨ho, va_P.kept hP (fun k q hk9 => hq _ (hP k q hk9).lt), hDd⟩, Nat.le_trans hS.1 hsz, fun q h1 h2 => ?_⟩
    rw [hq q (Nat.lt_of_lt_of_le h1 hS.1)]
    exact hS.2.1 q h1 h2
/-- a static call that throws: it goes to the caller -/
theorem z_callSX {G : zT} {M N : zN} {mc ms mc1 ms1 : Nat} {o : zO} {h h1 h' : zH} {cells slots pc : Nat} {lv : List (Nat × Value)} {stk : List Value} {E : String} {idx : Nat} (n : Nat) (As st : List Value)
    (hN : zCal N n) (hw : Cond.methodLink (mO M) idx (mY N) ∈ zG ∧ Cond.static (mY N) ∈ zG) (hH : mH M = [])
    (hst : stk = As.reverse ++ st) (hn : As.length = n) (hcat : (st.map fun v => v.category).sum ≤ 8) (hdp : mD N + 1 ≤ mD M) (hal0 : zAl G = false) (hfit : cells + mc1 ≤ mc ∧ slots + ms1 ≤ ms)
    (hR : zRun G N mc1 ms1 As h (.inl E) h1) (hd : decode (mC M) pc = .ok (.invokestatic idx, 3)) (ho : o = .inl E) (hh : h1 = h') : zPW G M mc ms o h' cells slots pc lv stk h := by
  intro p e s m args below meth c A H locs ls C N9 hl
  subst hst
  subst hh
  subst ho
  obtain ⟨hh, hcd, hini, hnm, hnl⟩ := hN
  obtain ⟨hws, hgood⟩ := z_ws hh hcd
  have hpre := z_pre (av := As) C N9 (fun z => by rw [hal0] at z; cases z)
  have hgi : GoodIn zG (va_wsS (mO M) idx (mY N) (zWs N)) := by
    intro w hw9
    rcases List.mem_append.mp hw9 with h9 | h9
    · simp only [List.mem_cons, List.not_mem_nil, or_false] at h9
      rcases h9 with rfl | rfl | rfl
      · exact zG_good _ hw.1
      · exact zG_good _ hw.2
      · exact zG_good _ hini
    · exact hgood w h9
  have hnil : c.exceptionTable.toList = [] := by
    have := C.2.2.2.2.2.2.2.2.2.2.2
    rw [hH] at this
    exact List.map_eq_nil_iff.mp this
  rw [z_vis]
  have hr := vx_runS (e := e) (meth := meth) (below := below) (locs := locs) (cells := cells) (slots := slots) (g := F0 m pc ls ((As.map (zv (zAd G))).reverse ++ st.map (zv (zAd G)))) (As := As.map (zv (zAd G))) (rest := st.map (zv (zAd G))) ⟨C.1, C.2.1, C.2.2.1, C.2.2.2.2.2.1, C.2.2.2.2.2.2.1⟩ (hR H.size) (va_cwS n C.2.2.2.2.2.2.1 hgi hws rfl rfl hnm (z_room hdp hnl)) hpre rfl (by rw [List.length_map]; exact hn) hl.1 rfl (z_cats hcat) hd (z_fit hfit)
  obtain ⟨hP, hD, hS, -⟩ := N9
  have hA : ∀ q : Nat, s.heap.size ≤ q → A q := C.2.2.2.2.2.2.2.2.2.1
  have hF : ∀ q, va_A (zWd G h) H.size q → A q := va_free hD hS hA (List.range h.length) zw_all
  intro T hT X
  rcases hr T hT X with ⟨v, st₀, t, T', L, h0, X', hL, e1, e2, ⟨⟨v9, hv9, -⟩, -⟩, stp⟩ | ⟨q, st₀, t, T', L, E9, ce, h0, X', hL, e1, e2, ⟨⟨hE, hP1, hD1⟩, hF1⟩, hce, hcv, hcl, stp⟩
  · cases hv9
  · cases hE
    obtain ⟨k1, k2, k3⟩ := vx_keep h0 e1 hS (fun q _ z => hF q z) (fun q z => hF q z) hL hF1
    obtain ⟨t2, a1, b1⟩ := vx_out (s := s) (args := args) (Qc := zQ G (.inl E) h1 A) (XC := zX G (.inl E) h1 A) (free := A) (rest := st.map (zv (zAd G))) (pc := pc) (ls := ls) (E := E) (ce := ce) (q := q) (mc := mc) (ms := ms) (fun x hx => by rw [hnil] at hx; cases hx) C.2.2.2.2.1 (by rw [e1]; exact hce) hcv hcl (fun t ht _ => ⟨⟨rfl, by rw [ht, e1]; exact hP1, hD1.weaken (fun _ q _ z => hF q.1 z)⟩, k3.F ht⟩) k3.2.2 (by exact hfit.1) (by exact hfit.2) T' rfl X'
    exact ⟨t2, stp.trans a1, b1⟩
end ZTHROW
def zNs9 : List String := ["java/lang/RuntimeException", "java/lang/Exception"]
theorem zt_1 : ∀ w ∈ vx_atS "MirrorLoom" 259 "java/lang/IndexOutOfBoundsException" zNs9, (w ∈ lw_tbl ∧ goodWord w = true) ∨ w ∈ zDx := by decide +kernel
theorem c_refuse_1 {G : zT} {h : zH} : zRun G mX9_refuse 1 6 [.int 1] h (.inl "java/lang/IndexOutOfBoundsException") h := by
  refine zRun_of (by decide +kernel) rfl rfl (Nat.le_of_ble_eq_true rfl) ?_
  refine z_iload_n 0 dX9_refuse_0 rfl rfl ?_
  refine z_iconst (v := 1) dX9_refuse_1 (by decide) ?_
  refine z_icmp_ne (tgt := 16) dX9_refuse_2 (by decide) (fun c => absurd rfl c) (fun c => ?_)
  exact z_throw (cls := "java/lang/IndexOutOfBoundsException") (text := "there is no such place") (names := zNs9) (ik := 255) (is := 257) (ic := 259) (sa := 1020) rfl rfl (by decide) (by decide +kernel) (by decide +kernel) rfl zw_498 zw_49 zt_1 (fun U U9 => U9.2.2.2.1) dX9_refuse_5 dX9_refuse_8 dX9_refuse_9 dX9_refuse_12 dX9_refuse_15 rfl rfl (Nat.le_refl _) (Nat.le_refl _)
theorem zt_2 : ∀ w ∈ vx_atS "MirrorLoom" 266 "java/lang/IllegalArgumentException" zNs9, (w ∈ lw_tbl ∧ goodWord w = true) ∨ w ∈ zDx := by decide +kernel
theorem c_refuse_2 {G : zT} {h : zH} : zRun G mX9_refuse 1 6 [.int 2] h (.inl "java/lang/IllegalArgumentException") h := by
  refine zRun_of (by decide +kernel) rfl rfl (Nat.le_of_ble_eq_true rfl) ?_
  refine z_iload_n 0 dX9_refuse_0 rfl rfl ?_
  refine z_iconst (v := 1) dX9_refuse_1 (by decide) ?_
  refine z_icmp_ne (tgt := 16) dX9_refuse_2 (by decide) (fun c => ?_) (fun c => absurd c (by decide))
  refine z_iload_n 0 dX9_refuse_16 rfl rfl ?_
  refine z_iconst (v := 2) dX9_refuse_17 (by decide) ?_
  refine z_icmp_ne (tgt := 32) dX9_refuse_18 (by decide) (fun c => absurd rfl c) (fun c => ?_)
  exact z_throw (cls := "java/lang/IllegalArgumentException") (text := "an argument is out of range") (names := zNs9) (ik := 262) (is := 264) (ic := 266) (sa := 1021) rfl rfl (by decide) (by decide +kernel) (by decide +kernel) rfl zw_566 zw_50 zt_2 (fun U U9 => U9.2.2.2.2.1) dX9_refuse_21 dX9_refuse_24 dX9_refuse_25 dX9_refuse_28 dX9_refuse_31 rfl rfl (Nat.le_refl _) (Nat.le_refl _)
theorem zt_3 : ∀ w ∈ vx_atS "MirrorLoom" 271 "java/lang/IllegalStateException" zNs9, (w ∈ lw_tbl ∧ goodWord w = true) ∨ w ∈ zDx := by decide +kernel
theorem c_refuse_3 {G : zT} {h : zH} : zRun G mX9_refuse 1 6 [.int 3] h (.inl "java/lang/IllegalStateException") h := by
  refine zRun_of (by decide +kernel) rfl rfl (Nat.le_of_ble_eq_true rfl) ?_
  refine z_iload_n 0 dX9_refuse_0 rfl rfl ?_
  refine z_iconst (v := 1) dX9_refuse_1 (by decide) ?_
  refine z_icmp_ne (tgt := 16) dX9_refuse_2 (by decide) (fun c => ?_) (fun c => absurd c (by decide))
  refine z_iload_n 0 dX9_refuse_16 rfl rfl ?_
  refine z_iconst (v := 2) dX9_refuse_17 (by decide) ?_
  refine z_icmp_ne (tgt := 32) dX9_refuse_18 (by decide) (fun c => ?_) (fun c => absurd c (by decide))
  refine z_iload_n 0 dX9_refuse_32 rfl rfl ?_
  refine z_iconst (v := 3) dX9_refuse_33 (by decide) ?_
  refine z_icmp_ne (tgt := 48) dX9_refuse_34 (by decide) (fun c => absurd rfl c) (fun c => ?_)
  exact z_throw (cls := "java/lang/IllegalStateException") (text := "this cannot be done now") (names := zNs9) (ik := 267) (is := 269) (ic := 271) (sa := 1022) rfl rfl (by decide) (by decide +kernel) (by decide +kernel) rfl zw_582 zw_51 zt_3 (fun U U9 => U9.2.2.2.2.2.1) dX9_refuse_37 dX9_refuse_40 dX9_refuse_41 dX9_refuse_44 dX9_refuse_47 rfl rfl (Nat.le_refl _) (Nat.le_refl _)
theorem c_refuse_0 {G : zT} {h : zH} : zRun G mX9_refuse 0 0 [.int 0] h (.inr none) h := by
  refine zRun_of (by decide +kernel) rfl rfl (Nat.le_of_ble_eq_true rfl) ?_
  refine z_iload_n 0 dX9_refuse_0 rfl rfl ?_
  refine z_iconst (v := 1) dX9_refuse_1 (by decide) ?_
  refine z_icmp_ne (tgt := 16) dX9_refuse_2 (by decide) (fun c => ?_) (fun c => absurd c (by decide))
  refine z_iload_n 0 dX9_refuse_16 rfl rfl ?_
  refine z_iconst (v := 2) dX9_refuse_17 (by decide) ?_
  refine z_icmp_ne (tgt := 32) dX9_refuse_18 (by decide) (fun c => ?_) (fun c => absurd c (by decide))
  refine z_iload_n 0 dX9_refuse_32 rfl rfl ?_
  refine z_iconst (v := 3) dX9_refuse_33 (by decide) ?_
  refine z_icmp_ne (tgt := 48) dX9_refuse_34 (by decide) (fun c => ?_) (fun c => absurd c (by decide))
  exact z_vret rfl dX9_refuse_48 rfl rfl (Nat.le_refl _) (Nat.le_refl _)
