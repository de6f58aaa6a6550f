/-! methods with handlers: the law's own -/
theorem zTabH {c : Code} {hh : zHh} (h : c.exceptionTable.toList = tableOf hh) : c.exceptionTable.toList.map (fun h => (h.startPc, h.endPc, h.handlerPc, h.catchType)) = hh := by
  rw [h]
  unfold tableOf
  rw [List.map_map]
  exact List.map_id hh
theorem zRun_ofH {G : zT} {M : zN} {mc ms : Nat} {av : List Value} {h h' : zH} {o : zO} (hy : plainName (mY M).cls = true) (hO : (mY M).cls = mO M) (hh : ¬ mH M = []) (hn : (lg_sl av).length ≤ mN M)
    (k : zPW G M mc ms o h' 0 0 0 (lv_args 0 av) [] h) : zRun G M mc ms av h o h' := by
  intro sz
  have hW : zWs M = Cond.codeWith (mY M) (mC M) (mN M) (mR M) (mH M) :: zG := by unfold zWs; rw [if_neg hh]
  refine vx_ofWH (cc := mC M) (maxL := mN M) (ret := mR M) (ws' := zG) hy hW ?_
  intro p e s m args below meth c s₁ B hml hv
  obtain ⟨rfl, hsz, hK, hKh, hP, hD0, hal⟩ := hv
  subst hsz
  have hts := atoms_spec (ws := zWs M) B.pre
  have ht := vx_table (x := mY M) B (hts (Cond.codeWith (mY M) (mC M) (mN M) (mR M) (mH M)) (by rw [hW]; exact List.mem_cons_self))
  have hS : va_S (va_A (zWd G h) s.heap.size) s.heap s.heap [] := va_S.rf
  have hl := lv_entry (av.map (zv (zAd G))) (n := mN M) (by rw [zl_slen]; exact hn)
  rw [zl_args] at hl
  rw [lg_entry_eq]
  exact k p e s m _ below meth c _ s.heap [] _ ⟨B.exec, B.bytes, hml, B.returns, B.notSynchronized, by rw [← hO]; exact findClass_of_methodNamed B.named, fun w hw => hts w (by rw [hW]; exact List.mem_cons_of_mem _ hw), hK, hKh, fun q hq => Or.inr hq, (name_of_methodNamed B.named B.method).1, zTabH ht⟩ ⟨hP, hD0.self, hS, fun z => hal z⟩ hl
/-- a call that throws; caught here, and put away -/
theorem z_callVC {G : zT} {M N : zN} {mc ms mc1 ms1 : Nat} {o : zO} {h h1 h' : zH} {cells slots pc : Nat} {lv lv' : List (Nat × Value)} {stk : List Value} {E : String} {idx ci i n9 hpc ct a9 b9 i9 L9 : Nat} {T : u_T} {fs : List Value} (pre suf : zHh) (n : Nat) (As st : List Value)
    (hN : zCal N n) (hw : Cond.methodLink (mO M) idx (mY N) ∈ zG ∧ Cond.instanceMethod (mY N) ∈ zG ∧ Cond.selects (mY N).cls (mY N) (mY N) ∈ zG) (hc : vwCl[ci]? = some ((mY N).cls, T, n9)) (hp : h[i]? = some (.inr (ci, fs)))
    (hst : stk = As.reverse ++ .ref i :: st) (hn : As.length = n) (hcat : (st.map fun v => v.category).sum ≤ 8) (hdp : mD N + 1 ≤ mD M) (hal0 : zAl G = false) (hfit : cells + mc1 ≤ mc ∧ slots + ms1 ≤ ms)
    (hR : zRun G N mc1 ms1 (.ref i :: As) h (.inl E) h1) (hd : decode (mC M) pc = .ok (.invokevirtual idx, 3))
    (hH : mH M = pre ++ (a9, b9, hpc, ct) :: suf) (hab : a9 ≤ pc ∧ pc < b9) (hct : ct ≠ 0) (hlink : Cond.classLink (mO M) ct E ∈ zG) (hE : E ∈ zCs)
    (hpass : ∀ z ∈ pre, z.2.2.2 ≠ 0 ∧ ∃ nm, Cond.classLink (mO M) z.2.2.2 nm ∈ zG ∧ ∀ U, zKs G U → va_Nc E nm U)
    (hda : (decode (mC M) hpc = .ok (.astore i9, 2) ∧ L9 = 2) ∨ (∃ k9 : Fin 4, decode (mC M) hpc = .ok (.astore_n k9, 1) ∧ (k9 : Nat) = i9 ∧ L9 = 1)) (hi9 : i9 < mN M)
    (hlv : lv.filter (fun q => !(q.1 == i9) && !(q.1 + 1 == i9 && q.2.category == 2)) = lv')
    (k : zPW G M mc ms o h' (cells + mc1) (slots + ms1) (hpc + L9) lv' [] h1) : zPW G M mc ms o h' cells slots pc lv stk h := by
  intro p e s m args below meth c A H locs ls C N9 hl
  subst hst
  obtain ⟨hh, hcd, hini, hnm, hnl⟩ := hN
  obtain ⟨hws, hgood⟩ := z_ws hh hcd
  have hpre := z_pre (av := .ref i :: As) C N9 (fun z => by rw [hal0] at z; cases z)
  have hrecv := va_recv C.2.2.2.2.2.2.2.1.1 N9.1 hc (zw_get hp)
  have hgi : GoodIn zG (wsV (mO M) idx (mY N).cls (mY N) (zWs N)) := by
    intro w hw9
    rcases List.mem_append.mp hw9 with h9 | h9
    · simp only [List.mem_cons, List.not_mem_nil, or_false] at h9
      rcases h9 with rfl | rfl | rfl | rfl
      · exact zG_good _ hw.1
      · exact zG_good _ hw.2.1
      · exact zG_good _ hw.2.2
      · exact zG_good _ hini
    · exact hgood w h9
  have cw : CallW (zR M mc ms) s args (mO M) (mY N).cls idx (mY N) (mC N) (mN N) (mR N) (zWs N) (zR N mc1 ms1) mc1 ms1 n := cwV n C.2.2.2.2.2.2.1 hgi hws rfl rfl ⟨rfl, hnm⟩ (z_room hdp hnl)
  rw [show (As.reverse ++ .ref i :: st).map (zv (zAd G)) = (As.map (zv (zAd G))).reverse ++ .ref (zAd G i) :: st.map (zv (zAd G)) by rw [List.map_append, List.map_reverse]; rfl]
  have hr := vx_runV (e := e) (meth := meth) (below := below) (locs := locs) (cells := cells) (slots := slots) (g := F0 m pc ls ((As.map (zv (zAd G))).reverse ++ .ref (zAd G i) :: st.map (zv (zAd G)))) (As := As.map (zv (zAd G))) (rest := st.map (zv (zAd G))) ⟨C.1, C.2.1, C.2.2.1, C.2.2.2.2.2.1, C.2.2.2.2.2.2.1⟩ (hR H.size) cw ⟨hpre.1, hrecv, fun U hU hW => hpre.2 U hU hW⟩ rfl (by rw [List.length_map]; exact hn) hl.1 rfl (z_cats hcat) hd (z_fit hfit)
  obtain ⟨hP, hD, hS, -⟩ := N9
  have hA : ∀ q : Nat, s.heap.size ≤ q → A q := C.2.2.2.2.2.2.2.2.2.1
  have hF : ∀ q, va_A (zWd G h) H.size q → A q := va_free hD hS hA (List.range h.length) zw_all
  have hdw : zDw s := C.2.2.2.2.2.2.2.1.2.2.2.2.2.2.2.1.2
  have htab : c.exceptionTable.toList = tableOf (mH M) := by
    rw [← C.2.2.2.2.2.2.2.2.2.2.2, table_eq]
  have hcast : (Cond.castable E E).before args s = true := by
    have q : Cond.castable E E ∈ zDx := List.mem_append_right _ (List.mem_map.mpr ⟨E, hE, rfl⟩)
    exact vx_ot_at (State.WarmedH.refl s) rfl (zDx_ot _ q) (zDx_in hdw _ q)
  intro T hT X
  rcases hr T hT X with ⟨v, st₀, t, T', L, h0, X', hL, e1, e2, ⟨⟨v9, hv9, -⟩, -⟩, stp⟩ | ⟨q, st₀, t, T', L, E9, ce, h0, X', hL, e1, e2, ⟨⟨hE9, hP1, hD1⟩, hF1⟩, hce, hcv, hcl, stp⟩
  · cases hv9
  · cases hE9
    obtain ⟨k1, k2, k3⟩ := vx_keep h0 e1 hS (fun q _ z => hF q z) (fun q z => hF q z) hL hF1
    have N' : zNw G A h1 s T'.heap (locs ++ L) (cells + mc1) := ⟨by rw [e1]; exact hP1, hD1.weaken (fun _ q _ z => hF q.1 z), k3, fun z => by rw [hal0] at z; cases z⟩
    have hflt : (zl (zAd G) lv).filter (fun q => !(q.1 == i9) && !(q.1 + 1 == i9 && q.2.category == 2)) = zl (zAd G) lv' := by
      subst hlv
      unfold zl
      rw [List.filter_map]
      refine congrArg _ (List.filter_congr fun q _ => ?_)
      simp only [Function.comp, zv_cat]
    have drop : ∀ ls' : Array Slot, lv_has ls' (mN M) ((i9, Value.ref q) :: zl (zAd G) lv') → lv_has ls' (mN M) (zl (zAd G) lv') := fun ls' z => ⟨z.1, z.2.1, fun x hx => z.2.2 x (List.mem_cons_of_mem _ hx)⟩
    have hW : vx_W p (zL G) e (zR M mc ms) s m args below meth c T'.heap (locs ++ L) (cells + mc1) (slots + ms1) (vx_MQ below (zQ G o h' A) (zX G o h' A) args s mc ms A) (F0 m pc ls (st.map (zv (zAd G)))) q := by
      refine vx_catch (own := mO M) (name := E) (E := E) (ce := ce) C.2.2.2.2.2.1 (tableOf pre) ⟨a9, b9, hpc, ct⟩ (tableOf suf) (by rw [htab, hH]; unfold tableOf; rw [List.map_append, List.map_cons]) ?_ ?_ hct (C.2.2.2.2.2.2.1 _ hlink) hcast (by rw [e1]; exact hce) hcv hcl ?_
      · intro z hz
        obtain ⟨y, hy, rfl⟩ := List.mem_map.mp hz
        obtain ⟨y1, nm, y2, y3⟩ := hpass y hy
        exact Or.inr ⟨y1, nm, C.2.2.2.2.2.2.1 _ y2, y3 s C.2.2.2.2.2.2.2.1⟩
      · show (decide (a9 ≤ pc) && decide (pc < b9)) = true
        rw [decide_eq_true hab.1, decide_eq_true hab.2]
        rfl
      · rcases hda with ⟨d1, rfl⟩ | ⟨k9, d1, d2, rfl⟩
        · exact lv_astore C.1 C.2.1 d1 hl hi9 (by rw [hflt]) (fun ls' hl' => k p e s m args below meth c A T'.heap (locs ++ L) ls' C N' (drop ls' hl'))
        · exact lv_astore_n C.1 C.2.1 d1 d2 hl hi9 (by rw [hflt]) (fun ls' hl' => k p e s m args below meth c A T'.heap (locs ++ L) ls' C N' (drop ls' hl'))
    obtain ⟨t2, a1, b1⟩ := hW T' rfl X'
    exact ⟨t2, stp.trans a1, b1⟩
