section ZCALLS
/-- behind a call: the walk goes on with the callee's world -/
theorem z_after {G : zT} {M : zN} {mc ms mc1 ms1 : Nat} {o : zO} {h h1 h' : zH} {cells slots pc : Nat} {lv : List (Nat × Value)} {st : List Value} {r : Option Value}
    {p : Program} {e : Env} {s : State} {m : MethodId} {args : Array Value} {below : List Frame} {meth : Method} {c : Code} {A : Nat → Prop} {H : Heap} {locs : List Loc} {ls : Array Slot} {st0 : List Value} {a : Array Value}
    (C : zCx G M p s m args meth c A) (N : zNw G A h s H locs cells) (hl : lv_has ls (mN M) (zl (zAd G) lv)) (hal : zAl G = true → h1.length = h.length + mc1) (hsm : h1.length < 1000)
    (hr : va_Run p (zL G) e (zR M mc ms) s m args below meth c H locs cells slots mc1 ms1 (F0 m pc ls st0) (st.map (zv (zAd G))) (zQ G (.inr r) h1 (va_A (zWd G h) H.size) a) (va_A (zWd G h) H.size))
    (k : zPW G M mc ms o h' (cells + mc1) (slots + ms1) (pc + 3) lv (r.toList ++ st) h1) :
    W p (zL G) e (zR M mc ms) s m args below meth c H locs cells slots (vx_MQ below (zQ G o h' A) (zX G o h' A) args s mc ms A) (F0 m pc ls st0) := by
  obtain ⟨hP, hD, hS, hal0⟩ := N
  have hA : ∀ q : Nat, s.heap.size ≤ q → A q := C.2.2.2.2.2.2.2.2.2.1
  have hF : ∀ q, va_A (zWd G h) H.size q → A q := va_free hD hS hA (List.range h.length) zw_all
  intro T hT X
  obtain ⟨v, st₀, t, T', L, h0, X', hL, e1, e2, ⟨⟨v9, hv9, hv, hP1, hD1⟩, hF1⟩, stp⟩ := hr T hT X
  cases hv9
  cases hv
  obtain ⟨k1, k2, k3⟩ := vx_keep h0 e1 hS (fun q _ z => hF q z) (fun q z => hF q z) hL hF1
  have hsz : ∀ n : Nat, n < 999 → zAd G (n + 1) = zAd G n + 1 := C.2.2.2.2.2.2.2.1.2.2.2.2.2.2.2.2
  have hadd : ∀ d n : Nat, n + d < 1000 → zAd G (n + d) = zAd G n + d := by
    intro d
    induction d with
    | zero => intro n _; rfl
    | succ d ih =>
      intro n hn
      rw [show n + (d + 1) = n + d + 1 by omega, hsz (n + d) (by omega), ih n (by omega)]
      omega
  have N' : zNw G A h1 s T'.heap (locs ++ L) (cells + mc1) := ⟨by rw [e1]; exact hP1, hD1.weaken (fun _ q _ z => hF q.1 z), k3, fun z => by
    have q1 := hal z
    have q2 := hal0 z
    rw [q1, hadd mc1 h.length (by omega), ← q2]
    omega⟩
  have K := k p e s m args below meth c A T'.heap (locs ++ L) ls C N' hl
  obtain ⟨t2, a1, b1⟩ := K T' rfl X'
  refine ⟨t2, stp t2 ?_, b1⟩
  have e9 : (List.map (zv (zAd G)) (r.toList ++ st)) = (r.map (zv (zAd G))).toList ++ st.map (zv (zAd G)) := by
    cases r <;> rfl
  rw [e9] at a1
  exact a1
/-- a callee's start, out of the caller's point -/
theorem z_pre {G : zT} {M : zN} {h : zH} {cells : Nat} {av : List Value} {p : Program} {s : State} {m : MethodId} {args : Array Value} {meth : Method} {c : Code} {A : Nat → Prop} {H : Heap} {locs : List Loc}
    (C : zCx G M p s m args meth c A) (N : zNw G A h s H locs cells) (hsz : zAl G = true → H.size = zAd G h.length) : PreS s H (va_Pc (av.map (zv (zAd G))) (zPre G h H.size)) (av.map (zv (zAd G))) := by
  obtain ⟨hP, hD, hS, -⟩ := N
  have hA : ∀ q : Nat, s.heap.size ≤ q → A q := C.2.2.2.2.2.2.2.2.2.1
  have hF : ∀ q, va_A (zWd G h) H.size q → A q := va_free hD hS hA (List.range h.length) zw_all
  have hKs := C.2.2.2.2.2.2.2.1
  have hKh := C.2.2.2.2.2.2.2.2.1
  refine ⟨?_, ?_⟩
  · intro a U g mk q
    obtain ⟨q1, q2, q3, q4, q5, q6, q7⟩ := q
    exact ⟨q1, q2, q3.same rfl, q4.moved (u := U) (U := U.calling g mk a) (Vm.Alike.refl U.vm), q5, q6, q7⟩
  · intro U hU hW
    exact ⟨rfl, by rw [hU], hKs.warm hW, by rw [hU]; exact ((hKh.kept hS.2.1).narrow hF).moved hW.alike, by rw [hU]; exact hP, hD.weaken (fun _ _ _ _ => trivial), hsz⟩
/-- how large the heap is, while things are made -/
theorem z_size {G : zT} {M : zN} {h : zH} {cells : Nat} {p : Program} {s : State} {m : MethodId} {args : Array Value} {meth : Method} {c : Code} {A : Nat → Prop} {H : Heap} {locs : List Loc}
    (C : zCx G M p s m args meth c A) (N : zNw G A h s H locs cells) (hle : H.size ≤ s.heap.size + cells) (h0 : 0 < h.length ∨ cells = 0) (hsm : h.length < 1000) : zAl G = true → H.size = zAd G h.length := by
  intro z
  have q := N.2.2.2 z
  have hsz : ∀ n : Nat, n < 999 → zAd G (n + 1) = zAd G n + 1 := C.2.2.2.2.2.2.2.1.2.2.2.2.2.2.2.2
  rcases h0 with h0 | h0
  · have h1 : h[h.length - 1]? = some (h[h.length - 1]'(by omega)) := List.getElem?_eq_getElem _
    have h2 := (N.1 _ _ (zw_get (dA := zA G) (ad := zAd G) h1)).lt
    have h3 := hsz (h.length - 1) (by omega)
    rw [show h.length - 1 + 1 = h.length by omega] at h3
    have h4 : zAd G (h.length - 1) < H.size := h2
    omega
  · have h5 := N.2.2.1.1
    omega
theorem z_sized {p : Program} {l : Launch} {e : Env} {R : Room} {s : State} {m : MethodId} {args : Array Value} {below : List Frame} {meth : Method} {c : Code} {H : Heap} {locs : List Loc} {cells slots : Nat} {Q : State → Prop} {g : JFrame}
    (k : H.size ≤ s.heap.size + cells → W p l e R s m args below meth c H locs cells slots Q g) : W p l e R s m args below meth c H locs cells slots Q g := by
  intro T hT X
  have h := X.same.2.2.1
  have h2 : T.heap.size ≤ s.heap.size + cells := h
  rw [hT] at h2
  exact k h2 T hT X
/-- the words of a callee, of whom the caller has them all -/
theorem z_ws {N : zN} (hh : mH N = []) (hc : Cond.code (mY N) (mC N) (mN N) (mR N) ∈ zG) : zWs N = Cond.code (mY N) (mC N) (mN N) (mR N) :: zG ∧ GoodIn zG (zWs N) := by
  have h1 : zWs N = Cond.code (mY N) (mC N) (mN N) (mR N) :: zG := by unfold zWs; rw [if_pos hh]
  refine ⟨h1, ?_⟩
  rw [h1]
  intro w hw
  rcases List.mem_cons.mp hw with rfl | hw
  · exact zG_good _ hc
  · exact zG_good _ hw
def zCal (N : zN) (n : Nat) : Prop := mH N = [] ∧ Cond.code (mY N) (mC N) (mN N) (mR N) ∈ zG ∧ Cond.initialized (mY N).cls ∈ zG ∧ ((mY N).cls ≠ "java/lang/invoke/MethodHandle" ∧ (mY N).cls ≠ "java/lang/invoke/VarHandle" ∧ (parseMethodDescriptor (mY N).desc).map (fun d => d.parameters.length) = some n) ∧ mN N ≤ 16
theorem z_room {M N : zN} {mc ms mc1 ms1 : Nat} (hd : mD N + 1 ≤ mD M) (hn : mN N ≤ 16) : (zR N mc1 ms1).frames + 1 ≤ (zR M mc ms).frames ∧ 8 + (mN N + 11) + (zR N mc1 ms1).locals ≤ (zR M mc ms).locals := by
  refine ⟨hd, ?_⟩
  show 8 + (mN N + 11) + (35 * mD N + mD N / 13 * 33) ≤ 35 * mD M + mD M / 13 * 33
  omega
theorem z_fit {M : zN} {cells slots mc ms mc1 ms1 : Nat} (hc : cells + mc1 ≤ mc ∧ slots + ms1 ≤ ms) : cells + mc1 ≤ (zR M mc ms).cells ∧ slots + ms1 ≤ (zR M mc ms).slots := hc
theorem z_cats {ad : Nat → Nat} {m : MethodId} {pc : Nat} {ls : Array Slot} {rest st : List Value} (h : (st.map fun v => v.category).sum ≤ 8) : 2 * (F0 m pc ls rest).monitorRoom + ((st.map (zv ad)).map fun v => v.category).sum ≤ 8 := by
  rw [zv_cats]
  exact lv_room (rest := rest) (ls := ls) h
theorem z_vis (ad : Nat → Nat) (As st : List Value) : (As.reverse ++ st).map (zv ad) = (As.map (zv ad)).reverse ++ st.map (zv ad) := by
  rw [List.map_append, List.map_reverse]
/-- invokevirtual, the receiver of the class itself -/
theorem z_callV {G : zT} {M N : zN} {mc ms mc1 ms1 : Nat} {o : zO} {h h1 h' : zH} {cells slots pc : Nat} {lv : List (Nat × Value)} {stk : List Value} {r : Option Value} {idx ci i n9 : Nat} {T : u_T} {fs : List Value} (n : Nat) (As st : List Value)
    (hN : zCal N n) (hw : Cond.methodLink (mO M) idx (mY N) ∈ zG ∧ Cond.instanceMethod (mY N) ∈ zG ∧ Cond.selects (mY N).cls (mY N) (mY N) ∈ zG) (hc : vwCl[ci]? = some ((mY N).cls, T, n9)) (hp : h[i]? = some (.inr (ci, fs)))
    (hst : stk = As.reverse ++ .ref i :: st) (hn : As.length = n) (hcat : (st.map fun v => v.category).sum ≤ 8) (hdp : mD N + 1 ≤ mD M) (hsm : h.length < 1000 ∧ h1.length < 1000) (hfit : cells + mc1 ≤ mc ∧ slots + ms1 ≤ ms) (hal : zAl G = true → h1.length = h.length + mc1)
    (hR : zRun G N mc1 ms1 (.ref i :: As) h (.inr r) h1) (hd : decode (mC M) pc = .ok (.invokevirtual idx, 3))
    (k : zPW G M mc ms o h' (cells + mc1) (slots + ms1) (pc + 3) lv (r.toList ++ st) h1) : zPW G M mc ms o h' cells slots pc lv stk h := by
  intro p e s m args below meth c A H locs ls C N9 hl
  subst hst
  obtain ⟨hh, hcd, hini, hnm, hnl⟩ := hN
  obtain ⟨hws, hgood⟩ := z_ws hh hcd
  refine z_sized fun hle => ?_
  have hpos : 0 < h.length := Nat.lt_of_le_of_lt (Nat.zero_le i) (List.getElem?_eq_some_iff.mp hp).1
  have hpre := z_pre (av := .ref i :: As) C N9 (z_size C N9 hle (Or.inl hpos) hsm.1)
  have hrecv := va_recv C.2.2.2.2.2.2.2.1.1 N9.1 hc (zw_get hp)
  have hgi : GoodIn zG (wsV (mO M) idx (mY N).cls (mY N) (zWs N)) := by
    intro w hw9
    rcases List.mem_append.mp hw9 with h9 | h9
    · simp only [List.mem_cons, List.not_mem_nil, or_false] at h9
      rcases h9 with rfl | rfl | rfl | rfl
      · exact zG_good _ hw.1
      · exact zG_good _ hw.2.1
      · exact zG_good _ hw.2.2
      · exact zG_good _ hini
    · exact hgood w h9
  have cw : CallW (zR M mc ms) s args (mO M) (mY N).cls idx (mY N) (mC N) (mN N) (mR N) (zWs N) (zR N mc1 ms1) mc1 ms1 n := cwV n C.2.2.2.2.2.2.1 hgi hws rfl rfl ⟨rfl, hnm⟩ (z_room hdp hnl)
  rw [show (As.reverse ++ .ref i :: st).map (zv (zAd G)) = (As.map (zv (zAd G))).reverse ++ .ref (zAd G i) :: st.map (zv (zAd G)) by rw [List.map_append, List.map_reverse]; rfl]
  exact z_after C N9 hl hal hsm.2 (va_runV (As := As.map (zv (zAd G))) (rest := st.map (zv (zAd G))) ⟨C.1, C.2.1, C.2.2.1, C.2.2.2.2.2.1, C.2.2.2.2.2.2.1⟩ (hR.met H.size) cw ⟨hpre.1, hrecv, fun U hU hW => hpre.2 U hU hW⟩ rfl (by rw [List.length_map]; exact hn) hl.1 rfl (z_cats hcat) hd (z_fit hfit)) k
/-- invokestatic of the class's own -/
theorem z_callS {G : zT} {M N : zN} {mc ms mc1 ms1 : Nat} {o : zO} {h h1 h' : zH} {cells slots pc : Nat} {lv : List (Nat × Value)} {stk : List Value} {r : Option Value} {idx : Nat} (n : Nat) (As st : List Value)
    (hN : zCal N n) (hw : Cond.methodLink (mO M) idx (mY N) ∈ zG ∧ Cond.static (mY N) ∈ zG) (hown : (mY N).cls = mO M)
    (hst : stk = As.reverse ++ st) (hn : As.length = n) (hcat : (st.map fun v => v.category).sum ≤ 8) (hdp : mD N + 1 ≤ mD M) (hsm : h.length < 1000 ∧ h1.length < 1000) (hal0 : zAl G = false) (hfit : cells + mc1 ≤ mc ∧ slots + ms1 ≤ ms)
    (hR : zRun G N mc1 ms1 As h (.inr r) h1) (hd : decode (mC M) pc = .ok (.invokestatic idx, 3))
    (k : zPW G M mc ms o h' (cells + mc1) (slots + ms1) (pc + 3) lv (r.toList ++ st) h1) : zPW G M mc ms o h' cells slots pc lv stk h := by
  intro p e s m args below meth c A H locs ls C N9 hl
  subst hst
  obtain ⟨hh, hcd, hini, hnm, hnl⟩ := hN
  obtain ⟨hws, hgood⟩ := z_ws hh hcd
  have hpre := z_pre (av := As) C N9 (fun z => by rw [hal0] at z; cases z)
  have hgi : GoodIn zG (wsS (mO M) idx (mY N) (zWs N)) := by
    intro w hw9
    rcases List.mem_append.mp hw9 with h9 | h9
    · simp only [List.mem_cons, List.not_mem_nil, or_false] at h9
      rcases h9 with rfl | rfl | rfl
      · exact zG_good _ hw.1
      · exact zG_good _ hw.2
      · rw [← hown]; exact zG_good _ hini
    · exact hgood w h9
  rw [z_vis]
  exact z_after C N9 hl (fun z => by rw [hal0] at z; cases z) hsm.2 (va_runS (As := As.map (zv (zAd G))) (rest := st.map (zv (zAd G))) ⟨C.1, C.2.1, C.2.2.1, C.2.2.2.2.2.1, C.2.2.2.2.2.2.1⟩ (hR.met H.size) (cwS n C.2.2.2.2.2.2.1 hgi hws rfl rfl ⟨hown, hnm⟩ (z_room hdp hnl)) hpre rfl (by rw [List.length_map]; exact hn) hl.1 rfl (z_cats hcat) hd (z_fit hfit)) k
/-- invokestatic of a nest mate's private method -/
theorem z_callSN {G : zT} {M N : zN} {mc ms mc1 ms1 : Nat} {o : zO} {h h1 h' : zH} {cells slots pc : Nat} {lv : List (Nat × Value)} {stk : List Value} {r : Option Value} {idx : Nat} (n : Nat) (As st : List Value)
    (hN : zCal N n) (hw : (mO M, idx, mY N) ∈ zNM ∧ Cond.static (mY N) ∈ zG)
    (hst : stk = As.reverse ++ st) (hn : As.length = n) (hcat : (st.map fun v => v.category).sum ≤ 8) (hdp : mD N + 1 ≤ mD M) (hsm : h.length < 1000 ∧ h1.length < 1000) (hal0 : zAl G = false) (hfit : cells + mc1 ≤ mc ∧ slots + ms1 ≤ ms)
    (hR : zRun G N mc1 ms1 As h (.inr r) h1) (hd : decode (mC M) pc = .ok (.invokestatic idx, 3))
    (k : zPW G M mc ms o h' (cells + mc1) (slots + ms1) (pc + 3) lv (r.toList ++ st) h1) : zPW G M mc ms o h' cells slots pc lv stk h := by
  intro p e s m args below meth c A H locs ls C N9 hl
  subst hst
  obtain ⟨hh, hcd, hini, hnm, hnl⟩ := hN
  obtain ⟨hws, hgood⟩ := z_ws hh hcd
  have hpre := z_pre (av := As) C N9 (fun z => by rw [hal0] at z; cases z)
  have hts := C.2.2.2.2.2.2.1
  rw [z_vis]
  exact z_after C N9 hl (fun z => by rw [hal0] at z; cases z) hsm.2 (va_runSN (host := "MirrorLoom") (As := As.map (zv (zAd G))) (rest := st.map (zv (zAd G))) ⟨C.1, C.2.1, C.2.2.1, C.2.2.2.2.2.1, hts⟩ (hR.met H.size) ⟨va_cnB n hts hgood hws rfl rfl (C.2.2.2.2.2.2.2.1.2.2.1 _ hw.1) (hts _ hini) hnm (z_room hdp hnl), hts _ hw.2, trivial⟩ hpre rfl (by rw [List.length_map]; exact hn) hl.1 rfl (z_cats hcat) hd (z_fit hfit)) k
end ZCALLS
