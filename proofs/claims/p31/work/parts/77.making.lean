/-! WHAT IS MADE: rows for new, arrays, constructors (zAl G = true: each new cell lies behind the last) -/
def zOff (G : zT) : zT := (G.1, G.2.1, G.2.2.1, G.2.2.2.1, false)
section ZMAKE
variable {G : zT} {M : zN} {mc ms : Nat} {o : zO} {h' : zH} {cells slots pc : Nat} {lv : List (Nat × Value)} {st : List Value} {h : zH}
/-- behind the last making -/
theorem z_off (k : zPW (zOff G) M mc ms o h' cells slots pc lv st h) : zPW G M mc ms o h' cells slots pc lv st h :=
  fun p e s m args below meth c A H locs ls C N hl => k p e s m args below meth c A H locs ls C ⟨N.1, N.2.1, N.2.2.1, fun z => by cases z⟩ hl
theorem z_made {x : zE} {H H1 : Heap} {s : State} {A : Nat → Prop} {locs : List Loc} (hsz : ∀ n : Nat, n < 999 → zAd G (n + 1) = zAd G n + 1) (hA : ∀ q : Nat, s.heap.size ≤ q → A q) (hsm : h.length < 999) (hq : H.size = zAd G h.length)
    (N : zNw G A h s H locs cells) (hx : va_at (zD G) vwCl (zAd G h.length, zc (zA G) (zAd G) x) H1) (z1 : H1.size = zAd G h.length + 1) (o1 : ∀ q : Nat, q < zAd G h.length → H1[q]? = H[q]?) : zNw G A (h ++ [x]) s H1 locs (cells + 1) := by
  obtain ⟨hP, hD, hS, hal⟩ := N
  have hk : ∀ (k : Nat) (y : Nat × va_E), (zWd G h)[k]? = some y → H1[y.1]? = H[y.1]? := fun k y hy => o1 y.1 (by rw [← hq]; exact (hP k y hy).lt)
  have e0 : zWd G (h ++ [x]) = zWd G h ++ [(zAd G h.length, zc (zA G) (zAd G) x)] := zw_push
  refine ⟨?_, ?_, ⟨Nat.le_trans hS.1 (by omega), fun y h1 h2 => (o1 y (by rw [← hq]; exact Nat.lt_of_lt_of_le h1 hS.1)).trans (hS.2.1 y h1 h2), hS.2.2⟩, fun z => ?_⟩
  · rw [e0]
    refine (hP.kept hk).app (fun k y hy => ?_)
    have hz : k < 1 := (List.getElem?_eq_some_iff.mp hy).1
    rw [show k = 0 by omega] at hy
    cases hy
    exact hx
  · rw [e0]
    exact hD.push hP hq.symm (hA _ (by rw [← hq]; exact hS.1))
  · have e1 : (h ++ [x]).length = h.length + 1 := by simp
    have e2 := hsz h.length hsm
    have e3 := hal z
    rw [e1]
    omega
/-- new -/
theorem z_new {idx ci n9 q9 : Nat} {Cn : String} {T : u_T} {fs : List Value} {h2 : zH} (ty0 : Nat → FieldType) (hG : zAl G = true) (hsm : h.length < 999) (h0 : 0 < h.length ∨ cells = 0) (hc : vwCl[ci]? = some (Cn, T, n9)) (hin : ∀ w ∈ u_ws Cn T n9, w ∈ zG) (ht0 : ∀ k, k < n9 → parseFieldDescriptor (T k).2.2.1 = some (ty0 k))
    (hcl : Cond.classLink (mO M) idx Cn ∈ zG) (hinst : Cond.instantiable Cn n9 ∈ zG) (hini : Cond.initialized Cn ∈ zG) (hfs : ∀ j, j < n9 → defaultValue (ty0 j) = vp_V fs j) (hfz : ∀ ad : Nat → Nat, fs.map (zv ad) = fs) (hfit : cells + 1 ≤ mc ∧ slots + n9 ≤ ms) (hd : decode (mC M) pc = .ok (.new idx, 3)) (hq9 : h.length = q9) (hh2 : h ++ ([.inr (ci, fs)] : zH) = h2)
    (k : zPW G M mc ms o h' (cells + 1) (slots + n9) (pc + 3) lv (.ref q9 :: st) h2) : zPW G M mc ms o h' cells slots pc lv st h := by
  subst hq9 hh2
  intro p e s m args below meth c A H locs ls C N hl
  have hts := C.2.2.2.2.2.2.1
  have hK := C.2.2.2.2.2.2.2.1.1
  refine z_sized fun hle => ?_
  have hq : H.size = zAd G h.length := z_size C N hle h0 (by omega) hG
  have hKn := hK.1 ci _ hc
  refine W.newcK C.1 C.2.1 C.2.2.2.2.2.1 (hts _ hcl) (hts _ hinst) (hts _ hini) rfl hd hfit.1 hfit.2 hKn.2.1 hq fun H1 kC hkC e1 z1 o1 => ?_
  refine k p e s m args below meth c A H1 locs ls C (z_made C.2.2.2.2.2.2.2.1.2.2.2.2.2.2.2.2 C.2.2.2.2.2.2.2.2.2.1 hsm hq N ?_ z1 o1) hl
  have e9 : zc (zA G) (zAd G) (.inr (ci, fs)) = .inr (ci, fs) := by
    show Sum.inr (ci, fs.map (zv (zAd G))) = _
    rw [hfz]
  rw [e9]
  exact ⟨_, hc, (u_born ty0 hts hin hKn hkC e1 ht0).to hfs⟩
/-- newarray of ints -/
theorem z_newaI {n : Int32} {N q9 : Nat} {h2 : zH} (hG : zAl G = true) (hsm : h.length < 999) (h0 : 0 < h.length) (hn : ¬ n < 0) (hN : n.toNatClampNeg = N) (hby : N ≤ 6000) (hfit : cells + 1 ≤ mc ∧ slots + N ≤ ms) (harr : Cond.arrayClass .int ∈ zG) (hd : decode (mC M) pc = .ok (.newarray .int, 2)) (hq9 : h.length = q9) (hh2 : h ++ ([.inl (0, N, .inl (fun _ => 0))] : zH) = h2)
    (k : zPW G M mc ms o h' (cells + 1) (slots + N) (pc + 2) lv (.ref q9 :: st) h2) : zPW G M mc ms o h' cells slots pc lv (.int n :: st) h := by
  subst hq9 hh2
  intro p e s m args below meth c A H locs ls C N0 hl
  have hts := C.2.2.2.2.2.2.1
  have hK := C.2.2.2.2.2.2.2.1.1
  refine z_sized fun hle => ?_
  have hq : H.size = zAd G h.length := z_size C N0 hle (Or.inl h0) (by omega) hG
  refine va_newaK (atype := .int) C.1 C.2.1 (hts _ harr) rfl hd rfl hn hN (by show N * 4 ≤ 536870912; omega) hfit.1 hfit.2 hq fun H1 cA e1 z1 o1 hAr hNm => ?_
  have hc : cA = zA G 0 := Option.some.inj (hNm.symm.trans (hK.2 0 _ rfl).2)
  subst hc
  exact k p e s m args below meth c A H1 locs ls C (z_made C.2.2.2.2.2.2.2.1.2.2.2.2.2.2.2.2 C.2.2.2.2.2.2.2.2.2.1 hsm hq N0 e1 z1 o1) hl
/-- newarray of floats -/
theorem z_newaF {n : Int32} {N q9 : Nat} {h2 : zH} (hG : zAl G = true) (hsm : h.length < 999) (h0 : 0 < h.length) (hn : ¬ n < 0) (hN : n.toNatClampNeg = N) (hby : N ≤ 6000) (hfit : cells + 1 ≤ mc ∧ slots + N ≤ ms) (harr : Cond.arrayClass .float ∈ zG) (hd : decode (mC M) pc = .ok (.newarray .float, 2)) (hq9 : h.length = q9) (hh2 : h ++ ([.inl (2, N, .inr (.inr (.inl (fun _ => 0))))] : zH) = h2)
    (k : zPW G M mc ms o h' (cells + 1) (slots + N) (pc + 2) lv (.ref q9 :: st) h2) : zPW G M mc ms o h' cells slots pc lv (.int n :: st) h := by
  subst hq9 hh2
  intro p e s m args below meth c A H locs ls C N0 hl
  have hts := C.2.2.2.2.2.2.1
  have hK := C.2.2.2.2.2.2.2.1.1
  refine z_sized fun hle => ?_
  have hq : H.size = zAd G h.length := z_size C N0 hle (Or.inl h0) (by omega) hG
  refine va_newaK (atype := .float) C.1 C.2.1 (hts _ harr) rfl hd rfl hn hN (by show N * 4 ≤ 536870912; omega) hfit.1 hfit.2 hq fun H1 cA e1 z1 o1 hAr hNm => ?_
  have hc : cA = zA G 2 := Option.some.inj (hNm.symm.trans (hK.2 2 _ rfl).2)
  subst hc
  exact k p e s m args below meth c A H1 locs ls C (z_made C.2.2.2.2.2.2.2.1.2.2.2.2.2.2.2.2 C.2.2.2.2.2.2.2.2.2.1 hsm hq N0 e1 z1 o1) hl
/-- anewarray of looms -/
theorem z_newaQ {n : Int32} {N q9 idx : Nat} {h2 : zH} (hG : zAl G = true) (hsm : h.length < 999) (h0 : 0 < h.length) (hn : ¬ n < 0) (hN : n.toNatClampNeg = N) (hby : N ≤ 6000) (hfit : cells + 1 ≤ mc ∧ slots + N ≤ ms) (hcl : Cond.classLink (mO M) idx "MirrorLoom$Loom" ∈ zG) (hd : decode (mC M) pc = .ok (.anewarray idx, 3)) (hq9 : h.length = q9) (hh2 : h ++ ([.inl (3, N, .inr (.inr (.inr (.inr (fun _ => none)))))] : zH) = h2)
    (k : zPW G M mc ms o h' (cells + 1) (slots + N) (pc + 3) lv (.ref q9 :: st) h2) : zPW G M mc ms o h' cells slots pc lv (.int n :: st) h := by
  subst hq9 hh2 hN
  intro p e s m args below meth c A H locs ls C N0 hl
  have hts := C.2.2.2.2.2.2.1
  have hK := C.2.2.2.2.2.2.2.1.1
  have hAO : va_AO "MirrorLoom$Loom" s := C.2.2.2.2.2.2.2.1.2.2.2.2.2.2.2.1.2.2.2.2
  refine z_sized fun hle => ?_
  have hq : H.size = zAd G h.length := z_size C N0 hle (Or.inl h0) (by omega) hG
  refine W.anew (C := "MirrorLoom$Loom") C.1 C.2.1 C.2.2.2.2.2.1 (hts _ hcl) (va_AO.use hAO) rfl hd rfl hn (by omega) hfit.1 hfit.2 fun cA kA comp f1 f2 f3 f4 => ?_
  have hc : cA = zA G 3 := by
    obtain ⟨kA2, comp2, g1, g2, g3, g4⟩ := (hK.2 3 _ rfl).2
    exact Option.some.inj (f1.symm.trans g4)
  subst hc
  generalize hH1 : H.push ({ cls := zA G 3, slots := Array.replicate n.toNatClampNeg .null, vm := .none } : Cell) = H1
  have z1 : H1.size = zAd G h.length + 1 := by rw [← hH1, Array.size_push, hq]
  have e1 : H1[zAd G h.length]? = some (arrV (zA G 3) n.toNatClampNeg (fun _ => .null)) := by rw [← hH1, ← hq, Array.getElem?_push_size, ← arrV_new]
  have o1 : ∀ q : Nat, q < zAd G h.length → H1[q]? = H[q]? := fun q hq9 => by rw [← hH1, Array.getElem?_push, if_neg (by omega)]
  rw [hq]
  refine k p e s m args below meth c A H1 locs ls C (z_made C.2.2.2.2.2.2.2.1.2.2.2.2.2.2.2.2 C.2.2.2.2.2.2.2.2.2.1 hsm hq N0 ?_ z1 o1) hl
  show H1[zAd G h.length]? = some (vp_cell _ _)
  rw [vp_cell_q]
  exact e1
/-- aastore of a loom -/
theorem z_aastq {n i v j : Nat} {f : Nat → Option Nat} {vs : List Value} {h2 : zH} (hp : h[i]? = some (.inl (3, n, .inr (.inr (.inr (.inr f)))))) (hv : h[v]? = some (.inr (4, vs))) (hj : j < n) (hn : n < 2 ^ 31) (hd : decode (mC M) pc = .ok (.aastore, 1)) (hh2 : h.set i (.inl (3, n, .inr (.inr (.inr (.inr (va_up f j (some v))))))) = h2)
    (k : zPW G M mc ms o h' cells slots (pc + 1) lv st h2) : zPW G M mc ms o h' cells slots pc lv (.ref v :: .int (nI j) :: .ref i :: st) h := by
  subst hh2
  intro p e s m args below meth c A H locs ls C N hl
  have hK := C.2.2.2.2.2.2.2.1.1
  refine va_astq C.1 C.2.1 hK N.1 N.2.1 N.2.2.1 i 3 v 4 (r := (RX4, TX4, 11)) (zw_get hp) rfl (zw_get hv) rfl (nI_in hj hn) hd (fun H1 locs1 hP hD hS => ?_)
  have hf : va_up (fun j => (f j).map (zAd G)) (nI j).toNatClampNeg (some (zAd G v)) = fun q => (va_up f j (some v) q).map (zAd G) := by
    rw [nI_clamp (by omega)]
    funext q
    unfold va_up
    split <;> rfl
  have he : (zWd G h).set i (zAd G i, .inl (zA G 3, n, .inr (.inr (.inr (.inr (va_up (fun j => (f j).map (zAd G)) (nI j).toNatClampNeg (some (zAd G v)))))))) = zWd G (h.set i (.inl (3, n, .inr (.inr (.inr (.inr (va_up f j (some v)))))))) := by
    unfold zWd
    rw [zw_set, hf]
    rfl
  rw [he] at hP hD
  exact k p e s m args below meth c A H1 locs1 ls C ⟨hP, hD, hS, by rw [List.length_set]; exact N.2.2.2⟩ hl
/-- Object.<init> -/
theorem z_objInit {i idx : Nat} (hw : Cond.methodLink (mO M) idx ⟨"java/lang/Object", "<init>", "()V"⟩ ∈ zG) (hdp : 1 ≤ mD M) (hcat : (st.map fun v => v.category).sum ≤ 8) (hd : decode (mC M) pc = .ok (.invokespecial idx, 3)) (k : zPW G M mc ms o h' cells slots (pc + 3) lv st h) : zPW G M mc ms o h' cells slots pc lv (.ref i :: st) h := by
  intro p e s m args below meth c A H locs ls C N hl
  have hts := C.2.2.2.2.2.2.1
  have hr : 2 * (F0 m pc ls ((.ref i :: st).map (zv (zAd G)))).monitorRoom + ((st.map (zv (zAd G))).map fun v => v.category).sum ≤ 8 := z_cats hcat
  refine W.objInit C.1 C.2.1 C.2.2.2.2.2.1 (hts _ hw) (hts _ zw_59) (hts _ zw_60) rfl (hl.1.trans C.2.2.1.symm) rfl hd hdp ?_ ?_
  · refine Nat.le_trans (Nat.add_le_add_right hr 12) ?_
    show 8 + 12 ≤ 35 * mD M + mD M / 13 * 33
    omega
  · refine W.eq (g2 := F0 m (pc + 3) ls (st.map (zv (zAd G)))) rfl ?_
    exact k p e s m args below meth c A H locs ls C N hl
/-- invokespecial of a constructor -/
theorem z_callI {N : zN} {mc1 ms1 idx i : Nat} {stk : List Value} {h1 : zH} (n : Nat) (As st : List Value) (hG : zAl G = true)
    (hN : zCal N n) (hw : Cond.methodLink (mO M) idx (mY N) ∈ zG ∧ Cond.instanceMethod (mY N) ∈ zG) (hni : (mY N).name = "<init>") (hret : mR N = none)
    (hst : stk = As.reverse ++ .ref i :: st) (hn : As.length = n) (hcat : (st.map fun v => v.category).sum ≤ 8) (hdp : mD N + 1 ≤ mD M) (hsm : h.length < 1000 ∧ h1.length < 1000) (h0 : 0 < h.length) (hfit : cells + mc1 ≤ mc ∧ slots + ms1 ≤ ms) (hal : h1.length = h.length + mc1)
    (hR : zRun G N mc1 ms1 (.ref i :: As) h (.inr none) h1) (hd : decode (mC M) pc = .ok (.invokespecial idx, 3))
    (k : zPW G M mc ms o h' (cells + mc1) (slots + ms1) (pc + 3) lv st h1) : zPW G M mc ms o h' cells slots pc lv stk h := by
  intro p e s m args below meth c A H locs ls C N9 hl
  subst hst
  obtain ⟨hh, hcd, hini, hnm, hnl⟩ := hN
  obtain ⟨hws, hgood⟩ := z_ws hh hcd
  rw [hret] at hws
  have hts := C.2.2.2.2.2.2.1
  refine z_sized fun hle => ?_
  have hpre := z_pre (av := .ref i :: As) C N9 (z_size C N9 hle (Or.inl h0) hsm.1)
  have cw : CallB (zR M mc ms) s args (mO M) idx (mY N) (mC N) (mN N) none (zWs N) (zR N mc1 ms1) mc1 ms1 n ∧ (mY N).name = "<init>" ∧ (Cond.instanceMethod (mY N)).before args s = true := cwI n hts hgood hws rfl rfl (hts _ hini) (hts _ hw.1) (hts _ hw.2) hni hnm (z_room hdp hnl)
  rw [show (As.reverse ++ .ref i :: st).map (zv (zAd G)) = (As.map (zv (zAd G))).reverse ++ .ref (zAd G i) :: st.map (zv (zAd G)) by rw [List.map_append, List.map_reverse]; rfl]
  exact z_after (r := none) C N9 hl (fun _ => hal) hsm.2 (va_runI (As := As.map (zv (zAd G))) (rest := st.map (zv (zAd G))) ⟨C.1, C.2.1, C.2.2.1, C.2.2.2.2.2.1, hts⟩ (hR.met H.size) cw hpre rfl (by rw [List.length_map]; exact hn) hl.1 rfl (z_cats hcat) hd (z_fit hfit)) k
/-- invokespecial of a nest mate's private constructor -/
theorem z_callIN {N : zN} {mc1 ms1 idx i : Nat} {stk : List Value} {h1 : zH} (n : Nat) (As st : List Value) (hG : zAl G = true)
    (hN : zCal N n) (hw : (mO M, idx, mY N) ∈ zNM ∧ Cond.instanceMethod (mY N) ∈ zG) (hni : (mY N).name = "<init>") (hret : mR N = none)
    (hst : stk = As.reverse ++ .ref i :: st) (hn : As.length = n) (hcat : (st.map fun v => v.category).sum ≤ 8) (hdp : mD N + 1 ≤ mD M) (hsm : h.length < 1000 ∧ h1.length < 1000) (h0 : 0 < h.length) (hfit : cells + mc1 ≤ mc ∧ slots + ms1 ≤ ms) (hal : h1.length = h.length + mc1)
    (hR : zRun G N mc1 ms1 (.ref i :: As) h (.inr none) h1) (hd : decode (mC M) pc = .ok (.invokespecial idx, 3))
    (k : zPW G M mc ms o h' (cells + mc1) (slots + ms1) (pc + 3) lv st h1) : zPW G M mc ms o h' cells slots pc lv stk h := by
  intro p e s m args below meth c A H locs ls C N9 hl
  subst hst
  obtain ⟨hh, hcd, hini, hnm, hnl⟩ := hN
  obtain ⟨hws, hgood⟩ := z_ws hh hcd
  rw [hret] at hws
  have hts := C.2.2.2.2.2.2.1
  refine z_sized fun hle => ?_
  have hpre := z_pre (av := .ref i :: As) C N9 (z_size C N9 hle (Or.inl h0) hsm.1)
  rw [show (As.reverse ++ .ref i :: st).map (zv (zAd G)) = (As.map (zv (zAd G))).reverse ++ .ref (zAd G i) :: st.map (zv (zAd G)) by rw [List.map_append, List.map_reverse]; rfl]
  exact z_after (r := none) C N9 hl (fun _ => hal) hsm.2 (va_runIN (host := "MirrorLoom") (As := As.map (zv (zAd G))) (rest := st.map (zv (zAd G))) ⟨C.1, C.2.1, C.2.2.1, C.2.2.2.2.2.1, hts⟩ (hR.met H.size) ⟨va_cnB n hts hgood hws rfl rfl (C.2.2.2.2.2.2.2.1.2.2.1 _ hw.1) (hts _ hini) hnm (z_room hdp hnl), hni, hts _ hw.2⟩ hpre rfl (by rw [List.length_map]; exact hn) hl.1 rfl (z_cats hcat) hd (z_fit hfit)) k
end ZMAKE
/-! cells behind a beginning -/
theorem zj_get {pre cs : zH} {k : Nat} {x : zE} (j : Nat) (hk : pre.length = k) (e : cs[j]? = some x) : (pre ++ cs)[k + j]? = some x := by
  subst hk
  rw [List.getElem?_append_right (Nat.le_add_right _ _), Nat.add_sub_cancel_left]
  exact e
theorem zj_set {pre cs cs2 : zH} {k : Nat} {x : zE} (j : Nat) (hk : pre.length = k) (e : cs.set j x = cs2) : (pre ++ cs).set (k + j) x = pre ++ cs2 := by
  subst hk
  rw [List.set_append_right _ _ (Nat.le_add_right _ _), Nat.add_sub_cancel_left, e]
theorem zj_app {pre cs X cs2 : zH} (e : cs ++ X = cs2) : (pre ++ cs) ++ X = pre ++ cs2 := by rw [List.append_assoc, e]
theorem zj_len {pre cs : zH} {k n : Nat} (hk : pre.length = k) (e : cs.length = n) : (pre ++ cs).length = k + n := by rw [List.length_append, hk, e]
