/-- invokestatic of another class's -/
theorem z_callSO {G : zT} {M N : zN} {mc ms mc1 ms1 : Nat} {o : zO} {h h1 h' : zH} {cells slots pc : Nat} {lv : List (Nat × Value)} {stk : List Value} {r : Option Value} {idx : Nat} (n : Nat) (As st : List Value)
    (hN : zCal N n) (hw : Cond.methodLink (mO M) idx (mY N) ∈ zG ∧ Cond.static (mY N) ∈ zG)
    (hst : stk = As.reverse ++ st) (hn : As.length = n) (hcat : (st.map fun v => v.category).sum ≤ 8) (hdp : mD N + 1 ≤ mD M) (hsm : h.length < 1000 ∧ h1.length < 1000) (hal0 : zAl G = false) (hfit : cells + mc1 ≤ mc ∧ slots + ms1 ≤ ms)
    (hR : zRun G N mc1 ms1 As h (.inr r) h1) (hd : decode (mC M) pc = .ok (.invokestatic idx, 3))
    (k : zPW G M mc ms o h' (cells + mc1) (slots + ms1) (pc + 3) lv (r.toList ++ st) h1) : zPW G M mc ms o h' cells slots pc lv stk h := by
  intro p e s m args below meth c A H locs ls C N9 hl
  subst hst
  obtain ⟨hh, hcd, hini, hnm, hnl⟩ := hN
  obtain ⟨hws, hgood⟩ := z_ws hh hcd
  have hpre := z_pre (av := As) C N9 (fun z => by rw [hal0] at z; cases z)
  have hgi : GoodIn zG (va_wsS (mO M) idx (mY N) (zWs N)) := by
    intro w hw9
    rcases List.mem_append.mp hw9 with h9 | h9
    · simp only [List.mem_cons, List.not_mem_nil, or_false] at h9
      rcases h9 with rfl | rfl | rfl
      · exact zG_good _ hw.1
      · exact zG_good _ hw.2
      · exact zG_good _ hini
    · exact hgood w h9
  rw [z_vis]
  exact z_after C N9 hl (fun z => by rw [hal0] at z; cases z) hsm.2 (va_runS (As := As.map (zv (zAd G))) (rest := st.map (zv (zAd G))) ⟨C.1, C.2.1, C.2.2.1, C.2.2.2.2.2.1, C.2.2.2.2.2.2.1⟩ (hR.met H.size) (va_cwS n C.2.2.2.2.2.2.1 hgi hws rfl rfl hnm (z_room hdp hnl)) hpre rfl (by rw [List.length_map]; exact hn) hl.1 rfl (z_cats hcat) hd (z_fit hfit)) k
