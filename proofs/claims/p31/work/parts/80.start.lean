/-! THE START: what the Statement gives -/
def stF : List Cond := flatC (Jvm.Cond.and given_1 narrow_1)
theorem sm_nf : ∀ q ∈ zNF, Cond.fieldLinkNest q.1 q.2.1 q.2.2.1 q.2.2.2.1 q.2.2.2.2 "MirrorLoom" ∈ lw_tbl := by decide +kernel
theorem sm_nm : ∀ q ∈ zNM, Cond.methodLinkNest q.1 q.2.1 q.2.2 "MirrorLoom" ∈ lw_tbl := by decide +kernel
theorem sm_dc : ∀ y ∈ zDc, Cond.declares y ∈ lw_tbl := by decide +kernel
theorem sm_cs : ∀ x ∈ zCs, Cond.castable x x ∈ lw_tbl := by decide +kernel
theorem sm_np : ∀ q ∈ zNp, Cond.not (.castable q.1 q.2) ∈ stF := by decide +kernel
theorem nI_all (x : Int32) : nI x.toBitVec.toNat = x := by
  refine Int32.toBitVec_inj.mp ?_
  show BitVec.ofNat 32 x.toBitVec.toNat = x.toBitVec
  rw [BitVec.ofNat_toNat, BitVec.setWidth_eq]
/-- where the ids lie -/
def stA (n0 aW b m0 m1 m2 L : Nat) (xs : Nat → Int32) : Nat → Nat := fun n =>
  if n < 1000 then n0 + n else if n = 1000 then aW else if n = 1009 then b else if n = 1020 then m0 else if n = 1021 then m1 else if n = 1022 then m2 else if n = 1999 then L else (xs (n - 2000)).toBitVec.toNat
section STA
variable {n0 aW b m0 m1 m2 L : Nat} {xs : Nat → Int32}
theorem sA_n {n : Nat} (h : n < 1000) : stA n0 aW b m0 m1 m2 L xs n = n0 + n := if_pos h
theorem sA_x (j : Nat) : nI (stA n0 aW b m0 m1 m2 L xs (2000 + j)) = xs j := by
  unfold stA
  rw [if_neg (by omega), if_neg (by omega), if_neg (by omega), if_neg (by omega), if_neg (by omega), if_neg (by omega), if_neg (by omega), Nat.add_sub_cancel_left, nI_all]
end STA
theorem st_cl {args : Array Value} {s : State} (hg : ∀ w ∈ zG, w.before args s = true) : ∃ D : va_G, ∀ (k : Nat) (q : vw_C), vwCl[k]? = some q → u_Kn s q.1 q.2.1 q.2.2 (D.1 k) (D.2 k) := by
  have h : ∀ k : Nat, ∃ ci : ClassId × (Nat → Nat), ∀ q, vwCl[k]? = some q → u_Kn s q.1 q.2.1 q.2.2 ci.1 ci.2 := by
    intro k
    match k with
    | 0 =>
      obtain ⟨c, i, h⟩ := u_known (C := RX0) (T := TX0) (N := 5) (n := 5) hg inX0 (hg _ zw_206)
      exact ⟨(c, i), fun q hq => by cases hq; exact h⟩
    | 1 =>
      obtain ⟨c, i, h⟩ := u_known (C := RX1) (T := TX1) (N := 2) (n := 2) hg inX1 (hg _ zw_191)
      exact ⟨(c, i), fun q hq => by cases hq; exact h⟩
    | 2 =>
      obtain ⟨c, i, h⟩ := u_known (C := RX2) (T := TX2) (N := 1) (n := 1) hg inX2 (hg _ zw_69)
      exact ⟨(c, i), fun q hq => by cases hq; exact h⟩
    | 3 =>
      obtain ⟨c, i, h⟩ := u_known (C := RX3) (T := TX3) (N := 3) (n := 3) hg inX3 (hg _ zw_171)
      exact ⟨(c, i), fun q hq => by cases hq; exact h⟩
    | 4 =>
      obtain ⟨c, i, h⟩ := u_known (C := RX4) (T := TX4) (N := 11) (n := 11) hg inX4 (hg _ zw_62)
      exact ⟨(c, i), fun q hq => by cases hq; exact h⟩
    | 5 =>
      obtain ⟨c, i, h⟩ := u_known (C := RX5) (T := TX5) (N := 6) (n := 6) hg inX5 (hg _ zw_93)
      exact ⟨(c, i), fun q hq => by cases hq; exact h⟩
    | 6 =>
      obtain ⟨c, i, h⟩ := u_known (C := RX6) (T := TX6) (N := 1) (n := 1) hg inX6 (hg _ zw_80)
      exact ⟨(c, i), fun q hq => by cases hq; exact h⟩
    | 7 =>
      obtain ⟨c, i, h⟩ := u_known (C := RX9) (T := TX9) (N := 4) (n := 4) hg inX9 (hg _ zw_54)
      exact ⟨(c, i), fun q hq => by cases hq; exact h⟩
    | k + 8 => exact ⟨(0, fun _ => 0), fun q hq => by simp [vwCl] at hq⟩
  obtain ⟨f, hf⟩ := Classical.axiomOfChoice h
  exact ⟨(fun k => (f k).1, fun k => (f k).2), fun k q hq => hf k q hq⟩
theorem st_ar {args : Array Value} {s : State} {ty : FieldType} (hty : ∀ C, ty ≠ .object C) (h : (Cond.arrayClass ty).before args s = true) : ∃ cA : ClassId, ArrOfT s cA ty ∧ va_RA s cA ty := by
  obtain ⟨cA, kA, comp, h1, h2, h3⟩ := Cond.arrayClass_spec h
  refine ⟨cA, fun n z => ⟨fun k h => (by cases h), kA, h2, comp, h3⟩, ?_⟩
  cases ty with
  | object C => exact absurd rfl (hty C)
  | _ => exact h1
theorem st_aq {args : Array Value} {s : State} {C : String} (h : (Cond.arrayOver (.object C)).before args s = true) : ∃ cA : ClassId, ArrOfT s cA (.object C) ∧ va_RA s cA (.object C) := by
  obtain ⟨comp, cA, kA, h1, -, h2, h3, h4⟩ := Cond.arrayOver_spec h
  exact ⟨cA, fun n z => ⟨fun k h => (by cases h), kA, h2, comp, h3⟩, kA, comp, h2, h3, h1, h4⟩
set_option maxHeartbeats 4000000 in
set_option maxRecDepth 100000 in
theorem st_keeps {l : Launch} {s : State} {b L : Nat} {xs : Nat → Int32} (hflags : l.flags = flags0) (hts : ∀ w ∈ lw_tbl, w.before #[Value.ref b] s = true) (hX : va_X b L xs s s.heap) (hbl : b < s.heap.size) (hgv : (Jvm.Cond.and given_1 narrow_1).before #[Value.ref b] s = true) :
    ∃ G : zT, zL G = l ∧ zAl G = true ∧ zAd G 0 = s.heap.size ∧ zAd G 1009 = b ∧ zAd G 1999 = L ∧ zKs G s ∧ zKh (zAd G) (fun q => s.heap.size ≤ q) s s.heap := by
  have hs : ∀ w ∈ stF, w.before #[Value.ref b] s = true := flat_of_before _ hgv
  have hg : ∀ w ∈ zG, w.before #[Value.ref b] s = true := fun w hw => hts w (List.mem_filter.mp hw).1
  have hA : ∀ a : Nat, a < s.heap.size → ¬ (fun q : Nat => s.heap.size ≤ q) a := fun a h z => absurd h (Nat.not_lt.mpr z)
  obtain ⟨D, hD⟩ := st_cl hg
  obtain ⟨c0, k0⟩ := st_ar (ty := .int) (fun C h => by cases h) (hg _ zw_78)
  obtain ⟨c2, k2⟩ := st_ar (ty := .float) (fun C h => by cases h) (hg _ zw_125)
  have hao : (Cond.arrayOver (.object "MirrorLoom$Loom")).before #[Value.ref b] s = true := hts _ (List.mem_of_getElem? (i := 177) (by decide +kernel))
  obtain ⟨c3, k3⟩ := st_aq hao
  obtain ⟨aW, _, _, _, hW, -⟩ := Cond.exactly_spec (t := .static "MirrorLoom$Word" "CLOTH" "LMirrorLoom$Word;") (cls := "MirrorLoom$Word") (hs _ (List.mem_of_getElem? (i := 4) (by decide +kernel)))
  obtain ⟨m0, _, _, _, hm0, -⟩ := Cond.exactly_spec (t := .string "MirrorLoom" 257) (cls := "java/lang/String") (hs _ (List.mem_of_getElem? (i := 42) (by decide +kernel)))
  obtain ⟨m1, _, _, _, hm1, -⟩ := Cond.exactly_spec (t := .string "MirrorLoom" 264) (cls := "java/lang/String") (hs _ (List.mem_of_getElem? (i := 68) (by decide +kernel)))
  obtain ⟨m2, _, _, _, hm2, -⟩ := Cond.exactly_spec (t := .string "MirrorLoom" 269) (cls := "java/lang/String") (hs _ (List.mem_of_getElem? (i := 100) (by decide +kernel)))
  refine ⟨(l, D, (fun k => if k = 0 then c0 else if k = 1 then c0 else if k = 2 then c2 else c3), stA s.heap.size aW b m0 m1 m2 L xs, true), rfl, rfl, rfl, rfl, rfl, ⟨⟨hD, fun k q hq => ?_⟩, fun q hq => va_Nw.of rfl (hts _ (sm_nf q hq)), fun q hq => va_Nw.of rfl (hts _ (sm_nm q hq)), vk_R.of (hts _ (List.mem_of_getElem? (i := 539) (by decide +kernel))) hm0, vk_R.of (hts _ (List.mem_of_getElem? (i := 575) (by decide +kernel))) hm1, vk_R.of (hts _ (List.mem_of_getElem? (i := 591) (by decide +kernel))) hm2, trivial, ⟨?_, fun y hy => va_Nw.of rfl (hts _ (sm_dc y hy)), fun x hx => va_Nw.of rfl (hts _ (sm_cs x hx)), fun q hq => va_Nc.of (hs _ (sm_np q hq)), va_AO.of hao⟩, fun n hn => ?_⟩, ?_⟩
  · match k, hq with
    | 0, hq => cases hq; exact k0
    | 1, hq => cases hq; exact k0
    | 2, hq => cases hq; exact k2
    | 3, hq => cases hq; exact k3
    | k + 4, hq => simp [zTys] at hq
  · show l.stackTraces = false
    unfold Launch.stackTraces
    rw [hflags]
    decide +kernel
  · show stA s.heap.size aW b m0 m1 m2 L xs (n + 1) = stA s.heap.size aW b m0 m1 m2 L xs n + 1
    rw [sA_n (by omega), sA_n (by omega)]
    omega
  · refine ⟨vx_Zqof (args := #[Value.ref b]) (hts _ (List.mem_of_getElem? (i := 525) (by decide +kernel))) (hts _ (List.mem_of_getElem? (i := 46) (by decide +kernel))) (hs _ (List.mem_of_getElem? (i := 7) (by decide +kernel))) hA, vx_Zqof (args := #[Value.ref b]) (hts _ (List.mem_of_getElem? (i := 527) (by decide +kernel))) (hts _ (List.mem_of_getElem? (i := 46) (by decide +kernel))) (hs _ (List.mem_of_getElem? (i := 8) (by decide +kernel))) hA, va_Zref (args := #[Value.ref b]) (hts _ (List.mem_of_getElem? (i := 214) (by decide +kernel))) (hts _ (List.mem_of_getElem? (i := 45) (by decide +kernel))) hW hA, trivial, trivial, trivial, trivial, trivial, ?_, hA b hbl⟩
    have e3 : (fun j => nI (stA s.heap.size aW b m0 m1 m2 L xs (2000 + j))) = xs := funext fun j => sA_x j
    show va_X b L (fun j => nI (stA s.heap.size aW b m0 m1 m2 L xs (2000 + j))) s s.heap
    rw [e3]
    exact hX
