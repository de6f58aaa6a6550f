/-! THE START: what the Statement gives -/
def stF : List Cond := flatC (Jvm.Cond.and given_1 narrow_1)
def stIx (i : Nat) : Nat := [56, 62, 65, 68, 71, 74, 77, 80].getD i 0
abbrev stW (i : Nat) : Term := .static "MirrorLoom$Word" (zWn i) "LMirrorLoom$Word;"
abbrev stK (i : Nat) : Term := .string "MirrorLoom$Word" (stIx i)
abbrev stV (i : Nat) : Term := .field (stK i) "java/lang/String" "value" "[B"
theorem st_eqR {args : Array Value} {s : State} {t u : Term} {a : Nat} (h : (Cond.eq t u).before args s = true) (hu : u.eval args s none [] s = some (.ref a)) : t.eval args s none [] s = some (.ref a) := by
  cases hv : t.eval args s none [] s with
  | none => simp [Cond.before, Cond.holds, Cond.value, hv] at h
  | some w =>
    simp only [Cond.before, Cond.holds, Cond.value, hv, hu] at h
    cases w <;> simp_all
theorem sm_ex : ∀ i, i < 8 → Cond.exactly (stW i) "MirrorLoom$Word" ∈ stF := by decide +kernel
theorem sm_nu : ∀ i, i < 8 → Cond.eq (.field (stW i) "MirrorLoom$Word" "numbers" "I") (.int (zWc i)) ∈ stF := by decide +kernel
theorem sm_le : ∀ i, i < 8 → Cond.eq (.field (stW i) "MirrorLoom$Word" "letters" "Ljava/lang/String;") (stK i) ∈ stF := by decide +kernel
theorem sm_ne : ∀ i, i < 8 → ∀ j, j < 8 → i ≠ j → Cond.not (.eq (stW i) (stW j)) ∈ stF ∨ Cond.not (.eq (stW j) (stW i)) ∈ stF := by decide +kernel
theorem sm_ly : ∀ i, i < 8 → Cond.laysStatic "MirrorLoom$Word" (zWn i) "LMirrorLoom$Word;" ∈ lw_tbl := by decide +kernel
theorem sm_el : ∀ i, i < 8 → Cond.eq (.elem (.static "MirrorLoom" "WORDS" "[LMirrorLoom$Word;") (.int (Int32.ofNat i))) (stW i) ∈ stF := by decide +kernel
theorem sm_kx : ∀ i, i < 8 → Cond.exactly (stK i) "java/lang/String" ∈ stF := by decide +kernel
theorem sm_kc : ∀ i, i < 8 → Cond.eq (.field (stK i) "java/lang/String" "coder" "B") (.int 0) ∈ stF := by decide +kernel
theorem sm_ka : ∀ i, i < 8 → Cond.arrayOf (stV i) .byte ∈ stF := by decide +kernel
theorem sm_kl : ∀ i, i < 8 → Cond.eq (.length (stV i)) (.int (Int32.ofNat (zSl.getD i 0))) ∈ stF := by decide +kernel
theorem sm_ke : ∀ i, i < 8 → ∀ j, j < zSl.getD i 0 → Cond.eq (.elem (stV i) (.int (Int32.ofNat j))) (.int ((zSb.getD i []).getD j 0)) ∈ stF := by decide +kernel
theorem sm_kn : ∀ i, i < 8 → ∀ j, j < 8 → i ≠ j → Cond.not (.eq (stK i) (stK j)) ∈ stF ∨ Cond.not (.eq (stK j) (stK i)) ∈ stF := by decide +kernel
theorem sm_nf : ∀ q ∈ zNF, Cond.fieldLinkNest q.1 q.2.1 q.2.2.1 q.2.2.2.1 q.2.2.2.2 "MirrorLoom" ∈ lw_tbl := by decide +kernel
theorem sm_nm : ∀ q ∈ zNM, Cond.methodLinkNest q.1 q.2.1 q.2.2 "MirrorLoom" ∈ lw_tbl := by decide +kernel
theorem sm_dc : ∀ y ∈ zDc, Cond.declares y ∈ lw_tbl := by decide +kernel
theorem sm_cs : ∀ x ∈ zCs, Cond.castable x x ∈ lw_tbl := by decide +kernel
theorem sm_np : ∀ q ∈ zNp, Cond.not (.castable q.1 q.2) ∈ stF := by decide +kernel
theorem va_T.cg {ty : FieldType} {t N : Nat} {f g : Nat → Value} {A : Nat → Prop} {U : State} {H : Heap} (h : va_T ty t N f A U H) (e : ∀ j, j < N → f j = g j) : va_T ty t N g A U H := by
  obtain ⟨cell, h1, h2, h3, h4, h5, h6, h7⟩ := h
  exact ⟨cell, h1, h2, h3, h4, h5, fun j hj => by rw [← e j hj]; exact h6 j hj, h7⟩
theorem vk_S.cg {N : Nat} {len : List Nat} {byt : List (List Int32)} {aK aV bK bV : Nat → Nat} {A : Nat → Prop} {U : State} {H : Heap} (h : vk_S N len byt aK aV A U H) (e1 : ∀ i, i < N → bK i = aK i) (e2 : ∀ i, i < N → bV i = aV i) : vk_S N len byt bK bV A U H :=
  ⟨fun i hi => by rw [e1 i hi, e2 i hi]; exact h.1 i hi, fun i j hi hj e => h.2 i j hi hj (by rw [← e1 i hi, ← e1 j hj]; exact e)⟩
theorem nI_all (x : Int32) : nI x.toBitVec.toNat = x := by
  refine Int32.toBitVec_inj.mp ?_
  show BitVec.ofNat 32 x.toBitVec.toNat = x.toBitVec
  rw [BitVec.ofNat_toNat, BitVec.setWidth_eq]
/-- where the ids lie -/
def stA (n0 : Nat) (aW aK aV : Nat → Nat) (tW b m0 m1 m2 L : Nat) (xs : Nat → Int32) : Nat → Nat := fun n =>
  if n < 1000 then n0 + n else if n < 1008 then aW (n - 1000) else if n = 1008 then tW else if n = 1009 then b else if n < 1020 then aK (n - 1010) else if n = 1020 then m0 else if n = 1021 then m1 else if n = 1022 then m2 else if n < 1999 then aV (n - 1030) else if n = 1999 then L else (xs (n - 2000)).toBitVec.toNat
section STA
variable {n0 : Nat} {aW aK aV : Nat → Nat} {tW b m0 m1 m2 L : Nat} {xs : Nat → Int32}
theorem sA_n {n : Nat} (h : n < 1000) : stA n0 aW aK aV tW b m0 m1 m2 L xs n = n0 + n := if_pos h
theorem sA_W {i : Nat} (h : i < 8) : stA n0 aW aK aV tW b m0 m1 m2 L xs (1000 + i) = aW i := by
  unfold stA
  rw [if_neg (by omega), if_pos (by omega), Nat.add_sub_cancel_left]
theorem sA_K {i : Nat} (h : i < 8) : stA n0 aW aK aV tW b m0 m1 m2 L xs (1010 + i) = aK i := by
  unfold stA
  rw [if_neg (by omega), if_neg (by omega), if_neg (by omega), if_neg (by omega), if_pos (by omega), Nat.add_sub_cancel_left]
theorem sA_V {i : Nat} (h : i < 8) : stA n0 aW aK aV tW b m0 m1 m2 L xs (1030 + i) = aV i := by
  unfold stA
  rw [if_neg (by omega), if_neg (by omega), if_neg (by omega), if_neg (by omega), if_neg (by omega), if_neg (by omega), if_neg (by omega), if_neg (by omega), if_pos (by omega), Nat.add_sub_cancel_left]
theorem sA_x (j : Nat) : nI (stA n0 aW aK aV tW b m0 m1 m2 L xs (2000 + j)) = xs j := by
  unfold stA
  rw [if_neg (by omega), if_neg (by omega), if_neg (by omega), if_neg (by omega), if_neg (by omega), if_neg (by omega), if_neg (by omega), if_neg (by omega), if_neg (by omega), if_neg (by omega), Nat.add_sub_cancel_left, nI_all]
end STA

theorem st_cl {args : Array Value} {s : State} (hg : ∀ w ∈ zG, w.before args s = true) : ∃ D : va_G, ∀ (k : Nat) (q : vw_C), vwCl[k]? = some q → u_Kn s q.1 q.2.1 q.2.2 (D.1 k) (D.2 k) := by
  have h : ∀ k : Nat, ∃ ci : ClassId × (Nat → Nat), ∀ q, vwCl[k]? = some q → u_Kn s q.1 q.2.1 q.2.2 ci.1 ci.2 := by
    intro k
    match k with
    | 0 =>
      obtain ⟨c, i, h⟩ := u_known (C := RX0) (T := TX0) (N := 5) (n := 5) hg inX0 (hg _ zw_285)
      exact ⟨(c, i), fun q hq => by cases hq; exact h⟩
    | 1 =>
      obtain ⟨c, i, h⟩ := u_known (C := RX1) (T := TX1) (N := 2) (n := 2) hg inX1 (hg _ zw_268)
      exact ⟨(c, i), fun q hq => by cases hq; exact h⟩
    | 2 =>
      obtain ⟨c, i, h⟩ := u_known (C := RX2) (T := TX2) (N := 1) (n := 1) hg inX2 (hg _ zw_146)
      exact ⟨(c, i), fun q hq => by cases hq; exact h⟩
    | 3 =>
      obtain ⟨c, i, h⟩ := u_known (C := RX3) (T := TX3) (N := 3) (n := 3) hg inX3 (hg _ zw_248)
      exact ⟨(c, i), fun q hq => by cases hq; exact h⟩
    | 4 =>
      obtain ⟨c, i, h⟩ := u_known (C := RX4) (T := TX4) (N := 11) (n := 11) hg inX4 (hg _ zw_139)
      exact ⟨(c, i), fun q hq => by cases hq; exact h⟩
    | 5 =>
      obtain ⟨c, i, h⟩ := u_known (C := RX5) (T := TX5) (N := 6) (n := 6) hg inX5 (hg _ zw_170)
      exact ⟨(c, i), fun q hq => by cases hq; exact h⟩
    | 6 =>
      obtain ⟨c, i, h⟩ := u_known (C := RX6) (T := TX6) (N := 1) (n := 1) hg inX6 (hg _ zw_157)
      exact ⟨(c, i), fun q hq => by cases hq; exact h⟩
    | 7 =>
      obtain ⟨c, i, h⟩ := u_known (C := RX9) (T := TX9) (N := 4) (n := 4) hg inX9 (hg _ zw_131)
      exact ⟨(c, i), fun q hq => by cases hq; exact h⟩
    | 8 =>
      obtain ⟨c, i, h⟩ := u_known (C := RX10) (T := TX10) (N := 19) (n := 19) hg inX10 (hg _ zw_1163)
      exact ⟨(c, i), fun q hq => by cases hq; exact h⟩
    | k + 9 => exact ⟨(0, fun _ => 0), fun q hq => by simp [vwCl] at hq⟩
  obtain ⟨f, hf⟩ := Classical.axiomOfChoice h
  exact ⟨(fun k => (f k).1, fun k => (f k).2), fun k q hq => hf k q hq⟩
theorem st_ar {args : Array Value} {s : State} {ty : FieldType} (hty : ∀ C, ty ≠ .object C) (h : (Cond.arrayClass ty).before args s = true) : ∃ cA : ClassId, ArrOfT s cA ty ∧ va_RA s cA ty := by
  obtain ⟨cA, kA, comp, h1, h2, h3⟩ := Cond.arrayClass_spec h
  refine ⟨cA, fun n z => ⟨fun k h => (by cases h), kA, h2, comp, h3⟩, ?_⟩
  cases ty with
  | object C => exact absurd rfl (hty C)
  | _ => exact h1
theorem st_aq {args : Array Value} {s : State} {C : String} (h : (Cond.arrayOver (.object C)).before args s = true) : ∃ cA : ClassId, ArrOfT s cA (.object C) ∧ va_RA s cA (.object C) := by
  obtain ⟨comp, cA, kA, h1, -, h2, h3, h4⟩ := Cond.arrayOver_spec h
  exact ⟨cA, fun n z => ⟨fun k h => (by cases h), kA, h2, comp, h3⟩, kA, comp, h2, h3, h1, h4⟩

set_option maxHeartbeats 4000000 in
set_option maxRecDepth 100000 in
theorem st_keeps {l : Launch} {s : State} {b L : Nat} {xs : Nat → Int32} (hflags : l.flags = flags0) (hts : ∀ w ∈ lw_tbl, w.before #[Value.ref b] s = true) (hX : va_X b L xs s s.heap) (hbl : b < s.heap.size) (hgv : (Jvm.Cond.and given_1 narrow_1).before #[Value.ref b] s = true) :
    ∃ G : zT, zL G = l ∧ zAl G = true ∧ zAd G 0 = s.heap.size ∧ zAd G 1009 = b ∧ zAd G 1999 = L ∧ zKs G s ∧ zKh (zAd G) (fun q => s.heap.size ≤ q) s s.heap := by
  have hs : ∀ w ∈ stF, w.before #[Value.ref b] s = true := flat_of_before _ hgv
  have hg : ∀ w ∈ zG, w.before #[Value.ref b] s = true := fun w hw => hts w (List.mem_filter.mp hw).1
  have hA : ∀ a : Nat, a < s.heap.size → ¬ (fun q : Nat => s.heap.size ≤ q) a := fun a h z => absurd h (Nat.not_lt.mpr z)
  obtain ⟨D, hD⟩ := st_cl hg
  obtain ⟨c0, k0⟩ := st_ar (ty := .int) (fun C h => by cases h) (hg _ zw_155)
  obtain ⟨c1, k1⟩ := st_ar (ty := .long) (fun C h => by cases h) (hg _ zw_1620)
  obtain ⟨c2, k2⟩ := st_ar (ty := .float) (fun C h => by cases h) (hg _ zw_202)
  have hao : (Cond.arrayOver (.object "MirrorLoom$Loom")).before #[Value.ref b] s = true := hts _ (List.mem_of_getElem? (i := 254) (by decide +kernel))
  obtain ⟨c3, k3⟩ := st_aq hao
  -- the words
  have h0 : ∀ i : Nat, ∃ t : Nat, i < 8 → (stW i).eval #[Value.ref b] s none [] s = some (.ref t) := by
    intro i
    by_cases hi : i < 8
    · obtain ⟨a, c, cell, k, q1, -⟩ := Cond.exactly_spec (hs _ (sm_ex i hi))
      exact ⟨a, fun _ => q1⟩
    · exact ⟨0, fun h => absurd h hi⟩
  obtain ⟨aW, hW⟩ := Classical.axiomOfChoice h0
  obtain ⟨aK, aV, hSt, hK⟩ := vk_Sof (args := #[Value.ref b]) (s := s) (N := 8) (tm := stK) (len := zSl) (byt := zSb) (A := fun q : Nat => s.heap.size ≤ q) (by decide) (fun i hi => hs _ (sm_kx i hi)) (fun i hi => hs _ (sm_kc i hi)) (fun i hi => hs _ (sm_ka i hi)) (fun i hi => hs _ (sm_kl i hi)) (fun i hi j hj => hs _ (sm_ke i hi j hj)) (fun i j hi hj hij => (sm_kn i hi j hj hij).imp (fun q => hs _ q) (fun q => hs _ q)) hA
  obtain ⟨tW, htW, hTW⟩ := va_Tof (args := #[Value.ref b]) (s := s) (tm := (.static "MirrorLoom" "WORDS" "[LMirrorLoom$Word;")) (ty := .object "MirrorLoom$Word") (N := 8) (f := fun j => .ref (aW j)) (A := fun q : Nat => s.heap.size ≤ q) (by decide) (hs _ (List.mem_of_getElem? (i := 10) (by decide +kernel))) (va_eqt (hs _ (List.mem_of_getElem? (i := 11) (by decide +kernel)))) (fun j hj => st_eqR (hs _ (sm_el j hj)) (hW j hj)) hA
  obtain ⟨m0, _, _, _, hm0, -⟩ := Cond.exactly_spec (t := .string "MirrorLoom" 257) (cls := "java/lang/String") (hs _ (List.mem_of_getElem? (i := 120) (by decide +kernel)))
  obtain ⟨m1, _, _, _, hm1, -⟩ := Cond.exactly_spec (t := .string "MirrorLoom" 264) (cls := "java/lang/String") (hs _ (List.mem_of_getElem? (i := 146) (by decide +kernel)))
  obtain ⟨m2, _, _, _, hm2, -⟩ := Cond.exactly_spec (t := .string "MirrorLoom" 269) (cls := "java/lang/String") (hs _ (List.mem_of_getElem? (i := 178) (by decide +kernel)))
  refine ⟨(l, D, (fun k => if k = 0 then c0 else if k = 1 then c1 else if k = 2 then c2 else c3), stA s.heap.size aW aK aV tW b m0 m1 m2 L xs, true), rfl, rfl, rfl, rfl, rfl, ⟨⟨hD, fun k q hq => ?_⟩, fun q hq => va_Nw.of rfl (hts _ (sm_nf q hq)), fun q hq => va_Nw.of rfl (hts _ (sm_nm q hq)), vk_R.of (hts _ (List.mem_of_getElem? (i := 927) (by decide +kernel))) hm0, vk_R.of (hts _ (List.mem_of_getElem? (i := 963) (by decide +kernel))) hm1, vk_R.of (hts _ (List.mem_of_getElem? (i := 979) (by decide +kernel))) hm2, fun i j hi hj e => ?_, ⟨?_, fun y hy => va_Nw.of rfl (hts _ (sm_dc y hy)), fun x hx => va_Nw.of rfl (hts _ (sm_cs x hx)), fun q hq => va_Nc.of (hs _ (sm_np q hq)), va_AO.of hao⟩, fun n hn => ?_⟩, ?_⟩
  · match k, hq with
    | 0, hq => cases hq; exact k0
    | 1, hq => cases hq; exact k1
    | 2, hq => cases hq; exact k2
    | 3, hq => cases hq; exact k3
    | k + 4, hq => simp [zTys] at hq
  · have e2 : aW i = aW j := (sA_W hi).symm.trans (e.trans (sA_W hj))
    by_cases hij : i = j
    · exact hij
    · rcases sm_ne i hi j hj hij with h | h
      · exact absurd e2 (va_neR (hs _ h) (hW i hi) (hW j hj))
      · exact absurd e2.symm (va_neR (hs _ h) (hW j hj) (hW i hi))
  · show l.stackTraces = false
    unfold Launch.stackTraces
    rw [hflags]
    decide +kernel
  · show stA s.heap.size aW aK aV tW b m0 m1 m2 L xs (n + 1) = stA s.heap.size aW aK aV tW b m0 m1 m2 L xs n + 1
    rw [sA_n (by omega), sA_n (by omega)]
    omega
  · refine ⟨vx_Zqof (args := #[Value.ref b]) (hts _ (List.mem_of_getElem? (i := 913) (by decide +kernel))) (hts _ (List.mem_of_getElem? (i := 119) (by decide +kernel))) (hs _ (List.mem_of_getElem? (i := 82) (by decide +kernel))) hA, vx_Zqof (args := #[Value.ref b]) (hts _ (List.mem_of_getElem? (i := 915) (by decide +kernel))) (hts _ (List.mem_of_getElem? (i := 119) (by decide +kernel))) (hs _ (List.mem_of_getElem? (i := 83) (by decide +kernel))) hA, fun k hk => ?_, va_Zref (args := #[Value.ref b]) (hts _ (List.mem_of_getElem? (i := 459) (by decide +kernel))) (hts _ (List.mem_of_getElem? (i := 106) (by decide +kernel))) htW hA, hTW.cg (fun j hj => by show Value.ref (aW j) = .ref (stA s.heap.size aW aK aV tW b m0 m1 m2 L xs (1000 + j)); rw [sA_W hj]), vk_S.cg hSt (fun i hi => sA_K hi) (fun i hi => sA_V hi), va_Zof (args := #[Value.ref b]) (hts _ (List.mem_of_getElem? (i := 473) (by decide +kernel))) (hts _ (List.mem_of_getElem? (i := 126) (by decide +kernel))) (va_eqt (hs _ (List.mem_of_getElem? (i := 21) (by decide +kernel)))) hA, va_Zqof (args := #[Value.ref b]) (hts _ (List.mem_of_getElem? (i := 489) (by decide +kernel))) (hts _ (List.mem_of_getElem? (i := 128) (by decide +kernel))) (hs _ (List.mem_of_getElem? (i := 22) (by decide +kernel))) hA, ?_, hA b hbl⟩
    · have e1 : stA s.heap.size aW aK aV tW b m0 m1 m2 L xs (1000 + k) = aW k := sA_W hk
      have e2 : stA s.heap.size aW aK aV tW b m0 m1 m2 L xs (1010 + k) = aK k := sA_K hk
      show va_Z _ _ _ (.ref (stA s.heap.size aW aK aV tW b m0 m1 m2 L xs (1000 + k))) _ _ _ ∧ va_OF _ _ _ _ (stA s.heap.size aW aK aV tW b m0 m1 m2 L xs (1000 + k)) _ _ _ ∧ va_OF _ _ _ (.ref (stA s.heap.size aW aK aV tW b m0 m1 m2 L xs (1010 + k))) (stA s.heap.size aW aK aV tW b m0 m1 m2 L xs (1000 + k)) _ _ _
      rw [e1, e2]
      exact ⟨va_Zref (args := #[Value.ref b]) (hts _ (sm_ly k hk)) (hts _ (List.mem_of_getElem? (i := 116) (by decide +kernel))) (hW k hk) hA, vk_OFof (hW k hk) (va_eqt (hs _ (sm_nu k hk))) hA, vk_OFof (hW k hk) (st_eqR (hs _ (sm_le k hk)) (hK k hk)) hA⟩
    · have e3 : (fun j => nI (stA s.heap.size aW aK aV tW b m0 m1 m2 L xs (2000 + j))) = xs := funext fun j => sA_x j
      show va_X b L (fun j => nI (stA s.heap.size aW aK aV tW b m0 m1 m2 L xs (2000 + j))) s s.heap
      rw [e3]
      exact hX
