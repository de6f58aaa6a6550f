section
-- ===== PART A: goes FIRST, ahead of the names: the tables' words, and 'selects' of the private methods out of them =====
/-- a private method of a class that the tables say can be made, by its rows of tables_1 -/
def lw_okq (q : MethodName × Nat) : Prop := (q.1.cls ≠ "java/lang/invoke/MethodHandle" ∧ q.1.cls ≠ "java/lang/invoke/VarHandle") ∧ Cond.instantiable q.1.cls q.2 ∈ tables_1 ∧ Cond.privateMethod q.1 ∈ tables_1 ∧ Cond.instanceMethod q.1 ∈ tables_1
theorem lw_p0 : lw_okq (⟨"MirrorLoom$Loom", "allWrongCells", "()I"⟩, 11) := ⟨⟨by decide +kernel, by decide +kernel⟩, List.mem_of_getElem? (i := 28) (by decide +kernel), List.mem_of_getElem? (i := 227) (by decide +kernel), List.mem_of_getElem? (i := 228) (by decide +kernel)⟩
theorem lw_p1 : lw_okq (⟨"MirrorLoom$Loom", "wrongCells", "(I)I"⟩, 11) := ⟨⟨by decide +kernel, by decide +kernel⟩, List.mem_of_getElem? (i := 28) (by decide +kernel), List.mem_of_getElem? (i := 231) (by decide +kernel), List.mem_of_getElem? (i := 232) (by decide +kernel)⟩
theorem lw_p2 : lw_okq (⟨"MirrorLoom$Loom", "isWrong", "(II)Z"⟩, 11) := ⟨⟨by decide +kernel, by decide +kernel⟩, List.mem_of_getElem? (i := 28) (by decide +kernel), List.mem_of_getElem? (i := 235) (by decide +kernel), List.mem_of_getElem? (i := 236) (by decide +kernel)⟩
theorem lw_p3 : lw_okq (⟨"MirrorLoom$Loom", "parts", "(II)Z"⟩, 11) := ⟨⟨by decide +kernel, by decide +kernel⟩, List.mem_of_getElem? (i := 28) (by decide +kernel), List.mem_of_getElem? (i := 251) (by decide +kernel), List.mem_of_getElem? (i := 252) (by decide +kernel)⟩
theorem lw_p4 : lw_okq (⟨"MirrorLoom$Loom", "sewnSlits", "()I"⟩, 11) := ⟨⟨by decide +kernel, by decide +kernel⟩, List.mem_of_getElem? (i := 28) (by decide +kernel), List.mem_of_getElem? (i := 255) (by decide +kernel), List.mem_of_getElem? (i := 256) (by decide +kernel)⟩
theorem lw_p5 : lw_okq (⟨"MirrorLoom$Loom", "cellsIn", "(LMirrorLoom$Grid;II)I"⟩, 11) := ⟨⟨by decide +kernel, by decide +kernel⟩, List.mem_of_getElem? (i := 28) (by decide +kernel), List.mem_of_getElem? (i := 259) (by decide +kernel), List.mem_of_getElem? (i := 260) (by decide +kernel)⟩
theorem lw_p6 : lw_okq (⟨"MirrorLoom$Loom", "rowsOfSewnSlits", "()I"⟩, 11) := ⟨⟨by decide +kernel, by decide +kernel⟩, List.mem_of_getElem? (i := 28) (by decide +kernel), List.mem_of_getElem? (i := 268) (by decide +kernel), List.mem_of_getElem? (i := 269) (by decide +kernel)⟩
theorem lw_p7 : lw_okq (⟨"MirrorLoom$Loom", "isSewn", "(II)Z"⟩, 11) := ⟨⟨by decide +kernel, by decide +kernel⟩, List.mem_of_getElem? (i := 28) (by decide +kernel), List.mem_of_getElem? (i := 272) (by decide +kernel), List.mem_of_getElem? (i := 273) (by decide +kernel)⟩
theorem lw_p8 : lw_okq (⟨"MirrorLoom$Loom", "gapsAbove", "(F)I"⟩, 11) := ⟨⟨by decide +kernel, by decide +kernel⟩, List.mem_of_getElem? (i := 28) (by decide +kernel), List.mem_of_getElem? (i := 277) (by decide +kernel), List.mem_of_getElem? (i := 278) (by decide +kernel)⟩
theorem lw_p9 : lw_okq (⟨"MirrorLoom$Loom", "gap", "(IIII)F"⟩, 11) := ⟨⟨by decide +kernel, by decide +kernel⟩, List.mem_of_getElem? (i := 28) (by decide +kernel), List.mem_of_getElem? (i := 281) (by decide +kernel), List.mem_of_getElem? (i := 282) (by decide +kernel)⟩
theorem lw_p10 : lw_okq (⟨"MirrorLoom$Loom", "isSeam", "(IIII)Z"⟩, 11) := ⟨⟨by decide +kernel, by decide +kernel⟩, List.mem_of_getElem? (i := 28) (by decide +kernel), List.mem_of_getElem? (i := 285) (by decide +kernel), List.mem_of_getElem? (i := 286) (by decide +kernel)⟩
theorem lw_p11 : lw_okq (⟨"MirrorLoom$Loom", "wovenColor", "(II)I"⟩, 11) := ⟨⟨by decide +kernel, by decide +kernel⟩, List.mem_of_getElem? (i := 28) (by decide +kernel), List.mem_of_getElem? (i := 289) (by decide +kernel), List.mem_of_getElem? (i := 290) (by decide +kernel)⟩
theorem lw_p12 : lw_okq (⟨"MirrorLoom$Loom", "difference", "(IIII)F"⟩, 11) := ⟨⟨by decide +kernel, by decide +kernel⟩, List.mem_of_getElem? (i := 28) (by decide +kernel), List.mem_of_getElem? (i := 293) (by decide +kernel), List.mem_of_getElem? (i := 294) (by decide +kernel)⟩
theorem lw_p13 : lw_okq (⟨"MirrorLoom$Loom", "shadeAt", "(II)F"⟩, 11) := ⟨⟨by decide +kernel, by decide +kernel⟩, List.mem_of_getElem? (i := 28) (by decide +kernel), List.mem_of_getElem? (i := 297) (by decide +kernel), List.mem_of_getElem? (i := 298) (by decide +kernel)⟩
theorem lw_p14 : lw_okq (⟨"MirrorLoom$Loom", "mostShuttles", "()I"⟩, 11) := ⟨⟨by decide +kernel, by decide +kernel⟩, List.mem_of_getElem? (i := 28) (by decide +kernel), List.mem_of_getElem? (i := 312) (by decide +kernel), List.mem_of_getElem? (i := 313) (by decide +kernel)⟩
theorem lw_p15 : lw_okq (⟨"MirrorLoom$Loom", "allNewShuttles", "()I"⟩, 11) := ⟨⟨by decide +kernel, by decide +kernel⟩, List.mem_of_getElem? (i := 28) (by decide +kernel), List.mem_of_getElem? (i := 325) (by decide +kernel), List.mem_of_getElem? (i := 326) (by decide +kernel)⟩
def lw_privs_1 : List (MethodName × Nat) := [(⟨"MirrorLoom$Loom", "allWrongCells", "()I"⟩, 11), (⟨"MirrorLoom$Loom", "wrongCells", "(I)I"⟩, 11), (⟨"MirrorLoom$Loom", "isWrong", "(II)Z"⟩, 11), (⟨"MirrorLoom$Loom", "parts", "(II)Z"⟩, 11), (⟨"MirrorLoom$Loom", "sewnSlits", "()I"⟩, 11), (⟨"MirrorLoom$Loom", "cellsIn", "(LMirrorLoom$Grid;II)I"⟩, 11), (⟨"MirrorLoom$Loom", "rowsOfSewnSlits", "()I"⟩, 11), (⟨"MirrorLoom$Loom", "isSewn", "(II)Z"⟩, 11), (⟨"MirrorLoom$Loom", "gapsAbove", "(F)I"⟩, 11), (⟨"MirrorLoom$Loom", "gap", "(IIII)F"⟩, 11), (⟨"MirrorLoom$Loom", "isSeam", "(IIII)Z"⟩, 11), (⟨"MirrorLoom$Loom", "wovenColor", "(II)I"⟩, 11), (⟨"MirrorLoom$Loom", "difference", "(IIII)F"⟩, 11), (⟨"MirrorLoom$Loom", "shadeAt", "(II)F"⟩, 11), (⟨"MirrorLoom$Loom", "mostShuttles", "()I"⟩, 11), (⟨"MirrorLoom$Loom", "allNewShuttles", "()I"⟩, 11)]
theorem lw_r1 : ∀ q ∈ lw_privs_1, lw_okq q := List.forall_mem_cons.mpr ⟨lw_p0, List.forall_mem_cons.mpr ⟨lw_p1, List.forall_mem_cons.mpr ⟨lw_p2, List.forall_mem_cons.mpr ⟨lw_p3, List.forall_mem_cons.mpr ⟨lw_p4, List.forall_mem_cons.mpr ⟨lw_p5, List.forall_mem_cons.mpr ⟨lw_p6, List.forall_mem_cons.mpr ⟨lw_p7, List.forall_mem_cons.mpr ⟨lw_p8, List.forall_mem_cons.mpr ⟨lw_p9, List.forall_mem_cons.mpr ⟨lw_p10, List.forall_mem_cons.mpr ⟨lw_p11, List.forall_mem_cons.mpr ⟨lw_p12, List.forall_mem_cons.mpr ⟨lw_p13, List.forall_mem_cons.mpr ⟨lw_p14, List.forall_mem_cons.mpr ⟨lw_p15, fun _ h => absurd h List.not_mem_nil⟩⟩⟩⟩⟩⟩⟩⟩⟩⟩⟩⟩⟩⟩⟩⟩
theorem lw_p16 : lw_okq (⟨"MirrorLoom$Loom", "newShuttles", "(I)I"⟩, 11) := ⟨⟨by decide +kernel, by decide +kernel⟩, List.mem_of_getElem? (i := 28) (by decide +kernel), List.mem_of_getElem? (i := 329) (by decide +kernel), List.mem_of_getElem? (i := 330) (by decide +kernel)⟩
theorem lw_p17 : lw_okq (⟨"MirrorLoom$Loom", "isNewRun", "(II)Z"⟩, 11) := ⟨⟨by decide +kernel, by decide +kernel⟩, List.mem_of_getElem? (i := 28) (by decide +kernel), List.mem_of_getElem? (i := 334) (by decide +kernel), List.mem_of_getElem? (i := 335) (by decide +kernel)⟩
theorem lw_p18 : lw_okq (⟨"MirrorLoom", "mixedCells", "(J)J"⟩, 4) := ⟨⟨by decide +kernel, by decide +kernel⟩, List.mem_of_getElem? (i := 20) (by decide +kernel), List.mem_of_getElem? (i := 338) (by decide +kernel), List.mem_of_getElem? (i := 339) (by decide +kernel)⟩
theorem lw_p19 : lw_okq (⟨"MirrorLoom$Loom", "mirror", "(I)I"⟩, 11) := ⟨⟨by decide +kernel, by decide +kernel⟩, List.mem_of_getElem? (i := 28) (by decide +kernel), List.mem_of_getElem? (i := 346) (by decide +kernel), List.mem_of_getElem? (i := 347) (by decide +kernel)⟩
theorem lw_p20 : lw_okq (⟨"MirrorLoom", "mixedRows", "(J)J"⟩, 4) := ⟨⟨by decide +kernel, by decide +kernel⟩, List.mem_of_getElem? (i := 20) (by decide +kernel), List.mem_of_getElem? (i := 354) (by decide +kernel), List.mem_of_getElem? (i := 355) (by decide +kernel)⟩
theorem lw_p21 : lw_okq (⟨"MirrorLoom$Loom", "lotsInRow", "(I)I"⟩, 11) := ⟨⟨by decide +kernel, by decide +kernel⟩, List.mem_of_getElem? (i := 28) (by decide +kernel), List.mem_of_getElem? (i := 362) (by decide +kernel), List.mem_of_getElem? (i := 363) (by decide +kernel)⟩
theorem lw_p22 : lw_okq (⟨"MirrorLoom", "mixedLots", "(J)J"⟩, 4) := ⟨⟨by decide +kernel, by decide +kernel⟩, List.mem_of_getElem? (i := 20) (by decide +kernel), List.mem_of_getElem? (i := 374) (by decide +kernel), List.mem_of_getElem? (i := 375) (by decide +kernel)⟩
theorem lw_p23 : lw_okq (⟨"MirrorLoom", "mixedColors", "(J)J"⟩, 4) := ⟨⟨by decide +kernel, by decide +kernel⟩, List.mem_of_getElem? (i := 20) (by decide +kernel), List.mem_of_getElem? (i := 391) (by decide +kernel), List.mem_of_getElem? (i := 392) (by decide +kernel)⟩
theorem lw_p24 : lw_okq (⟨"MirrorLoom$Loom", "wovenRuns", "(I)I"⟩, 11) := ⟨⟨by decide +kernel, by decide +kernel⟩, List.mem_of_getElem? (i := 28) (by decide +kernel), List.mem_of_getElem? (i := 407) (by decide +kernel), List.mem_of_getElem? (i := 408) (by decide +kernel)⟩
theorem lw_p25 : lw_okq (⟨"MirrorLoom", "mixedSlits", "(J)J"⟩, 4) := ⟨⟨by decide +kernel, by decide +kernel⟩, List.mem_of_getElem? (i := 20) (by decide +kernel), List.mem_of_getElem? (i := 429) (by decide +kernel), List.mem_of_getElem? (i := 430) (by decide +kernel)⟩
theorem lw_p26 : lw_okq (⟨"java/lang/Throwable", "fillInStackTrace", "(I)Ljava/lang/Throwable;"⟩, 6) := ⟨⟨by decide +kernel, by decide +kernel⟩, List.mem_of_getElem? (i := 503) (by decide +kernel), List.mem_of_getElem? (i := 501) (by decide +kernel), List.mem_of_getElem? (i := 502) (by decide +kernel)⟩
theorem lw_p27 : lw_okq (⟨"MirrorLoom$History", "roomAt", "(I)LMirrorLoom$Loom;"⟩, 3) := ⟨⟨by decide +kernel, by decide +kernel⟩, List.mem_of_getElem? (i := 137) (by decide +kernel), List.mem_of_getElem? (i := 569) (by decide +kernel), List.mem_of_getElem? (i := 570) (by decide +kernel)⟩
theorem lw_p28 : lw_okq (⟨"MirrorLoom$Lots", "putShade", "(IF)V"⟩, 6) := ⟨⟨by decide +kernel, by decide +kernel⟩, List.mem_of_getElem? (i := 59) (by decide +kernel), List.mem_of_getElem? (i := 592) (by decide +kernel), List.mem_of_getElem? (i := 593) (by decide +kernel)⟩
theorem lw_p29 : lw_okq (⟨"MirrorLoom$Loom", "forgetLostSlits", "()V"⟩, 11) := ⟨⟨by decide +kernel, by decide +kernel⟩, List.mem_of_getElem? (i := 28) (by decide +kernel), List.mem_of_getElem? (i := 679) (by decide +kernel), List.mem_of_getElem? (i := 680) (by decide +kernel)⟩
theorem lw_p30 : lw_okq (⟨"MirrorLoom$Loom", "weaveNext", "()Z"⟩, 11) := ⟨⟨by decide +kernel, by decide +kernel⟩, List.mem_of_getElem? (i := 28) (by decide +kernel), List.mem_of_getElem? (i := 714) (by decide +kernel), List.mem_of_getElem? (i := 715) (by decide +kernel)⟩
theorem lw_p31 : lw_okq (⟨"MirrorLoom$Loom", "layColors", "(I)V"⟩, 11) := ⟨⟨by decide +kernel, by decide +kernel⟩, List.mem_of_getElem? (i := 28) (by decide +kernel), List.mem_of_getElem? (i := 718) (by decide +kernel), List.mem_of_getElem? (i := 719) (by decide +kernel)⟩
def lw_privs_2 : List (MethodName × Nat) := [(⟨"MirrorLoom$Loom", "newShuttles", "(I)I"⟩, 11), (⟨"MirrorLoom$Loom", "isNewRun", "(II)Z"⟩, 11), (⟨"MirrorLoom", "mixedCells", "(J)J"⟩, 4), (⟨"MirrorLoom$Loom", "mirror", "(I)I"⟩, 11), (⟨"MirrorLoom", "mixedRows", "(J)J"⟩, 4), (⟨"MirrorLoom$Loom", "lotsInRow", "(I)I"⟩, 11), (⟨"MirrorLoom", "mixedLots", "(J)J"⟩, 4), (⟨"MirrorLoom", "mixedColors", "(J)J"⟩, 4), (⟨"MirrorLoom$Loom", "wovenRuns", "(I)I"⟩, 11), (⟨"MirrorLoom", "mixedSlits", "(J)J"⟩, 4), (⟨"java/lang/Throwable", "fillInStackTrace", "(I)Ljava/lang/Throwable;"⟩, 6), (⟨"MirrorLoom$History", "roomAt", "(I)LMirrorLoom$Loom;"⟩, 3), (⟨"MirrorLoom$Lots", "putShade", "(IF)V"⟩, 6), (⟨"MirrorLoom$Loom", "forgetLostSlits", "()V"⟩, 11), (⟨"MirrorLoom$Loom", "weaveNext", "()Z"⟩, 11), (⟨"MirrorLoom$Loom", "layColors", "(I)V"⟩, 11)]
theorem lw_r2 : ∀ q ∈ lw_privs_2, lw_okq q := List.forall_mem_cons.mpr ⟨lw_p16, List.forall_mem_cons.mpr ⟨lw_p17, List.forall_mem_cons.mpr ⟨lw_p18, List.forall_mem_cons.mpr ⟨lw_p19, List.forall_mem_cons.mpr ⟨lw_p20, List.forall_mem_cons.mpr ⟨lw_p21, List.forall_mem_cons.mpr ⟨lw_p22, List.forall_mem_cons.mpr ⟨lw_p23, List.forall_mem_cons.mpr ⟨lw_p24, List.forall_mem_cons.mpr ⟨lw_p25, List.forall_mem_cons.mpr ⟨lw_p26, List.forall_mem_cons.mpr ⟨lw_p27, List.forall_mem_cons.mpr ⟨lw_p28, List.forall_mem_cons.mpr ⟨lw_p29, List.forall_mem_cons.mpr ⟨lw_p30, List.forall_mem_cons.mpr ⟨lw_p31, fun _ h => absurd h List.not_mem_nil⟩⟩⟩⟩⟩⟩⟩⟩⟩⟩⟩⟩⟩⟩⟩⟩
theorem lw_p32 : lw_okq (⟨"MirrorLoom$Loom", "hasYarnFor", "(I)Z"⟩, 11) := ⟨⟨by decide +kernel, by decide +kernel⟩, List.mem_of_getElem? (i := 28) (by decide +kernel), List.mem_of_getElem? (i := 722) (by decide +kernel), List.mem_of_getElem? (i := 723) (by decide +kernel)⟩
theorem lw_p33 : lw_okq (⟨"MirrorLoom$Loom", "rowsWithYarnOf", "(I)I"⟩, 11) := ⟨⟨by decide +kernel, by decide +kernel⟩, List.mem_of_getElem? (i := 28) (by decide +kernel), List.mem_of_getElem? (i := 865) (by decide +kernel), List.mem_of_getElem? (i := 866) (by decide +kernel)⟩
def lw_privs_3 : List (MethodName × Nat) := [(⟨"MirrorLoom$Loom", "hasYarnFor", "(I)Z"⟩, 11), (⟨"MirrorLoom$Loom", "rowsWithYarnOf", "(I)I"⟩, 11)]
theorem lw_r3 : ∀ q ∈ lw_privs_3, lw_okq q := List.forall_mem_cons.mpr ⟨lw_p32, List.forall_mem_cons.mpr ⟨lw_p33, fun _ h => absurd h List.not_mem_nil⟩⟩
def lw_privs : List (MethodName × Nat) := lw_privs_1 ++ (lw_privs_2 ++ (lw_privs_3))
def lw_tbl : List Cond := k2_sels lw_privs ++ tables_1
theorem lw_privs_ok : ∀ q ∈ lw_privs, lw_okq q := by
  show ∀ q ∈ lw_privs_1 ++ (lw_privs_2 ++ (lw_privs_3)), lw_okq q
  exact List.forall_mem_append.mpr ⟨lw_r1, List.forall_mem_append.mpr ⟨lw_r2, lw_r3⟩⟩
/-- the streams that the claim lets the run draw from -/
abbrev lw_cs : List Choice := [Jvm.Choice.named "NaN.bits"]
theorem lw_bits : nanBits ∈ lw_cs := by first | decide | exact List.mem_cons_self | simp [lw_cs, nanBits]
end
section
/-! shades: floats that are not below 0 -/
def zPos (x : UInt32) : Prop := x.toNat ≤ 2139095040
def zFinS (x : UInt32) : Prop := x.toNat ≤ 1120403456
def zDf (x y : UInt32) : UInt32 := if Op.cmpValue (FP.fcmp (FP.fsub x y) FP.fconst0) .g < 0 then FP.fneg (FP.fsub x y) else FP.fsub x y
/-! facts of floats that are not below 0 (over the library's laws) -/
theorem fx_dec {n : Nat} (h : n ≤ 2139095040) : FP.Core.decode FP.Core.b32 n = .inf false ∨ ∃ c q, FP.Core.decode FP.Core.b32 n = .fin false c q := by
  have hS : FP.Core.fieldS FP.Core.b32 n = false := by
    unfold FP.Core.fieldS
    rw [show n / FP.Core.b32.tails / FP.Core.b32.exps = 0 from by
      show n / 8388608 / 256 = 0
      omega]
    rfl
  unfold FP.Core.decode
  rw [hS]
  split
  · rename_i hE
    split
    · exact Or.inl rfl
    · rename_i hT
      exfalso
      have hE' : n / 8388608 % 256 = 255 := hE
      have hT' : ¬ n % 8388608 = 0 := hT
      omega
  · split
    · exact Or.inr ⟨_, _, rfl⟩
    · exact Or.inr ⟨_, _, rfl⟩
theorem fx_dec_fin {n : Nat} (h : n < 2139095040) : ∃ c q, FP.Core.decode FP.Core.b32 n = .fin false c q := by
  have hS : FP.Core.fieldS FP.Core.b32 n = false := by
    unfold FP.Core.fieldS
    rw [show n / FP.Core.b32.tails / FP.Core.b32.exps = 0 from by
      show n / 8388608 / 256 = 0
      omega]
    rfl
  unfold FP.Core.decode
  rw [hS]
  split
  · rename_i hE
    exfalso
    have hE' : n / 8388608 % 256 = 255 := hE
    omega
  · split
    · exact ⟨_, _, rfl⟩
    · exact ⟨_, _, rfl⟩
theorem fx_sign {n : Nat} (hn : n < 4294967296) {s : Bool} (h : FP.Core.decode FP.Core.b32 n = .inf s ∨ ∃ c q, FP.Core.decode FP.Core.b32 n = .fin s c q) : (s = false → n ≤ 2139095040) ∧ (s = true → 2147483648 ≤ n ∧ n - 2147483648 ≤ 2139095040) := by
  have hS : FP.Core.fieldS FP.Core.b32 n = s ∧ (n / 8388608 % 256 = 255 → n % 8388608 = 0) := by
    unfold FP.Core.decode at h
    split at h
    · rename_i hE
      split at h
      · rename_i hT
        refine ⟨?_, fun _ => hT⟩
        rcases h with h | ⟨c, q, h⟩ <;> cases h
        rfl
      · rcases h with h | ⟨c, q, h⟩ <;> cases h
    · rename_i hE
      refine ⟨?_, fun z => absurd z hE⟩
      split at h <;> (rcases h with h | ⟨c, q, h⟩ <;> cases h; rfl)
  obtain ⟨h1, h2⟩ := hS
  have h3 : (n / 8388608 / 256 % 2 == 1) = s := h1
  constructor
  · intro z
    subst z
    have h4 : ¬ n / 8388608 / 256 % 2 = 1 := by simpa using h3
    omega
  · intro z
    subst z
    have h4 : n / 8388608 / 256 % 2 = 1 := by simpa using h3
    omega
theorem fx_vf {r : UInt32} (h : r.toNat ≤ 2139095040) : vf_n32 r := by
  unfold vf_n32
  rw [UInt32.le_iff_toNat_le, UInt32.toNat_and]
  exact Nat.le_trans Nat.and_le_left h
theorem fx_vfn {r : UInt32} (h : 2147483648 ≤ r.toNat) (h2 : r.toNat - 2147483648 ≤ 2139095040) : vf_n32 r := by
  unfold vf_n32
  rw [UInt32.le_iff_toNat_le, UInt32.toNat_and]
  show r.toNat &&& (2 ^ 31 - 1) ≤ 2139095040
  rw [Nat.and_two_pow_sub_one_eq_mod]
  have := r.toNat_lt
  omega
theorem fx_val {x : UInt32} (h : zPos x) : FP.Core.val32 x = .inf false ∨ ∃ c q, FP.Core.val32 x = .fin false c q := fx_dec h
theorem fx_of {x : UInt32} {s : Bool} (h : FP.Core.val32 x = .inf s ∨ ∃ c q, FP.Core.val32 x = .fin s c q) : vf_n32 x ∧ (s = false → zPos x) := by
  have h1 := fx_sign (n := x.toNat) x.toNat_lt h
  refine ⟨?_, fun z => h1.1 z⟩
  cases s with
  | false => exact fx_vf (h1.1 rfl)
  | true => exact fx_vfn (h1.2 rfl).1 (h1.2 rfl).2
theorem fx_rr (s : Bool) (A B : Nat) (e : Int) : FP.Core.roundRatio FP.Core.b32 s A B e = .inf s ∨ ∃ c q, FP.Core.roundRatio FP.Core.b32 s A B e = .fin s c q := by
  unfold FP.Core.roundRatio
  split
  · exact Or.inr ⟨_, _, rfl⟩
  · unfold FP.Core.roundAt FP.Core.settle FP.Core.bound
    split <;> split <;> first | exact Or.inl rfl | exact Or.inr ⟨_, _, rfl⟩
theorem fx_add {x y : UInt32} (hx : zPos x) (hy : zPos y) : vf_n32 (FP.fadd x y) ∧ zPos (FP.fadd x y) := by
  have h : FP.Core.val32 (FP.fadd x y) = .inf false ∨ ∃ c q, FP.Core.val32 (FP.fadd x y) = .fin false c q := by
    rw [FP.Core.val32_fadd]
    rcases fx_val hx with h1 | ⟨c, q, h1⟩ <;> rcases fx_val hy with h2 | ⟨d, r, h2⟩ <;> rw [h1, h2]
    · exact Or.inl rfl
    · exact Or.inl rfl
    · exact Or.inl rfl
    · show FP.Core.roundRatio _ (FP.Core.sumSign _ _ _) _ _ _ = _ ∨ ∃ c q, FP.Core.roundRatio _ (FP.Core.sumSign _ _ _) _ _ _ = _
      rw [show FP.Core.sumSign false false (FP.Core.sumUnits false c q false d r (min q r)) = false from by
        unfold FP.Core.sumSign
        split
        · rfl
        · refine decide_eq_false ?_
          show ¬ (((FP.Core.inUnits c q (min q r) : Nat) : Int) + ((FP.Core.inUnits d r (min q r) : Nat) : Int) < 0)
          omega]
      exact fx_rr false _ _ _
  exact ⟨(fx_of h).1, (fx_of h).2 rfl⟩
theorem fx_sub {x y : UInt32} (hx : zFinS x) (hy : zFinS y) : vf_n32 (FP.fsub x y) := by
  obtain ⟨c, q, h1⟩ := fx_dec_fin (n := x.toNat) (Nat.lt_of_le_of_lt hx (by decide))
  obtain ⟨d, r, h2⟩ := fx_dec_fin (n := y.toNat) (Nat.lt_of_le_of_lt hy (by decide))
  refine (fx_of (s := FP.Core.sumSign false true (FP.Core.sumUnits false c q true d r (min q r))) ?_).1
  rw [FP.Core.val32_fsub, show FP.Core.val32 x = _ from h1, show FP.Core.val32 y = _ from h2]
  exact fx_rr _ _ _ _
theorem fx_mulK {x k : UInt32} {d : Nat} {r : Int} (hx : zPos x) (hk : FP.Core.val32 k = .fin false d r) (hd : d ≠ 0) : vf_n32 (FP.fmul x k) ∧ zPos (FP.fmul x k) := by
  have h : FP.Core.val32 (FP.fmul x k) = .inf false ∨ ∃ c q, FP.Core.val32 (FP.fmul x k) = .fin false c q := by
    rw [FP.Core.val32_fmul, hk]
    rcases fx_val hx with h1 | ⟨c, q, h1⟩ <;> rw [h1]
    · show FP.Core.round _ (if d = 0 then _ else _) = _ ∨ ∃ c q, FP.Core.round _ (if d = 0 then _ else _) = _
      rw [if_neg hd]
      exact Or.inl rfl
    · exact fx_rr false _ _ _
  exact ⟨(fx_of h).1, (fx_of h).2 rfl⟩
theorem fx_half {x : UInt32} (hx : zPos x) : vf_n32 (FP.fmul x 1056964608) ∧ zPos (FP.fmul x 1056964608) := fx_mulK (d := 8388608) (r := -24) hx (by decide +kernel) (by decide)
theorem fx_dbl {x : UInt32} (hx : zPos x) : vf_n32 (FP.fmul x FP.fconst2) ∧ zPos (FP.fmul x FP.fconst2) := fx_mulK (d := 8388608) (r := -22) hx (by decide +kernel) (by decide)
theorem fx_ofInt {n : Nat} (hn : n < 2 ^ 31) : FP.Core.ofInt (nI n).toInt = .fin false n 0 := by
  rw [nI_toInt hn]
  unfold FP.Core.ofInt
  rw [show decide ((n : Int) < 0) = false from decide_eq_false (by omega)]
  rfl
theorem fx_i2f (n : Nat) (hn : n < 2 ^ 31) : zPos (FP.i2f (nI n)) := by
  refine (fx_of (s := false) ?_).2 rfl
  rw [FP.Core.val32_i2f, fx_ofInt hn]
  exact fx_rr false _ _ _
/-- a whole number below 2^24 is a float -/
theorem fx_i2fv {n : Nat} (h0 : 0 < n) (hn : n < 2 ^ 24) : FP.Core.val32 (FP.i2f (nI n)) = .fin false (n * 2 ^ (23 - n.log2)) (-((23 - n.log2 : Nat) : Int)) := by
  have hl : n.log2 < 24 := (Nat.log2_lt (by omega)).mpr hn
  have h1 : 2 ^ n.log2 ≤ n := Nat.log2_self_le (by omega)
  have h2 : n < 2 ^ (n.log2 + 1) := Nat.lt_log2_self
  rw [FP.Core.val32_i2f, fx_ofInt (Nat.lt_trans hn (by decide))]
  refine FP.Core.roundRatio_exact FP.Core.good_b32 (by decide) ⟨?_, ?_, ?_, Or.inr ?_⟩ ?_
  · show n * 2 ^ (23 - n.log2) < 2 ^ 24
    calc n * 2 ^ (23 - n.log2) < 2 ^ (n.log2 + 1) * 2 ^ (23 - n.log2) := Nat.mul_lt_mul_of_pos_right h2 (Nat.two_pow_pos _)
      _ = 2 ^ 24 := by rw [← Nat.pow_add, show n.log2 + 1 + (23 - n.log2) = 24 by omega]
  · show (-149 : Int) ≤ _
    omega
  · show _ ≤ (104 : Int)
    omega
  · show 2 ^ 23 ≤ n * 2 ^ (23 - n.log2)
    calc 2 ^ 23 = 2 ^ n.log2 * 2 ^ (23 - n.log2) := by rw [← Nat.pow_add, show n.log2 + (23 - n.log2) = 23 by omega]
      _ ≤ n * 2 ^ (23 - n.log2) := Nat.mul_le_mul_right _ h1
  · rw [show ((0 : Int) - -((23 - n.log2 : Nat) : Int)).toNat = 23 - n.log2 by omega, show (-((23 - n.log2 : Nat) : Int) - 0).toNat = 0 by omega]
    rw [Nat.pow_zero, Nat.mul_one, Nat.mul_one]
theorem fx_div {x : UInt32} {n : Nat} (hx : zPos x) (h0 : 0 < n) (hn : n < 2 ^ 24) : vf_n32 (FP.fdiv x (FP.i2f (nI n))) ∧ zPos (FP.fdiv x (FP.i2f (nI n))) := by
  have h : FP.Core.val32 (FP.fdiv x (FP.i2f (nI n))) = .inf false ∨ ∃ c q, FP.Core.val32 (FP.fdiv x (FP.i2f (nI n))) = .fin false c q := by
    rw [FP.Core.val32_fdiv, fx_i2fv h0 hn]
    have hd : n * 2 ^ (23 - n.log2) ≠ 0 := Nat.ne_of_gt (Nat.mul_pos h0 (Nat.two_pow_pos _))
    rcases fx_val hx with h1 | ⟨c, q, h1⟩ <;> rw [h1]
    · exact Or.inl rfl
    · show (if n * 2 ^ (23 - n.log2) = 0 then _ else _) = _ ∨ ∃ c q, (if n * 2 ^ (23 - n.log2) = 0 then _ else _) = _
      rw [if_neg hd]
      exact fx_rr false _ _ _
  exact ⟨(fx_of h).1, (fx_of h).2 rfl⟩
/-- what is not zero and no smaller than the least float stays so when it is rounded -/
theorem fx_nz (s : Bool) {m : Nat} {e : Int} (hm : 0 < m) (he : FP.Core.b32.qmin ≤ e) : FP.Core.roundRatio FP.Core.b32 s m 1 e = .inf s ∨ ∃ c q, 0 < c ∧ FP.Core.roundRatio FP.Core.b32 s m 1 e = .fin s c q := by
  have hn : 1 ≤ FP.Core.nearest (FP.Core.unitsNum m e (FP.Core.quantum FP.Core.b32 m 1 e)) (FP.Core.unitsDen 1 e (FP.Core.quantum FP.Core.b32 m 1 e)) := by
    refine FP.Core.nearest_ge (FP.Core.unitsDen_pos (by decide) _ _) ?_
    rw [Nat.one_mul]
    rcases FP.Core.quantum_not_below (f := FP.Core.b32) hm (by decide : 0 < 1) e with h | h
    · rw [h]
      unfold FP.Core.unitsDen FP.Core.unitsNum
      rw [show (FP.Core.b32.qmin - e).toNat = 0 by omega, Nat.pow_zero]
      exact Nat.mul_pos hm (Nat.two_pow_pos _)
    · have h3 : ¬ FP.Core.unitsNum m e (FP.Core.quantum FP.Core.b32 m 1 e) < 2 ^ 23 * FP.Core.unitsDen 1 e (FP.Core.quantum FP.Core.b32 m 1 e) := fun z => h ((FP.Core.units_below m 1 e _ 23).mp z)
      have h4 := FP.Core.unitsDen_pos (B := 1) (by decide) e (FP.Core.quantum FP.Core.b32 m 1 e)
      omega
  unfold FP.Core.roundRatio
  rw [if_neg (by omega)]
  unfold FP.Core.roundAt FP.Core.settle FP.Core.bound
  split
  · split
    · exact Or.inr ⟨_, _, hn, rfl⟩
    · exact Or.inl rfl
  · split
    · exact Or.inr ⟨_, _, by decide, rfl⟩
    · exact Or.inl rfl
theorem fx_xor {y : Nat} (h : y < 2 ^ 31) : (2 ^ 31 + y) ^^^ 2 ^ 31 = y := by
  have h0 := Nat.two_pow_add_eq_or_of_lt h 1
  rw [Nat.mul_one] at h0
  rw [h0]
  refine Nat.eq_of_testBit_eq fun i => ?_
  rw [Nat.testBit_xor, Nat.testBit_or, Nat.testBit_two_pow]
  by_cases hi : 31 = i
  · subst hi
    rw [Nat.testBit_lt_two_pow h]
    simp
  · simp [hi]
theorem fx_neg {f : UInt32} (h : 2147483648 ≤ f.toNat) (h2 : f.toNat - 2147483648 ≤ 2139095040) : zPos (FP.fneg f) := by
  show (f ^^^ 0x80000000).toNat ≤ 2139095040
  rw [UInt32.toNat_xor]
  show f.toNat ^^^ 2 ^ 31 ≤ _
  rw [show f.toNat = 2 ^ 31 + (f.toNat - 2147483648) by omega, fx_xor (by omega)]
  exact h2
theorem fx_df {x y : UInt32} (hx : zFinS x) (hy : zFinS y) : zPos (zDf x y) := by
  obtain ⟨c, q, h1⟩ := fx_dec_fin (n := x.toNat) (Nat.lt_of_le_of_lt hx (by decide))
  obtain ⟨d, r, h2⟩ := fx_dec_fin (n := y.toNat) (Nat.lt_of_le_of_lt hy (by decide))
  have h1' : FP.Core.val32 x = .fin false c q := h1
  have h2' : FP.Core.val32 y = .fin false d r := h2
  have hv := FP.Core.val32_fsub x y
  rw [h1', h2'] at hv
  have hq1 : FP.Core.b32.qmin ≤ q := by have := FP.Core.val32_fits x; rw [h1'] at this; exact this.2.1
  have hq2 : FP.Core.b32.qmin ≤ r := by have := FP.Core.val32_fits y; rw [h2'] at this; exact this.2.1
  generalize hV : FP.Core.sumUnits false c q true d r (min q r) = V at *
  have hv' : FP.Core.val32 (FP.fsub x y) = FP.Core.roundRatio FP.Core.b32 (FP.Core.sumSign false true V) V.natAbs 1 (min q r) := by
    rw [← hV]; exact hv
  unfold zDf
  by_cases hneg : V < 0
  · have hs : FP.Core.sumSign false true V = true := by
      unfold FP.Core.sumSign
      rw [if_neg (by omega)]
      exact decide_eq_true hneg
    rw [hs] at hv'
    have hfv := fx_nz true (m := V.natAbs) (e := min q r) (by omega) (by omega)
    rw [← hv'] at hfv
    have hcmp : FP.fcmp (FP.fsub x y) FP.fconst0 = some .lt := by
      show FP.Core.order (FP.Core.val32 (FP.fsub x y)) (FP.Core.val32 FP.Core.fconst0) = _
      rw [FP.Core.val32_fconst0]
      rcases hfv with h | ⟨c', q', h0, h⟩ <;> rw [h]
      · rfl
      · show some (compare (FP.Core.signed true (FP.Core.inUnits c' q' _)) (FP.Core.signed false (FP.Core.inUnits 0 _ _))) = _
        refine congrArg some ?_
        rw [Int.compare_eq_lt]
        show -((FP.Core.inUnits c' q' _ : Nat) : Int) < ((FP.Core.inUnits 0 _ _ : Nat) : Int)
        have : 0 < FP.Core.inUnits c' q' (min q' FP.Core.b32.qmin) := Nat.mul_pos h0 (Nat.two_pow_pos _)
        omega
    rw [hcmp, if_pos (by decide)]
    have hsg := (fx_sign (n := (FP.fsub x y).toNat) (s := true) (FP.fsub x y).toNat_lt (by rcases hfv with h | ⟨c', q', -, h⟩; exact Or.inl h; exact Or.inr ⟨c', q', h⟩)).2 rfl
    exact fx_neg hsg.1 hsg.2
  · have hs : FP.Core.sumSign false true V = false := by
      unfold FP.Core.sumSign
      split
      · rfl
      · exact decide_eq_false hneg
    rw [hs] at hv'
    have hz : zPos (FP.fsub x y) := (fx_of (s := false) (by rw [hv']; exact fx_rr false _ _ _)).2 rfl
    split
    · rename_i hlt
      exfalso
      revert hlt
      show ¬ Op.cmpValue (FP.Core.order (FP.Core.val32 (FP.fsub x y)) (FP.Core.val32 FP.Core.fconst0)) .g < 0
      rw [FP.Core.val32_fconst0]
      rcases fx_val hz with h | ⟨c', q', h⟩ <;> rw [h]
      · decide
      · show ¬ Op.cmpValue (some (compare ((FP.Core.inUnits c' q' _ : Nat) : Int) ((FP.Core.inUnits 0 _ _ : Nat) : Int))) .g < 0
        rw [show FP.Core.inUnits 0 FP.Core.b32.qmin (min q' FP.Core.b32.qmin) = 0 from Nat.zero_mul _]
        generalize FP.Core.inUnits c' q' (min q' FP.Core.b32.qmin) = W
        rcases Nat.eq_zero_or_pos W with h0 | h0
        · subst h0; decide
        · rw [show compare ((W : Nat) : Int) ((0 : Nat) : Int) = .gt from Int.compare_eq_gt.mpr (by omega)]
          decide
    · exact hz
end
