/-! shades -/
theorem zPos_0 : zPos FP.fconst0 := by unfold zPos; decide
theorem zFinS_0 : zFinS FP.fconst0 := by unfold zFinS; decide
theorem fp_sub {x y : UInt32} (hx : zFinS x) (hy : zFinS y) : vf_n32 (FP.fsub x y) := fx_sub hx hy
theorem zFinS.pos {x : UInt32} (h : zFinS x) : zPos x := Nat.le_trans h (by decide)
theorem fp_add {x y : UInt32} (hx : zPos x) (hy : zPos y) : vf_n32 (FP.fadd x y) ∧ zPos (FP.fadd x y) := fx_add hx hy
theorem fp_div {x : UInt32} {n : Nat} (hx : zPos x) (h0 : 0 < n) (hn : n < 2 ^ 24) : vf_n32 (FP.fdiv x (FP.i2f (nI n))) ∧ zPos (FP.fdiv x (FP.i2f (nI n))) := fx_div hx h0 hn
theorem fp_df {x y : UInt32} (hx : zFinS x) (hy : zFinS y) : zPos (zDf x y) := fx_df hx hy
/-- once for each of the first n -/
def zIt {α : Type} (g : Nat → α → α) : Nat → α → α
  | 0, s => s
  | n + 1, s => g n (zIt g n s)
theorem zIt_inv {α : Type} {g : Nat → α → α} {P : α → Prop} (h : ∀ k s, P s → P (g k s)) : ∀ (n : Nat) (s : α), P s → P (zIt g n s)
  | 0, _, hs => hs
  | n + 1, s, hs => h n _ (zIt_inv h n s hs)
theorem zSh_ok {f : Nat → UInt32} (hf : ∀ j, zFinS (f j)) (i : Int32) : zFinS (zSh f i) := by
  unfold zSh
  split
  · exact zFinS_0
  · split
    · exact zFinS_0
    · exact hf _
