/-! THE FRESH OBJECTS -/
def zB0 : Nat → Int32 := fun _ => 0
/-- the reference's row at the start -/
def zS0 : Nat → Int32 := zFa 71 (fun _ => -1) (upd (upd (upd (upd (fun _ => 0) 0 (nI 8)) 1 (nI 6)) 4 (nI 3)) 5 1073741824) 20
/-- a fresh loom -/
def zN0 : zS := (8, 6, 0, 3, 1073741824, (fun _ => 0), (fun _ => 0), (fun _ => 0), (fun _ => 0), zFl (fun _ => -1) (fun _ => 0) 20, 0, (fun _ => 0), (fun _ => 0), (fun _ => 0), (fun _ => 0), (fun _ => 0))
theorem zS0_z {j : Nat} (h : 6 ≤ j ∨ j = 2 ∨ j = 3) (h2 : j < 71 ∨ 91 ≤ j) : zS0 j = 0 := by
  unfold zS0 zFa
  rw [if_neg (by omega), upd_ne (by omega), upd_ne (by omega), upd_ne (by omega), upd_ne (by omega)]
theorem zS0_m {j : Nat} (h : j < 20) : zS0 (71 + j) = -1 := by
  unfold zS0 zFa
  rw [if_pos (by omega)]
theorem zRsh0 : rShv 0 := Or.inr (by decide +kernel)
theorem zFb0 : zFb 0 = 0 := by decide +kernel
theorem zRel_0 : zRel zN0 zS0 := by
  show zRe 8 6 0 3 1073741824 (fun _ => 0) (fun _ => 0) (fun _ => 0) (fun _ => 0) (zFl (fun _ => -1) (fun _ => 0) 20) 0 (fun _ => 0) (fun _ => 0) (fun _ => 0) (fun _ => 0) (fun _ => 0) zS0
  refine ⟨⟨by decide +kernel, by decide +kernel, by decide +kernel, by decide +kernel, by decide +kernel, by decide, by decide, by decide, by decide, by decide, by decide, by decide⟩, by decide, ⟨by decide +kernel, Or.inr (by decide +kernel)⟩, ⟨by decide, by decide, fun y b hy hb => ?_⟩, ⟨by decide, by decide, fun y b hy => absurd hy (Nat.not_lt_zero y)⟩, fun y b hy => absurd hy (Nat.not_lt_zero y), fun b y hb hy => ?_, fun b hb => ?_, fun k hk => ?_, ⟨fun _ => 0, fun k hk => ⟨?_, Nat.le_of_ble_eq_true rfl⟩⟩, fun _ => ?_, zS0_z (Or.inl (by decide)) (Or.inl (by decide))⟩
  · have e : rD zS0 8 y b = 0 := by
      unfold rD
      exact zS0_z (Or.inl (by omega)) (Or.inr (by omega))
    exact ⟨e.symm, 0, by decide, e.trans nI_0.symm⟩
  · have e : zS0 (1051 + 16 * b + y) = 0 := zS0_z (Or.inl (by omega)) (Or.inr (by omega))
    exact ⟨e.symm, Or.inl (e.trans nI_0.symm)⟩
  · have e : zFl (fun _ => (-1 : Int32)) (fun _ => 0) 20 b = -1 := if_pos hb
    exact ⟨e.trans (zS0_m hb).symm, Or.inl (zS0_m hb)⟩
  · have e0 : zS0 (7 + 4 * k) = 0 := zS0_z (Or.inl (by omega)) (Or.inl (by omega))
    have e1 : zS0 (7 + 4 * k + 1) = 0 := zS0_z (Or.inl (by omega)) (Or.inl (by omega))
    have e2 : zS0 (7 + 4 * k + 2) = 0 := zS0_z (Or.inl (by omega)) (Or.inl (by omega))
    have e3 : zS0 (7 + 4 * k + 3) = 0 := zS0_z (Or.inl (by omega)) (Or.inl (by omega))
    exact ⟨e0.symm, e1.symm, e2.symm, e3.symm, by rw [e3]; exact zFb0.symm, by rw [e3]; exact zRsh0⟩
  · exact (zS0_z (Or.inl (by omega)) (Or.inl (by omega))).trans nI_0.symm
  · show (0 : UInt32).toNat ≤ 1120403456
    decide
theorem zSlot_s (a : zS) (j : Nat) : zSlot a a a a j = a := by
  unfold zSlot
  split
  · rfl
  · split
    · rfl
    · split <;> rfl
theorem zHist_0 : zHist zN0 zN0 zN0 zN0 0 0 (fun _ => 0) := by
  refine ⟨by decide, by decide, fun j hj => ?_, fun i hi => absurd hi (Nat.not_lt_zero i)⟩
  rw [zSlot_s]
  intro k
  show (0 : UInt32).toNat ≤ 1120403456
  decide
theorem zGd_0 : zGd (nI 0) (fun _ => 0) (zHp zN0 (zN0, zN0, zN0, zN0, 0, 0, (fun _ => 0), 0, (fun _ => 0), (1000 + 0), 0, (-1)) (zS0, (fun _ => 0), (fun _ => 0), 0, (fun _ => 0), 0, nI 0, (fun _ => 0), (fun _ => 0), (fun _ => 0), 0, (fun _ => 0), (fun _ => 0), (fun _ => 0), 0, nI 0, (fun _ => 0), nI 0, 0) (fun _ => 0)) :=
  ⟨zN0, zN0, zN0, zN0, zN0, 0, 0, 0, 0, 0, (fun _ => 0), (fun _ => 0), (-1), zS0, (fun _ => 0), (fun _ => 0), (fun _ => 0), (fun _ => 0), (fun _ => 0), 0, (fun _ => 0), (fun _ => 0), (fun _ => 0), 0, nI 0, (fun _ => 0), nI 0, 0, zRel_0, zHist_0, by decide, by decide, fun _ => ⟨0, by decide, nI_0.symm⟩, fun _ _ => ⟨0, by decide, nI_0.symm⟩, rfl⟩
