/-! a float out of its bits by halving: the bits themselves -/
def zHs (m k : Nat) : Nat := min (23 - m.log2) (149 - k)
theorem zH_fits {m k : Nat} (h0 : 0 < m) (hm : m < 2 ^ 24) (hk : k ≤ 149) : FP.Core.fits FP.Core.b32 (.fin false (m * 2 ^ zHs m k) (-(k : Int) - (zHs m k : Int))) := by
  have hl : m.log2 < 24 := (Nat.log2_lt (by omega)).mpr hm
  have h1 : 2 ^ m.log2 ≤ m := Nat.log2_self_le (by omega)
  have h2 : m < 2 ^ (m.log2 + 1) := Nat.lt_log2_self
  have hs : zHs m k ≤ 23 - m.log2 := Nat.min_le_left _ _
  have hs2 : zHs m k ≤ 149 - k := Nat.min_le_right _ _
  refine ⟨?_, ?_, ?_, ?_⟩
  · show m * 2 ^ zHs m k < 2 ^ 24
    calc m * 2 ^ zHs m k < 2 ^ (m.log2 + 1) * 2 ^ zHs m k := Nat.mul_lt_mul_of_pos_right h2 (Nat.two_pow_pos _)
      _ ≤ 2 ^ (m.log2 + 1) * 2 ^ (23 - m.log2) := Nat.mul_le_mul_left _ (Nat.pow_le_pow_right (by decide) hs)
      _ = 2 ^ 24 := by rw [← Nat.pow_add, show m.log2 + 1 + (23 - m.log2) = 24 by omega]
  · show (-149 : Int) ≤ _
    omega
  · show _ ≤ (104 : Int)
    omega
  · by_cases hq : zHs m k = 149 - k
    · refine Or.inl ?_
      show -(k : Int) - (zHs m k : Int) = -149
      omega
    · refine Or.inr ?_
      have : zHs m k = 23 - m.log2 := by
        unfold zHs at hq ⊢
        omega
      show 2 ^ 23 ≤ m * 2 ^ zHs m k
      rw [this]
      calc 2 ^ 23 = 2 ^ m.log2 * 2 ^ (23 - m.log2) := by rw [← Nat.pow_add, show m.log2 + (23 - m.log2) = 23 by omega]
        _ ≤ m * 2 ^ (23 - m.log2) := Nat.mul_le_mul_right _ h1
theorem zH_base {m : Nat} (h0 : 0 < m) (hm : m < 2 ^ 24) : FP.Core.val32 (FP.i2f (nI m)) = .fin false (m * 2 ^ zHs m 0) (-((0 : Nat) : Int) - (zHs m 0 : Int)) := by
  rw [FP.Core.val32_i2f, fx_ofInt (Nat.lt_trans hm (by decide))]
  refine FP.Core.roundRatio_exact FP.Core.good_b32 (by decide) (zH_fits h0 hm (by decide)) ?_
  rw [show ((0 : Int) - (-((0 : Nat) : Int) - (zHs m 0 : Int))).toNat = zHs m 0 by omega, show (-((0 : Nat) : Int) - (zHs m 0 : Int) - 0).toNat = 0 by omega, Nat.pow_zero, Nat.mul_one, Nat.mul_one]
theorem zH_step {x : UInt32} {m k : Nat} (h0 : 0 < m) (hm : m < 2 ^ 24) (hk : k + 1 ≤ 149) (h : FP.Core.val32 x = .fin false (m * 2 ^ zHs m k) (-(k : Int) - (zHs m k : Int))) : FP.Core.val32 (FP.fmul x 1056964608) = .fin false (m * 2 ^ zHs m (k + 1)) (-((k + 1 : Nat) : Int) - (zHs m (k + 1) : Int)) := by
  rw [FP.Core.val32_fmul, h, show FP.Core.val32 1056964608 = .fin false 8388608 (-24) by decide +kernel]
  have hs : zHs m (k + 1) ≤ zHs m k := by unfold zHs; omega
  have hs2 : zHs m k ≤ zHs m (k + 1) + 1 := by unfold zHs; omega
  refine FP.Core.roundRatio_exact (A := m * 2 ^ zHs m k * 8388608) (e := -(k : Int) - (zHs m k : Int) + -24) FP.Core.good_b32 (by decide) (zH_fits h0 hm hk) ?_
  rw [show (-(k : Int) - (zHs m k : Int) + -24 - (-((k + 1 : Nat) : Int) - (zHs m (k + 1) : Int))).toNat = 0 by omega, show (-((k + 1 : Nat) : Int) - (zHs m (k + 1) : Int) - (-(k : Int) - (zHs m k : Int) + -24)).toNat = 23 + (zHs m k - zHs m (k + 1)) by omega, Nat.pow_zero, Nat.mul_one, Nat.mul_one, show 8388608 = 2 ^ 23 from rfl, Nat.mul_assoc, Nat.mul_assoc, ← Nat.pow_add, ← Nat.pow_add]
  exact congrArg (fun j => m * 2 ^ j) (by omega)
theorem zH_all {m : Nat} (h0 : 0 < m) (hm : m < 2 ^ 24) : ∀ k : Nat, k ≤ 149 → FP.Core.val32 (zIt (fun _ x => FP.fmul x 1056964608) k (FP.i2f (nI m))) = .fin false (m * 2 ^ zHs m k) (-(k : Int) - (zHs m k : Int))
  | 0, _ => zH_base h0 hm
  | k + 1, hk => zH_step h0 hm hk (zH_all h0 hm k (by omega))
theorem zFbN_eq {b : Nat} (h0 : 0 < b) (hb : b < 1266679808) : zFbN b = UInt32.ofNat b := by
  have hbN : (UInt32.ofNat b).toNat = b := UInt32.toNat_ofNat_of_lt' (by show b < 4294967296; omega)
  have hE : b / 2 ^ 23 ≤ 150 := by omega
  have hv : FP.Core.val32 (UInt32.ofNat b) = FP.Core.decode FP.Core.b32 b := by unfold FP.Core.val32; rw [hbN]
  have hS : FP.Core.fieldS FP.Core.b32 b = false := by
    unfold FP.Core.fieldS
    rw [show b / FP.Core.b32.tails / FP.Core.b32.exps = 0 from by
      show b / 8388608 / 256 = 0
      omega]
    rfl
  have hfe : FP.Core.fieldE FP.Core.b32 b = b / 2 ^ 23 := by
    show b / 8388608 % 256 = b / 8388608
    omega
  unfold zFbN
  by_cases he : b / 2 ^ 23 = 0
  · rw [if_pos he, he, show b % 2 ^ 23 = b by omega, show 150 - max 0 1 = 149 from rfl]
    have q := zH_all h0 (show b < 2 ^ 24 by omega) 149 (Nat.le_refl _)
    refine FP.Core.val32_inj (by rw [q]; intro z; cases z) ?_
    rw [q, hv]
    unfold FP.Core.decode
    rw [hS, hfe, he, if_neg (by decide), if_pos rfl]
    rw [show zHs b 149 = 0 from Nat.min_eq_right (Nat.zero_le _), Nat.pow_zero, Nat.mul_one, show FP.Core.fieldT FP.Core.b32 b = b from by
      show b % 8388608 = b
      omega]
    rfl
  · have hor : b % 2 ^ 23 ||| 8388608 = 2 ^ 23 + b % 2 ^ 23 := by
      have := Nat.two_pow_add_eq_or_of_lt (Nat.mod_lt b (Nat.two_pow_pos 23)) 1
      rw [Nat.mul_one] at this
      rw [this, Nat.or_comm]
    rw [if_neg he, hor]
    have hmx : max (b / 2 ^ 23) 1 = b / 2 ^ 23 := by omega
    rw [hmx]
    have hml := Nat.mod_lt b (Nat.two_pow_pos 23)
    have q := zH_all (m := 2 ^ 23 + b % 2 ^ 23) (by omega) (by omega) (150 - b / 2 ^ 23) (by omega)
    have hlog : (2 ^ 23 + b % 2 ^ 23).log2 = 23 := by
      have l1 : (2 ^ 23 + b % 2 ^ 23).log2 < 24 := (Nat.log2_lt (by omega)).mpr (by omega)
      have l2 : 23 ≤ (2 ^ 23 + b % 2 ^ 23).log2 := (Nat.le_log2 (by omega)).mpr (by omega)
      omega
    have hz : zHs (2 ^ 23 + b % 2 ^ 23) (150 - b / 2 ^ 23) = 0 := by unfold zHs; rw [hlog]; omega
    rw [hz, Nat.pow_zero, Nat.mul_one] at q
    refine FP.Core.val32_inj (by rw [q]; intro z; cases z) ?_
    rw [q, hv]
    unfold FP.Core.decode
    rw [hS, hfe, if_neg (by show ¬ b / 2 ^ 23 = 255; omega), if_neg he]
    show FP.Core.Datum.fin false (2 ^ 23 + b % 2 ^ 23) _ = .fin false (2 ^ 23 + b % 2 ^ 23) (-149 + (((b / 2 ^ 23 : Nat) : Int) - 1))
    exact congrArg _ (by omega)

/-! shades as the reference has them: -0.0f too -/
def rShv (v : Int32) : Prop := v = -2147483648 ∨ zFr (nI 0) v 1120403456 = true
theorem rShv_n {v : Int32} (h : rShv v) : v = -2147483648 ∨ ∃ n : Nat, n ≤ 1120403456 ∧ v = nI n := by
  rcases h with h | h
  · exact Or.inl h
  · refine Or.inr ?_
    unfold zFr at h
    rw [Bool.and_eq_true] at h
    have h1 : ¬ v < 0 := by
      intro q
      rw [show nI 0 = 0 from nI_0, decide_eq_true q] at h
      exact absurd h.1 (by decide)
    have h2 : ¬ (1120403456 : Int32) < v := by
      intro q
      rw [decide_eq_true q] at h
      exact absurd h.2 (by decide)
    obtain ⟨j, hj, rfl⟩ := nI_of h1
    refine ⟨j, ?_, rfl⟩
    rcases Nat.lt_or_ge 1120403456 j with q | q
    · exact absurd (nI_lt (a := 1120403456) q hj) h2
    · exact q
theorem fy_u {n : Nat} (h : n < 2 ^ 31) : (nI n).toUInt32.toNat = n := by
  show (UInt32.ofNat n).toNat = n
  exact UInt32.toNat_ofNat_of_lt' (by show n < 4294967296; omega)
theorem fy_m0 : (-2147483648 : Int32).toUInt32 = FP.Core.fzeroNeg := by decide
theorem fy_nz {x : UInt32} (h : x.toNat < 2139095040) : FP.Core.val32 x ≠ .nan := by
  obtain ⟨c, q, h1⟩ := fx_dec_fin h
  rw [show FP.Core.val32 x = _ from h1]
  intro z; cases z
theorem fy_pn {x : UInt32} (h : zPos x) : FP.Core.val32 x ≠ .nan := by
  rcases fx_val h with h | ⟨c, q, h⟩ <;> rw [h] <;> intro z <;> cases z
theorem fy_zn {x : UInt32} (h : zPos x) : x ≠ FP.Core.fzeroNeg := by
  rintro rfl
  exact absurd h (by unfold zPos; decide)
theorem fy_self {x : UInt32} (h : zPos x) : Op.cmpValue (FP.fcmp x x) .l = 0 := by
  rw [show FP.fcmp x x = some .eq from FP.Core.fcmp_self (fy_pn h)]
  rfl
/-- a shade's float as the class has it -/
theorem fy_fb {n : Nat} (h : n ≤ 1120403456) : zFb (nI n) = (nI n).toUInt32 := by
  unfold zFb
  rcases Nat.eq_zero_or_pos n with h0 | h0
  · subst h0
    decide
  · rw [if_pos (by rw [← nI_0]; exact nI_lt h0 (by omega)), nI_clamp (by omega), zFbN_eq h0 (by omega)]
    rfl
theorem fy_fb0 : zFb (-2147483648) = FP.fconst0 := by
  unfold zFb
  rw [if_neg (by decide)]
theorem fy_fin {v : Int32} (h : rShv v) : zFinS (zFb v) := by
  rcases rShv_n h with rfl | ⟨n, hn, rfl⟩
  · rw [fy_fb0]; exact zFinS_0
  · rw [fy_fb hn]
    unfold zFinS
    rw [fy_u (by omega)]
    exact hn
theorem fy_sn {v : Int32} (h : rShv v) : vn_sni2f v = false := by
  rcases rShv_n h with rfl | ⟨n, hn, rfl⟩
  · decide
  · unfold vn_sni2f
    rw [Bool.and_eq_false_iff]
    refine Or.inl (decide_eq_false ?_)
    intro q
    have q2 := UInt32.lt_iff_toNat_lt.mp q
    rw [UInt32.toNat_and, fy_u (by omega)] at q2
    have q3 : n &&& (0x7fffffff : UInt32).toNat ≤ n := Nat.and_le_left
    have q4 : (0x7f800000 : UInt32).toNat = 2139095040 := rfl
    omega
theorem fy_fin2 {v : Int32} (h : rShv v) : v.toUInt32 = zFb v ∨ (v.toUInt32 = FP.Core.fzeroNeg ∧ zFb v = FP.fconst0) := by
  rcases rShv_n h with rfl | ⟨n, hn, rfl⟩
  · exact Or.inr ⟨fy_m0, fy_fb0⟩
  · exact Or.inl (fy_fb hn).symm
theorem fy_finN {x : UInt32} (h : zFinS x) : FP.Core.val32 x ≠ .nan := fy_nz (Nat.lt_of_le_of_lt h (by decide))
theorem fy_fneg {x : UInt32} (h : FP.Core.val32 x ≠ .nan) : FP.fneg x = FP.Core.fneg x := by
  have hx := x.toNat_lt
  have e : (FP.fneg x).toNat = x.toNat ^^^ 2 ^ 31 := by
    show (x ^^^ 0x80000000).toNat = _
    rw [UInt32.toNat_xor]
    rfl
  have q : FP.Core.val32 (FP.fneg x) = FP.Core.negate (FP.Core.val32 x) := by
    refine FP.Core.val32_neg_bits ?_
    rcases Nat.lt_or_ge x.toNat (2 ^ 31) with h1 | h1
    · refine Or.inr ?_
      rw [e]
      have h2 := fx_xor (y := x.toNat) h1
      have h3 : ((2 ^ 31 + x.toNat) ^^^ 2 ^ 31) ^^^ 2 ^ 31 = x.toNat ^^^ 2 ^ 31 := by rw [h2]
      rw [Nat.xor_assoc, Nat.xor_self, Nat.xor_zero] at h3
      omega
    · refine Or.inl ?_
      rw [e]
      have h2 := fx_xor (y := x.toNat - 2 ^ 31) (by omega)
      rw [show 2 ^ 31 + (x.toNat - 2 ^ 31) = x.toNat by omega] at h2
      omega
  refine FP.Core.val32_inj (by rw [q]; exact FP.Core.negate_ne_nan h) ?_
  rw [q, FP.Core.val32_fneg]
theorem fy_negN {x : UInt32} (h : FP.Core.val32 x ≠ .nan) : FP.Core.val32 (FP.Core.fneg x) ≠ .nan := by
  rw [FP.Core.val32_fneg]
  exact FP.Core.negate_ne_nan h
/-- x - (-0) is x - 0, where x isn't -0 itself -/
theorem fy_sub0 {x : UInt32} (h : FP.Core.val32 x ≠ .nan) (hz : x ≠ FP.Core.fzeroNeg) : FP.fsub x FP.Core.fzeroNeg = FP.fsub x FP.fconst0 := by
  rw [show FP.fsub x FP.Core.fzeroNeg = FP.fadd x (FP.Core.fneg FP.Core.fzeroNeg) from FP.Core.fsub_eq _ _, show FP.fsub x FP.fconst0 = FP.fadd x (FP.Core.fneg FP.fconst0) from FP.Core.fsub_eq _ _, show FP.Core.fneg FP.Core.fzeroNeg = FP.fconst0 by decide +kernel, show FP.Core.fneg FP.fconst0 = FP.Core.fzeroNeg by decide +kernel]
  rw [show FP.fadd x FP.fconst0 = x from FP.Core.fadd_zero h hz, show FP.fadd x FP.Core.fzeroNeg = x from FP.Core.fadd_zeroNeg h]
/-- (-0) - y is 0 - y, where y isn't 0 itself -/
theorem fy_0sub {y : UInt32} (h : FP.Core.val32 y ≠ .nan) (hz : FP.Core.fneg y ≠ FP.Core.fzeroNeg) : FP.fsub FP.Core.fzeroNeg y = FP.Core.fneg y ∧ FP.fsub FP.fconst0 y = FP.Core.fneg y := by
  have hn := fy_negN h
  rw [show FP.fsub FP.Core.fzeroNeg y = FP.fadd FP.Core.fzeroNeg (FP.Core.fneg y) from FP.Core.fsub_eq _ _, show FP.fsub FP.fconst0 y = FP.fadd FP.fconst0 (FP.Core.fneg y) from FP.Core.fsub_eq _ _]
  rw [show FP.fadd FP.Core.fzeroNeg (FP.Core.fneg y) = FP.fadd (FP.Core.fneg y) FP.Core.fzeroNeg from FP.Core.fadd_comm _ _, show FP.fadd FP.fconst0 (FP.Core.fneg y) = FP.fadd (FP.Core.fneg y) FP.fconst0 from FP.Core.fadd_comm _ _]
  exact ⟨FP.Core.fadd_zeroNeg hn, FP.Core.fadd_zero hn hz⟩
theorem fy_neg_inj {y : UInt32} (hN : FP.Core.val32 y ≠ .nan) (h : FP.Core.fneg y = FP.Core.fzeroNeg) : y = FP.fconst0 := by
  have h2 := FP.Core.val32_fneg y
  rw [h, FP.Core.val32_fzeroNeg] at h2
  refine FP.Core.val32_inj hN ?_
  rw [show FP.Core.val32 FP.fconst0 = _ from FP.Core.val32_fconst0]
  cases q : FP.Core.val32 y with
  | nan => exact absurd q hN
  | inf s => rw [q] at h2; cases h2
  | fin s c e =>
    rw [q] at h2
    have h3 : FP.Core.Datum.fin true 0 FP.Core.b32.qmin = .fin (!s) c e := h2
    injection h3 with a1 a2 a3
    cases s
    · rw [← a2, ← a3]
    · cases a1
def rSz (f : UInt32) : UInt32 := if 0 < Op.cmpValue (FP.fcmp f FP.fconst0) .g then f else FP.fsub FP.fconst0 f
theorem fy_vf {x : UInt32} (h : FP.Core.val32 x ≠ .nan) : vf_n32 x := by
  have hs : FP.Core.val32 x ≠ .nan := h
  cases q : FP.Core.val32 x with
  | nan => exact absurd q h
  | inf s => exact (fx_of (s := s) (Or.inl q)).1
  | fin s c e => exact (fx_of (s := s) (Or.inr ⟨c, e, q⟩)).1
theorem fy_subN {x y : UInt32} (hx : zFinS x) (hy : zFinS y) : FP.Core.val32 (FP.fsub x y) ≠ .nan := by
  obtain ⟨c, q, h1⟩ := fx_dec_fin (n := x.toNat) (Nat.lt_of_le_of_lt hx (by decide))
  obtain ⟨d, r, h2⟩ := fx_dec_fin (n := y.toNat) (Nat.lt_of_le_of_lt hy (by decide))
  rw [FP.Core.val32_fsub, show FP.Core.val32 x = _ from h1, show FP.Core.val32 y = _ from h2]
  exact FP.Core.roundRatio_ne_nan _ _ _ _ _
/-- the reference's differences before their sign is looked at -/
theorem fy_cases {a b : Int32} (ha : rShv a) (hb : rShv b) : FP.fsub a.toUInt32 b.toUInt32 = FP.fsub (zFb a) (zFb b) ∨ (FP.fsub a.toUInt32 b.toUInt32 = FP.Core.fzeroNeg ∧ FP.fsub (zFb a) (zFb b) = FP.fconst0) := by
  have fa := fy_fin ha
  have fb := fy_fin hb
  have za : zFb a ≠ FP.Core.fzeroNeg := fy_zn fa.pos
  rcases fy_fin2 ha with h1 | ⟨h1, h1'⟩ <;> rcases fy_fin2 hb with h2 | ⟨h2, h2'⟩
  · rw [h1, h2]
    exact Or.inl rfl
  · rw [h1, h2, h2']
    exact Or.inl (fy_sub0 (fy_finN fa) za)
  · rw [h1, h2, h1']
    by_cases e : zFb b = FP.fconst0
    · rw [e]
      exact Or.inr ⟨by decide +kernel, by decide +kernel⟩
    · have q := fy_0sub (fy_finN fb) (fun z => e (fy_neg_inj (fy_finN fb) z))
      exact Or.inl (q.1.trans q.2.symm)
  · rw [h1, h2, h1', h2']
    exact Or.inl (by decide +kernel)
theorem fy_sub {a b : Int32} (ha : rShv a) (hb : rShv b) : vf_n32 (FP.fsub a.toUInt32 b.toUInt32) := by
  rcases fy_cases ha hb with h | ⟨h, -⟩
  · rw [h]
    exact fy_vf (fy_subN (fy_fin ha) (fy_fin hb))
  · rw [h]
    unfold vf_n32
    decide
theorem fy_0N {f : UInt32} (h : FP.Core.val32 f ≠ .nan) : FP.fsub FP.fconst0 f = FP.fneg f ∨ (f = FP.fconst0 ∧ FP.fsub FP.fconst0 f = FP.fconst0) := by
  by_cases e : f = FP.fconst0
  · exact Or.inr ⟨e, by rw [e]; decide +kernel⟩
  · exact Or.inl ((fy_0sub h (fun z => e (fy_neg_inj h z))).2.trans (fy_fneg h).symm)
theorem fy_neg {a b : Int32} (ha : rShv a) (hb : rShv b) : vf_n32 (FP.fsub FP.fconst0 (FP.fsub a.toUInt32 b.toUInt32)) := by
  have hN : FP.Core.val32 (FP.fsub a.toUInt32 b.toUInt32) ≠ .nan := by
    rcases fy_cases ha hb with h | ⟨h, -⟩
    · rw [h]
      exact fy_subN (fy_fin ha) (fy_fin hb)
    · rw [h]
      rw [FP.Core.val32_fzeroNeg]
      intro z; cases z
  rcases fy_0N hN with h | ⟨-, h⟩
  · rw [h, fy_fneg hN]
    exact fy_vf (fy_negN hN)
  · rw [h]
    unfold vf_n32
    decide
theorem fy_eq0 {f : UInt32} (hp : zPos f) (h : FP.fcmp f FP.fconst0 = some .eq) : f = FP.fconst0 := by
  have h2 : FP.Core.order (FP.Core.val32 f) (FP.Core.val32 FP.Core.fconst0) = some .eq := h
  rw [FP.Core.val32_fconst0] at h2
  have hfit := FP.Core.val32_fits f
  rcases fx_val hp with q | ⟨c, e, q⟩
  · rw [q] at h2; cases h2
  · rw [q] at h2 hfit
    have h3 : some (compare (FP.Core.signed false (FP.Core.inUnits c e (min e FP.Core.b32.qmin))) (FP.Core.signed false (FP.Core.inUnits 0 FP.Core.b32.qmin (min e FP.Core.b32.qmin)))) = some .eq := h2
    have h4 := Int.compare_eq_eq.mp (Option.some.inj h3)
    rw [show FP.Core.inUnits 0 FP.Core.b32.qmin (min e FP.Core.b32.qmin) = 0 from Nat.zero_mul _] at h4
    have h5 : ((FP.Core.inUnits c e (min e FP.Core.b32.qmin) : Nat) : Int) = 0 := h4
    have h6 : c = 0 := by
      rcases Nat.eq_zero_or_pos c with z | z
      · exact z
      · have : 0 < FP.Core.inUnits c e (min e FP.Core.b32.qmin) := Nat.mul_pos z (Nat.two_pow_pos _)
        omega
    subst h6
    have h7 := FP.Core.fits_zero_q FP.Core.good_b32 hfit
    refine FP.Core.val32_inj (fy_pn hp) ?_
    rw [q, h7]
    exact FP.Core.val32_fconst0.symm
theorem fy_rsz {x y : UInt32} (hx : zFinS x) (hy : zFinS y) : rSz (FP.fsub x y) = zDf x y := by
  have hp := fx_df hx hy
  have hN := fy_subN hx hy
  unfold rSz zDf at *
  cases hc : FP.fcmp (FP.fsub x y) FP.fconst0 with
  | none =>
    rcases (FP.Core.fcmp_none _ _).mp hc with z | z
    · exact absurd z hN
    · exact absurd z (by rw [show FP.Core.val32 FP.fconst0 = _ from FP.Core.val32_fconst0]; intro z; cases z)
  | some r =>
    rw [hc] at hp
    cases r with
    | lt =>
      rw [if_neg (show ¬ 0 < Op.cmpValue (some Ordering.lt) .g by decide), if_pos (show Op.cmpValue (some Ordering.lt) .g < 0 by decide)]
      rcases fy_0N hN with h | ⟨h, -⟩
      · exact h
      · rw [h] at hc
        exact absurd hc (by rw [show FP.fcmp FP.fconst0 FP.fconst0 = some .eq by decide +kernel]; decide)
    | eq =>
      rw [if_neg (show ¬ Op.cmpValue (some Ordering.eq) .g < 0 by decide)] at hp
      rw [if_neg (show ¬ 0 < Op.cmpValue (some Ordering.eq) .g by decide), if_neg (show ¬ Op.cmpValue (some Ordering.eq) .g < 0 by decide), fy_eq0 hp hc]
      decide +kernel
    | gt =>
      rw [if_pos (show 0 < Op.cmpValue (some Ordering.gt) .g by decide), if_neg (show ¬ Op.cmpValue (some Ordering.gt) .g < 0 by decide)]
theorem fy_size {a b : Int32} (ha : rShv a) (hb : rShv b) : rSz (FP.fsub a.toUInt32 b.toUInt32) = zDf (zFb a) (zFb b) := by
  have q := fy_rsz (fy_fin ha) (fy_fin hb)
  rcases fy_cases ha hb with h | ⟨h, h2⟩
  · rw [h]
    exact q
  · rw [h, ← q, h2]
    decide +kernel
theorem fy_add {x : UInt32} {v : Int32} (hx : zPos x) (hv : rShv v) : FP.fadd x v.toUInt32 = FP.fadd x (zFb v) := by
  rcases fy_fin2 hv with h | ⟨h, h2⟩
  · rw [h]
  · rw [h, h2, show FP.fadd x FP.Core.fzeroNeg = x from FP.Core.fadd_zeroNeg (fy_pn hx), show FP.fadd x FP.fconst0 = x from FP.Core.fadd_zero (fy_pn hx) (fy_zn hx)]
theorem fy_cmp {x : UInt32} {v : Int32} (_hx : zPos x) (hv : rShv v) : FP.fcmp x v.toUInt32 = FP.fcmp x (zFb v) := by
  rcases fy_fin2 hv with h | ⟨h, h2⟩
  · rw [h]
  · rw [h, h2]
    show FP.Core.order (FP.Core.val32 x) (FP.Core.val32 FP.Core.fzeroNeg) = FP.Core.order (FP.Core.val32 x) (FP.Core.val32 FP.Core.fconst0)
    rw [FP.Core.val32_fzeroNeg, FP.Core.val32_fconst0]
    cases FP.Core.val32 x with
    | nan => rfl
    | inf s => rfl
    | fin s c e =>
      show some (compare _ (FP.Core.signed true (FP.Core.inUnits 0 _ _))) = some (compare _ (FP.Core.signed false (FP.Core.inUnits 0 _ _)))
      rw [show FP.Core.inUnits 0 FP.Core.b32.qmin (min e FP.Core.b32.qmin) = 0 from Nat.zero_mul _]
      rfl
/-- all shades of the reference's lots are shades -/
def rShs (s : Nat → Int32) : Prop := ∀ l : Int32, (l = -1 ∨ ∃ j, j < 16 ∧ l = nI j) → rShv (s (rIx l 3))
def rAp (s : Nat → Int32) (l k : Int32) : UInt32 := zDf (zFb (s (rIx l 3))) (zFb (s (rIx k 3)))
theorem rAp_ok {s : Nat → Int32} (hsh : rShs s) {l k : Int32} (hl : l = -1 ∨ ∃ j, j < 16 ∧ l = nI j) (hk : k = -1 ∨ ∃ j, j < 16 ∧ k = nI j) : zPos (rAp s l k) := fx_df (fy_fin (hsh l hl)) (fy_fin (hsh k hk))
def rSm (s : Nat → Int32) (w c y b z d : Nat) : Bool := decide (z < w) && (decide (d < c) && (rW s y b == rW s z d && !(rY s y b == rY s z d)))
theorem rSm_z {s : Nat → Int32} {w c y b z d : Nat} (h : rSm s w c y b z d = true) : z < w := by
  unfold rSm at h
  rw [Bool.and_eq_true] at h
  exact of_decide_eq_true h.1
theorem rSm_d {s : Nat → Int32} {w c y b z d : Nat} (h : rSm s w c y b z d = true) : d < c := by
  unfold rSm at h
  rw [Bool.and_eq_true, Bool.and_eq_true] at h
  exact of_decide_eq_true h.2.1
def rSkS (s : Nat → Int32) (c w : Nat) (seen : Bool) (y b k : Nat) (q : Nat × UInt32) : Nat × UInt32 :=
  if rSm s w c y b (y + k) (b + 1 - k) then (q.1 + (if !seen || zGt (rAp s (rY s y b) (rY s (y + k) (b + 1 - k))) (zFb (s 5)) then 1 else 0), if zGt (rAp s (rY s y b) (rY s (y + k) (b + 1 - k))) q.2 then rAp s (rY s y b) (rY s (y + k) (b + 1 - k)) else q.2) else q
def rSk (s : Nat → Int32) (c w : Nat) (seen : Bool) (y b k : Nat) (q : Nat × UInt32) : Nat × UInt32 := zIt (rSkS s c w seen y b) k q
def rSb (s : Nat → Int32) (c w : Nat) (seen : Bool) (y b : Nat) (q : Nat × UInt32) : Nat × UInt32 := zIt (fun b q => rSk s c w seen y b 2 q) b q
def rSy (s : Nat → Int32) (c w : Nat) (seen : Bool) (y : Nat) (q : Nat × UInt32) : Nat × UInt32 := zIt (fun y q => rSb s c w seen y c q) y q
theorem rSk_f {s : Nat → Int32} {c w : Nat} {seen : Bool} {y b k : Nat} {q : Nat × UInt32} (h : rSm s w c y b (y + k) (b + 1 - k) = false) : rSk s c w seen y b (k + 1) q = rSk s c w seen y b k q := if_neg (by rw [h]; decide)
theorem rSk_t {s : Nat → Int32} {c w : Nat} {seen : Bool} {y b k : Nat} {q : Nat × UInt32} (h : rSm s w c y b (y + k) (b + 1 - k) = true) : rSk s c w seen y b (k + 1) q = ((rSk s c w seen y b k q).1 + (if !seen || zGt (rAp s (rY s y b) (rY s (y + k) (b + 1 - k))) (zFb (s 5)) then 1 else 0), if zGt (rAp s (rY s y b) (rY s (y + k) (b + 1 - k))) (rSk s c w seen y b k q).2 then rAp s (rY s y b) (rY s (y + k) (b + 1 - k)) else (rSk s c w seen y b k q).2) := if_pos h
theorem rSk_n {s : Nat → Int32} {c w : Nat} {seen : Bool} {y b : Nat} {q : Nat × UInt32} : ∀ k, (rSk s c w seen y b k q).1 ≤ q.1 + k
  | 0 => Nat.le_refl _
  | k + 1 => by
    have := rSk_n (s := s) (c := c) (w := w) (seen := seen) (y := y) (b := b) (q := q) k
    cases h : rSm s w c y b (y + k) (b + 1 - k)
    · rw [rSk_f h]; omega
    · rw [rSk_t h]
      show _ + (if _ then 1 else 0) ≤ _
      split <;> omega
theorem rSb_n {s : Nat → Int32} {c w : Nat} {seen : Bool} {y : Nat} {q : Nat × UInt32} : ∀ b, (rSb s c w seen y b q).1 ≤ q.1 + 2 * b
  | 0 => Nat.le_refl _
  | b + 1 => by
    have h1 := rSb_n (s := s) (c := c) (w := w) (seen := seen) (y := y) (q := q) b
    have h2 := rSk_n (s := s) (c := c) (w := w) (seen := seen) (y := y) (b := b) (q := rSb s c w seen y b q) 2
    show (rSk s c w seen y b 2 (rSb s c w seen y b q)).1 ≤ _
    omega
theorem rSy_n9 {s : Nat → Int32} {c w : Nat} {seen : Bool} {q : Nat × UInt32} : ∀ y, (rSy s c w seen y q).1 ≤ q.1 + 2 * c * y
  | 0 => Nat.le_refl _
  | y + 1 => by
    have h1 := rSy_n9 (s := s) (c := c) (w := w) (seen := seen) (q := q) y
    have h2 := rSb_n (s := s) (c := c) (w := w) (seen := seen) (y := y) (q := rSy s c w seen y q) c
    show (rSb s c w seen y c (rSy s c w seen y q)).1 ≤ _
    rw [Nat.mul_succ]
    omega
theorem rSy_n {s : Nat → Int32} {c : Nat} {seen : Bool} {x : UInt32} (w : Nat) : (rSy s c w seen w (0, x)).1 ≤ 2 * c * w := by
  have h : (rSy s c w seen w (0, x)).1 ≤ 0 + 2 * c * w := rSy_n9 w
  omega
theorem rSk_ok {s : Nat → Int32} {c w : Nat} {seen : Bool} (hsh : rShs s) (hY : ∀ y b, y < w → b < c → rY s y b = -1 ∨ ∃ j, j < 16 ∧ rY s y b = nI j) {y b : Nat} (hy : y < w) (hb : b < c) {q : Nat × UInt32} (hq : zPos q.2) : ∀ k, zPos (rSk s c w seen y b k q).2
  | 0 => hq
  | k + 1 => by
    have ih := rSk_ok (seen := seen) hsh hY hy hb hq k
    cases h : rSm s w c y b (y + k) (b + 1 - k)
    · rw [rSk_f h]; exact ih
    · rw [rSk_t h]
      show zPos (if _ then _ else _)
      split
      · exact rAp_ok hsh (hY _ _ hy hb) (hY _ _ (rSm_z h) (rSm_d h))
      · exact ih
theorem rSb_ok {s : Nat → Int32} {c w : Nat} {seen : Bool} (hsh : rShs s) (hY : ∀ y b, y < w → b < c → rY s y b = -1 ∨ ∃ j, j < 16 ∧ rY s y b = nI j) {y : Nat} (hy : y < w) {q : Nat × UInt32} (hq : zPos q.2) : ∀ b, b ≤ c → zPos (rSb s c w seen y b q).2
  | 0, _ => hq
  | b + 1, h => rSk_ok hsh hY hy (by omega) (rSb_ok hsh hY hy hq b (by omega)) 2
theorem rSy_ok {s : Nat → Int32} {c w : Nat} {seen : Bool} (hsh : rShs s) (hY : ∀ y b, y < w → b < c → rY s y b = -1 ∨ ∃ j, j < 16 ∧ rY s y b = nI j) : ∀ {y : Nat}, y ≤ w → zPos (rSy s c w seen y (0, FP.fconst0)).2
  | 0, _ => zPos_0
  | _ + 1, h => rSb_ok hsh hY (by omega) (rSy_ok hsh hY (by omega)) c (Nat.le_refl _)
def rMb (s : Nat → Int32) (c w : Nat) (v : Int32) (y b : Nat) (x : UInt32) : UInt32 := zIt (fun b x => if rW s y b = v then FP.fadd x (zFb (s (rIx (rY s y b) 3))) else x) b x
def rMy (s : Nat → Int32) (c w : Nat) (v : Int32) (y : Nat) (x : UInt32) : UInt32 := zIt (fun y x => rMb s c w v y c x) y x
def rMe (s : Nat → Int32) (c w : Nat) (v : Int32) : UInt32 := if zSN (fun y => zCt (fun b => rW s y b == v) c) w = 0 then FP.fconst0 else FP.fdiv (rMy s c w v w FP.fconst0) (FP.i2f (nI (zSN (fun y => zCt (fun b => rW s y b == v) c) w)))
theorem rMb_t {s : Nat → Int32} {c w : Nat} {v : Int32} {y b : Nat} {x : UInt32} (h : rW s y b = v) : rMb s c w v y (b + 1) x = FP.fadd (rMb s c w v y b x) (zFb (s (rIx (rY s y b) 3))) := if_pos h
theorem rMb_f {s : Nat → Int32} {c w : Nat} {v : Int32} {y b : Nat} {x : UInt32} (h : ¬ rW s y b = v) : rMb s c w v y (b + 1) x = rMb s c w v y b x := if_neg h
theorem rMb_pos {s : Nat → Int32} {c w : Nat} {v : Int32} (hsh : rShs s) (hY : ∀ y b, y < w → b < c → rY s y b = -1 ∨ ∃ j, j < 16 ∧ rY s y b = nI j) {y : Nat} (hy : y < w) {x : UInt32} (hx : zPos x) : ∀ b, b ≤ c → zPos (rMb s c w v y b x)
  | 0, _ => hx
  | b + 1, h => by
    have ih := rMb_pos (v := v) hsh hY hy hx b (by omega)
    by_cases e : rW s y b = v
    · rw [rMb_t e]
      exact (fp_add ih (fy_fin (hsh _ (hY y b hy (by omega)))).pos).2
    · rw [rMb_f e]
      exact ih
theorem rMy_ok {s : Nat → Int32} {c w : Nat} {v : Int32} (hsh : rShs s) (hY : ∀ y b, y < w → b < c → rY s y b = -1 ∨ ∃ j, j < 16 ∧ rY s y b = nI j) : ∀ {y : Nat}, y ≤ w → zPos (rMy s c w v y FP.fconst0)
  | 0, _ => zPos_0
  | y + 1, h => rMb_pos hsh hY (by omega) (rMy_ok hsh hY (y := y) (by omega)) c (Nat.le_refl _)
theorem rMb_ok {s : Nat → Int32} {c w : Nat} {v : Int32} (hsh : rShs s) (hY : ∀ y b, y < w → b < c → rY s y b = -1 ∨ ∃ j, j < 16 ∧ rY s y b = nI j) {y b : Nat} (hy : y < w) (hb : b ≤ c) : zPos (rMb s c w v y b (rMy s c w v y FP.fconst0)) := rMb_pos hsh hY hy (rMy_ok hsh hY (by omega)) b hb
theorem rMs_add {s : Nat → Int32} (hsh : rShs s) {l : Int32} (hl : l = -1 ∨ ∃ j, j < 16 ∧ l = nI j) {x : UInt32} (hx : zPos x) : vf_n32 (FP.fadd x (s (rIx l 3)).toUInt32) ∧ FP.fadd x (s (rIx l 3)).toUInt32 = FP.fadd x (zFb (s (rIx l 3))) := by
  rw [fy_add hx (hsh l hl)]
  exact ⟨(fp_add hx (fy_fin (hsh l hl)).pos).1, rfl⟩
theorem rMn_le {s : Nat → Int32} {c : Nat} {v : Int32} (hc : c ≤ 20) : ∀ {y : Nat}, y ≤ 16 → zSN (fun y => zCt (fun b => rW s y b == v) c) y ≤ 320 := by
  have h : ∀ y, zSN (fun y => zCt (fun b => rW s y b == v) c) y ≤ 20 * y := by
    intro y
    induction y with
    | zero => exact Nat.le_refl _
    | succ y ih =>
      have h2 := zCt_le (fun b => rW s y b == v) c
      show zSN _ y + zCt _ c ≤ _
      omega
  intro y hy
  have := h y
  omega
theorem rMe_ok {s : Nat → Int32} {c w : Nat} {v : Int32} (hsh : rShs s) (hY : ∀ y b, y < w → b < c → rY s y b = -1 ∨ ∃ j, j < 16 ∧ rY s y b = nI j) (hc : c ≤ 20) (hw : w ≤ 16) : zPos (rMe s c w v) := by
  unfold rMe
  split
  · exact zPos_0
  · rename_i h
    have := rMn_le (s := s) (v := v) hc hw
    exact (fp_div (rMy_ok hsh hY (Nat.le_refl _)) (Nat.pos_of_ne_zero h) (by omega)).2
def rCb (s : Nat → Int32) (y b : Nat) (x : UInt32) : UInt32 := zIt (fun b x => FP.fadd x (rAp s (rY s y b) (rY s y (b + 1)))) b x
def rCn (s : Nat → Int32) (c y : Nat) : UInt32 := if c = 1 then FP.fconst0 else FP.fdiv (rCb s y (c - 1) FP.fconst0) (FP.i2f (nI (c - 1)))
theorem rCb_ok {s : Nat → Int32} {c w y : Nat} (hsh : rShs s) (hY : ∀ y b, y < w → b < c → rY s y b = -1 ∨ ∃ j, j < 16 ∧ rY s y b = nI j) (hy : y < w) : ∀ {b : Nat}, b + 1 ≤ c → zPos (rCb s y b FP.fconst0)
  | 0, _ => zPos_0
  | b + 1, h => (fp_add (rCb_ok hsh hY hy (b := b) (by omega)) (rAp_ok hsh (hY y b hy (by omega)) (hY y (b + 1) hy (by omega)))).2
theorem rCn_ok {s : Nat → Int32} {c w y : Nat} (hsh : rShs s) (hY : ∀ y b, y < w → b < c → rY s y b = -1 ∨ ∃ j, j < 16 ∧ rY s y b = nI j) (hc : c ≤ 20) (hy : y < w) (hc1 : 1 ≤ c) : zPos (rCn s c y) := by
  unfold rCn
  split
  · exact zPos_0
  · exact (fp_div (rCb_ok hsh hY hy (by omega)) (by omega) (by omega)).2
theorem i32_inj {a b : Int32} (h : a.toUInt32 = b.toUInt32) : a = b := by
  cases a
  cases b
  exact congrArg Int32.ofUInt32 h
theorem fy_and (v : Int32) : v &&& 2147483647 = nI (v.toUInt32.toNat % 2 ^ 31) := by
  refine i32_inj (UInt32.toNat_inj.mp ?_)
  rw [Int32.toUInt32_and, UInt32.toNat_and, fy_u (Nat.mod_lt _ (by decide))]
  show v.toUInt32.toNat &&& (2 ^ 31 - 1) = _
  rw [Nat.and_two_pow_sub_one_eq_mod]
/-- a shade, as the class tests it -/
def rShd (v : Int32) : Bool := (v == -2147483648) || zFr (nI 0) v 1120403456
theorem rShd_v {v : Int32} : rShd v = true ↔ rShv v := by
  unfold rShd rShv
  rw [Bool.or_eq_true, beq_iff_eq]
theorem fy_bits (v : Int32) : (v.toUInt32.toNat < 2 ^ 31 ∧ v = nI v.toUInt32.toNat) ∨ (2 ^ 31 ≤ v.toUInt32.toNat ∧ v < 0) := by
  rcases Nat.lt_or_ge v.toUInt32.toNat (2 ^ 31) with h | h
  · exact Or.inl ⟨h, i32_inj (UInt32.toNat_inj.mp (fy_u h).symm)⟩
  · refine Or.inr ⟨h, ?_⟩
    refine Decidable.byContradiction fun q => ?_
    obtain ⟨j, hj, e⟩ := nI_of q
    rw [e, fy_u hj] at h
    omega
theorem fy_le {v : Int32} (h : v &&& 2147483647 ≤ 2139095040) : v.toUInt32.toNat % 2 ^ 31 ≤ 2139095040 := by
  rw [fy_and] at h
  exact (nI_leI (b := 2139095040) (Nat.mod_lt _ (by decide)) (by decide)).mp h
theorem fy_nle {v : Int32} (h : ¬ v &&& 2147483647 ≤ 2139095040) : 2139095040 < v.toUInt32.toNat % 2 ^ 31 := by
  rw [fy_and] at h
  exact Nat.lt_of_not_le fun q => h ((nI_leI (b := 2139095040) (Nat.mod_lt _ (by decide)) (by decide)).mpr q)
theorem fy_zfr {n : Nat} (h : n < 2 ^ 31) : zFr (nI 0) (nI n) 1120403456 = decide (n ≤ 1120403456) := by
  unfold zFr
  rw [show nI 0 = 0 from nI_0, decide_eq_false (nI_pos h), show (1120403456 : Int32) = nI 1120403456 by decide]
  by_cases q : n ≤ 1120403456
  · rw [decide_eq_false (nI_nlt (b := n) (a := 1120403456) q (by decide)), decide_eq_true q]; rfl
  · rw [decide_eq_true (nI_lt (a := 1120403456) (b := n) (by omega) h), decide_eq_false q]; rfl
theorem fy_zfr2 {v : Int32} (h : v < 0) : zFr (nI 0) v 1120403456 = false := by
  unfold zFr
  rw [show nI 0 = 0 from nI_0, decide_eq_true h]
  rfl
theorem fy_beq {n : Nat} (h : n < 2 ^ 31) : (nI n == (-2147483648 : Int32)) = false := beq_eq_false_iff_ne.mpr fun e => nI_pos h (by rw [e]; decide)
theorem fy_beq2 {v : Int32} : (v == (-2147483648 : Int32)) = decide (v.toUInt32.toNat = 2 ^ 31) := by
  by_cases h : v.toUInt32.toNat = 2 ^ 31
  · rw [decide_eq_true h]
    exact beq_iff_eq.mpr (i32_inj (UInt32.toNat_inj.mp (h.trans (by decide))))
  · rw [decide_eq_false h]
    exact beq_eq_false_iff_ne.mpr fun e => h (by rw [e]; decide)
theorem fy_sh0 {v : Int32} (h : ¬ v &&& 2147483647 ≤ 2139095040) : rShd v = false := by
  have h1 := fy_nle h
  unfold rShd
  rcases fy_bits v with ⟨h2, h3⟩ | ⟨h2, h3⟩
  · rw [h3, fy_beq h2, fy_zfr h2, decide_eq_false (by omega)]
    rfl
  · rw [fy_beq2, fy_zfr2 h3, decide_eq_false (by omega)]
    rfl
theorem fy_sn2 {v : Int32} (h : v &&& 2147483647 ≤ 2139095040) : vn_sni2f v = false := by
  have h1 := fy_le h
  unfold vn_sni2f
  rw [Bool.and_eq_false_iff]
  refine Or.inl (decide_eq_false ?_)
  intro q
  have q2 := UInt32.lt_iff_toNat_lt.mp q
  rw [UInt32.toNat_and, show (0x7fffffff : UInt32).toNat = 2 ^ 31 - 1 from rfl, Nat.and_two_pow_sub_one_eq_mod] at q2
  have q4 : (0x7f800000 : UInt32).toNat = 2139095040 := rfl
  omega
theorem fy_key {x : UInt32} (h : x.toNat % 2 ^ 31 ≤ 2139095040) {y : UInt32} (hy : y.toNat ≤ 1120403456) : FP.fcmp x y = some (compare (if x.toNat < 2 ^ 31 then (x.toNat : Int) else -((x.toNat - 2 ^ 31 : Nat) : Int)) (y.toNat : Int)) := by
  have hk := FP.Core.cmp_key FP.Core.good_b32 (m := x.toNat) (n := y.toNat) (FP.Core.lt_full32 x) (FP.Core.lt_full32 y) ((FP.Core.ne_nan32 x).mpr h) ((FP.Core.ne_nan32 y).mpr (by omega))
  have h2 : FP.fcmp x y = FP.Core.cmp FP.Core.b32 x.toNat y.toNat := rfl
  rw [h2, hk]
  unfold FP.Core.key FP.Core.mag
  rw [FP.Core.half_b32, decide_eq_false (show ¬ 2 ^ 31 ≤ y.toNat by omega), show y.toNat % 2 ^ 31 = y.toNat by omega]
  rcases Nat.lt_or_ge x.toNat (2 ^ 31) with q | q
  · rw [if_pos q, decide_eq_false (by omega), show x.toNat % 2 ^ 31 = x.toNat by omega]
    simp only [FP.Core.signed, Bool.false_eq_true, if_false]
  · rw [if_neg (by omega), decide_eq_true q, show x.toNat % 2 ^ 31 = x.toNat - 2 ^ 31 by have := x.toNat_lt; omega]
    simp only [FP.Core.signed, Bool.false_eq_true, if_false, if_true]
theorem fy_sh {v : Int32} (h : v &&& 2147483647 ≤ 2139095040) : rShd v = (decide (¬ Op.cmpValue (FP.fcmp v.toUInt32 FP.fconst0) .l < 0) && decide (¬ 0 < Op.cmpValue (FP.fcmp v.toUInt32 1120403456) .g)) := by
  have h1 := fy_le h
  rw [fy_key h1 (y := FP.fconst0) (by decide), fy_key h1 (y := 1120403456) (by decide), show (FP.fconst0 : UInt32).toNat = 0 from rfl, show (1120403456 : UInt32).toNat = 1120403456 from rfl]
  unfold rShd
  rw [fy_beq2]
  rcases fy_bits v with ⟨h2, h3⟩ | ⟨h2, h3⟩
  · rw [if_pos h2, decide_eq_false (by omega), show zFr (nI 0) v 1120403456 = decide (v.toUInt32.toNat ≤ 1120403456) by rw [h3]; rw [← h3]; exact (congrArg (fun z => zFr (nI 0) z 1120403456) h3).trans (fy_zfr h2)]
    generalize v.toUInt32.toNat = m at *
    have a1 : ¬ Op.cmpValue (some (compare (m : Int) ((0 : Nat) : Int))) .l < 0 := by
      rcases Nat.eq_zero_or_pos m with z | z
      · subst z; decide
      · rw [show compare (m : Int) ((0 : Nat) : Int) = .gt from Int.compare_eq_gt.mpr (by omega)]; decide
    rw [decide_eq_true a1]
    by_cases q : m ≤ 1120403456
    · rw [decide_eq_true q]
      have a2 : ¬ 0 < Op.cmpValue (some (compare (m : Int) ((1120403456 : Nat) : Int))) .g := by
        rcases Nat.lt_or_ge m 1120403456 with z | z
        · rw [show compare (m : Int) ((1120403456 : Nat) : Int) = .lt from Int.compare_eq_lt.mpr (by omega)]; decide
        · rw [show compare (m : Int) ((1120403456 : Nat) : Int) = .eq from Int.compare_eq_eq.mpr (by omega)]; decide
      rw [decide_eq_true a2]
      rfl
    · rw [decide_eq_false q]
      have a2 : 0 < Op.cmpValue (some (compare (m : Int) ((1120403456 : Nat) : Int))) .g := by
        rw [show compare (m : Int) ((1120403456 : Nat) : Int) = .gt from Int.compare_eq_gt.mpr (by omega)]; decide
      rw [decide_eq_false (fun z => z a2)]
      rfl
  · rw [if_neg (by omega), fy_zfr2 h3]
    generalize v.toUInt32.toNat = m at *
    have a2 : ¬ 0 < Op.cmpValue (some (compare (-((m - 2 ^ 31 : Nat) : Int)) ((1120403456 : Nat) : Int))) .g := by
      rw [show compare (-((m - 2 ^ 31 : Nat) : Int)) ((1120403456 : Nat) : Int) = .lt from Int.compare_eq_lt.mpr (by omega)]; decide
    rw [decide_eq_true a2]
    by_cases q : m = 2 ^ 31
    · rw [decide_eq_true q, q]
      decide
    · rw [decide_eq_false q]
      have a1 : Op.cmpValue (some (compare (-((m - 2 ^ 31 : Nat) : Int)) ((0 : Nat) : Int))) .l < 0 := by
        rw [show compare (-((m - 2 ^ 31 : Nat) : Int)) ((0 : Nat) : Int) = .lt from Int.compare_eq_lt.mpr (by omega)]; decide
      rw [decide_eq_false (fun z => z a1)]
      rfl
theorem fy_sA {v : Int32} (h : v &&& 2147483647 ≤ 2139095040) (h1 : Op.cmpValue (FP.fcmp v.toUInt32 FP.fconst0) .l < 0) : nI 0 = zB (rShd v) := by
  rw [fy_sh h, decide_eq_false (fun q => q h1)]
  rfl
theorem fy_sB {v : Int32} (h : v &&& 2147483647 ≤ 2139095040) (h1 : ¬ Op.cmpValue (FP.fcmp v.toUInt32 FP.fconst0) .l < 0) (h2 : 0 < Op.cmpValue (FP.fcmp v.toUInt32 1120403456) .g) : nI 0 = zB (rShd v) := by
  rw [fy_sh h, decide_eq_true h1, decide_eq_false (fun q => q h2)]
  rfl
theorem fy_sC {v : Int32} (h : v &&& 2147483647 ≤ 2139095040) (h1 : ¬ Op.cmpValue (FP.fcmp v.toUInt32 FP.fconst0) .l < 0) (h2 : ¬ 0 < Op.cmpValue (FP.fcmp v.toUInt32 1120403456) .g) : nI 1 = zB (rShd v) := by
  rw [fy_sh h, decide_eq_true h1, decide_eq_true h2]
  rfl
/-- a method of a class with natives, that is none itself -/
theorem vy_ofW {l : Launch} {y : MethodName} {ws ws' : List Cond} {rm : Room} {Pc : Array Value → State → Prop} {Qc : Array Value → State → Outcome → State → Prop} {XC : String → State → State → Prop} {mc ms : Nat} {free : Addr → Prop} {cc : ByteArray} {maxL : Nat} {ret : Option FieldType}
    (hy : plainFor y = true) (hw : ws = Cond.code y cc maxL ret :: ws')
    (body : ∀ p e s m args below meth c s₁, BodyLoose p l y (headSpec ws rm) cc maxL ret e s m args below meth c s₁ → c.maxLocals = maxL → (∀ x ∈ c.exceptionTable.toList, False) → Pc args s →
      W p l e (headSpec ws rm).room s m args below meth c s.heap [] 0 0 (vx_MQ below Qc XC args s mc ms free) (entryFrame m args maxL)) : vx_Met l y ws rm Pc Qc XC mc ms free := by
  refine MetFree.of_bodySF (code := cc) (maxLocals := maxL) (ret := ret) hy ?_ ?_
  · intro args s m h hn
    obtain ⟨meth, c, h1, h2, h3, h4, h5, h6, -, -⟩ := Cond.code_spec hn (atoms_spec (ws := ws) h _ (by rw [hw]; exact List.mem_cons_self))
    exact ⟨meth, c, h1, h2, h3, h4, h5, h6⟩
  · intro p e s m args below meth c s₁ B hml hP _
    have hh0 : s₁.heap = s.heap := by rw [B.state]; rfl
    have ht : ∀ x ∈ c.exceptionTable.toList, False := by
      obtain ⟨meth9, c9, h1, h2, -, -, -, -, h7, -⟩ := Cond.code_spec B.named (atoms_spec (ws := ws) B.pre _ (by rw [hw]; exact List.mem_cons_self))
      cases Option.some.inj (h1.symm.trans B.method)
      cases Option.some.inj (h2.symm.trans (Stand.of_body B).code)
      intro x hx
      rw [Array.isEmpty_iff.mp h7] at hx
      cases hx
    obtain ⟨t, a1, o, b1, b2, b3⟩ := body p e s m args below meth c s₁ B hml ht hP s₁ hh0 (Stand.of_body B)
    exact ⟨t, o, a1, b1, b2, b3⟩
theorem zRun_ofF {G : zT} {M : zN} {mc ms : Nat} {av : List Value} {h h' : zH} {o : zO} (hy : plainFor (mY M) = true) (hO : (mY M).cls = mO M) (hh : mH M = []) (hn : (lg_sl av).length ≤ mN M)
    (k : zPW G M mc ms o h' 0 0 0 (lv_args 0 av) [] h) : zRun G M mc ms av h o h' := by
  intro sz
  refine vy_ofW (cc := mC M) (maxL := mN M) (ret := mR M) (ws' := zG) hy (by unfold zWs; rw [if_pos hh]) ?_
  intro p e s m args below meth c s₁ B hml ht hv
  obtain ⟨rfl, hsz, hK, hKh, hP, hD0, hal⟩ := hv
  subst hsz
  have hts := atoms_spec (ws := zWs M) B.pre
  have hS : va_S (va_A (zWd G h) s.heap.size) s.heap s.heap [] := va_S.rf
  have hl := lv_entry (av.map (zv (zAd G))) (n := mN M) (by rw [zl_slen]; exact hn)
  rw [zl_args] at hl
  rw [lg_entry_eq]
  exact k p e s m _ below meth c _ s.heap [] _ ⟨B.exec, B.bytes, hml, B.returns, B.notSynchronized, by rw [← hO]; exact findClass_of_methodNamed B.named, fun w hw => hts w (List.mem_cons_of_mem _ hw), hK, hKh, fun q hq => Or.inr hq, (name_of_methodNamed B.named B.method).1, by rw [hh]; exact zTab ht⟩ ⟨hP, hD0.self, hS, fun z => hal z⟩ hl

set_option maxHeartbeats 4000000 in
set_option maxRecDepth 100000 in
theorem m_isNaN {G : zT} {S : zS} {X : zXr} {Y : zYr} {out : Nat → Int64} (hG : zAl G = false) (x : UInt32) (hx : zPos x) : zRun G mJxf58ca_isNaN_12338 0 0 [.float x] (zHp S X Y out) (.inr (some (.int (nI 0)))) (zHp S X Y out) := by
  refine zRun_ofF (by decide +kernel) rfl rfl (Nat.le_of_ble_eq_true rfl) ?_
  suffices hs : ∀ (o9 : zO) (h9 : zH), (Sum.inr (some (.int (nI 0))) : zO) = o9 → (zHp S X Y out) = h9 → zPW G mJxf58ca_isNaN_12338 0 0 o9 h9 0 0 0 [(0, .float x)] [] (zHp S X Y out) from hs _ _ rfl rfl
  intro o9 h9 ho9 hh9
  refine z_fload_n 0 dJxf58ca_isNaN_12338_0 rfl rfl ?_
  refine z_fload_n 0 dJxf58ca_isNaN_12338_1 rfl rfl ?_
  refine z_fcmp dJxf58ca_isNaN_12338_2 ?_
  refine z_top (v2 := .int (nI 0)) (by rw [fy_self hx]; rfl) ?_
  refine z_if_eq (tgt := 10) dJxf58ca_isNaN_12338_3 (by decide) (fun c_3 => ?_) (fun c_3 => ?_)
  · skip
    have f_3 := m_z_eq_t (by omega) c_3
    refine z_iconst (v := nI 0) dJxf58ca_isNaN_12338_10 (by decide) ?_
    exact z_zret rfl (by decide) dJxf58ca_isNaN_12338_11 (zo_i ho9 (by rfl)) (zo_h hh9 (by rfl)) (Nat.zero_le _) (Nat.zero_le _)
  · exfalso; revert c_3; decide

set_option maxHeartbeats 4000000 in
set_option maxRecDepth 100000 in
theorem m_f2ib {G : zT} {S : zS} {X : zXr} {Y : zYr} {out : Nat → Int64} (hG : zAl G = false) (x : UInt32) (hx : zPos x) : zRun G mJxf58ca_floatToIntBits_5c35a 0 0 [.float x] (zHp S X Y out) (.inr (some (.int (x.toInt32)))) (zHp S X Y out) := by
  refine zRun_ofF (by decide +kernel) rfl rfl (Nat.le_of_ble_eq_true rfl) ?_
  suffices hs : ∀ (o9 : zO) (h9 : zH), (Sum.inr (some (.int (x.toInt32))) : zO) = o9 → (zHp S X Y out) = h9 → zPW G mJxf58ca_floatToIntBits_5c35a 0 0 o9 h9 0 0 0 [(0, .float x)] [] (zHp S X Y out) from hs _ _ rfl rfl
  intro o9 h9 ho9 hh9
  refine z_fload_n 0 dJxf58ca_floatToIntBits_5c35a_0 rfl rfl ?_
  refine z_callS (N := mJxf58ca_isNaN_12338) 1 [.float x] [] lJxf58ca_isNaN_12338 ⟨zw_1171, zw_1172⟩ rfl rfl rfl (Nat.le_of_ble_eq_true rfl) (by decide) ⟨zlt, zlt⟩ hG ⟨Nat.zero_le _, Nat.zero_le _⟩ (m_isNaN hG x hx) dJxf58ca_floatToIntBits_5c35a_1 ?_
  refine z_if_ne (tgt := 12) dJxf58ca_floatToIntBits_5c35a_4 (by decide) (fun c_4 => ?_) (fun c_4 => ?_)
  · exfalso; revert c_4; decide
  · skip
    have f_4 := m_z_ne_f (by omega) c_4
    refine z_fload_n 0 dJxf58ca_floatToIntBits_5c35a_7 rfl rfl ?_
    refine z_floatToRawIntBits zw_1174 (by decide) (Nat.le_of_ble_eq_true rfl) dJxf58ca_floatToIntBits_5c35a_8 ?_
    exact z_iret rfl dJxf58ca_floatToIntBits_5c35a_11 (zo_i ho9 (by rfl)) (zo_h hh9 (by rfl)) (Nat.zero_le _) (Nat.zero_le _)

set_option maxHeartbeats 4000000 in
set_option maxRecDepth 100000 in
theorem m_isShade {G : zT} {S : zS} {X : zXr} {Y : zYr} {out : Nat → Int64} (hG : zAl G = false) (v : Int32) : zRun G mX10_isShade 0 0 [.int v] (zHp S X Y out) (.inr (some (.int (zB (rShd v))))) (zHp S X Y out) := by
  refine zRun_of (by decide +kernel) rfl rfl (Nat.le_of_ble_eq_true rfl) ?_
  suffices hs : ∀ (o9 : zO) (h9 : zH), (Sum.inr (some (.int (zB (rShd v)))) : zO) = o9 → (zHp S X Y out) = h9 → zPW G mX10_isShade 0 0 o9 h9 0 0 0 [(0, .int v)] [] (zHp S X Y out) from hs _ _ rfl rfl
  intro o9 h9 ho9 hh9
  refine z_iload_n 0 dX10_isShade_0 rfl rfl ?_
  refine z_ldc zw_1294 dX10_isShade_1 ?_
  refine z_iand dX10_isShade_3 ?_
  refine z_ldc zw_1295 dX10_isShade_4 ?_
  refine z_icmp_le (tgt := 11) dX10_isShade_6 (by decide) (fun c_6 => ?_) (fun c_6 => ?_)
  · skip
    refine z_iload_n 0 dX10_isShade_11 rfl rfl ?_
    refine z_intBitsToFloat zw_1296 (by decide) (Nat.le_of_ble_eq_true rfl) (by exact fy_sn2 c_6) dX10_isShade_12 ?_
    refine z_fstore_n (lv' := [(1, .float (v.toUInt32)), (0, .int v)]) dX10_isShade_15 rfl (by decide) rfl ?_
    have J34_15 : zPW G mX10_isShade 0 0 o9 h9 0 0 34 [(1, .float (v.toUInt32)), (0, .int v)] [.int (zB (rShd v))] (zHp S X Y out) := by
      exact z_zret rfl (by exact zB_n _) dX10_isShade_34 (zo_i ho9 (by rfl)) (zo_h hh9 (by rfl)) (Nat.zero_le _) (Nat.zero_le _)
    refine z_fload_n 0 dX10_isShade_16 rfl rfl ?_
    refine z_fconst0 dX10_isShade_17 ?_
    refine z_fcmp dX10_isShade_18 ?_
    refine z_if_lt (tgt := 33) dX10_isShade_19 (by decide) (fun c_19 => ?_) (fun c_19 => ?_)
    · skip
      refine z_iconst (v := nI 0) dX10_isShade_33 (by decide) ?_
      refine z_top (v2 := .int (zB (rShd v))) (by first | exact congrArg Value.int (fy_sC c_6 c_19 c_26) | exact congrArg Value.int (fy_sB c_6 c_19 c_26) | exact congrArg Value.int (fy_sA c_6 c_19)) ?_
      exact J34_15
    · skip
      refine z_fload_n 0 dX10_isShade_22 rfl rfl ?_
      refine z_ldcf zw_1299 dX10_isShade_23 ?_
      refine z_fcmp dX10_isShade_25 ?_
      refine z_if_gt (tgt := 33) dX10_isShade_26 (by decide) (fun c_26 => ?_) (fun c_26 => ?_)
      · skip
        refine z_iconst (v := nI 0) dX10_isShade_33 (by decide) ?_
        refine z_top (v2 := .int (zB (rShd v))) (by first | exact congrArg Value.int (fy_sC c_6 c_19 c_26) | exact congrArg Value.int (fy_sB c_6 c_19 c_26) | exact congrArg Value.int (fy_sA c_6 c_19)) ?_
        exact J34_15
      · skip
        refine z_iconst (v := nI 1) dX10_isShade_29 (by decide) ?_
        refine z_goto (tgt := 34) dX10_isShade_30 (by decide) ?_
        refine z_top (v2 := .int (zB (rShd v))) (by first | exact congrArg Value.int (fy_sC c_6 c_19 c_26) | exact congrArg Value.int (fy_sB c_6 c_19 c_26) | exact congrArg Value.int (fy_sA c_6 c_19)) ?_
        exact J34_15
  · skip
    refine z_iconst (v := nI 0) dX10_isShade_9 (by decide) ?_
    exact z_zret rfl (by decide) dX10_isShade_10 (zo_i ho9 (by rw [fy_sh0 c_6]; rfl)) (zo_h hh9 (by rfl)) (Nat.zero_le _) (Nat.zero_le _)

set_option maxHeartbeats 4000000 in
set_option maxRecDepth 100000 in
theorem m_shade {G : zT} {S : zS} {X : zXr} {out : Nat → Int64} {s : (Nat → Int32)} {past : (Nat → Int32)} {aside : (Nat → Int32)} {pasts : Nat} {txt : (Nat → Int32)} {typed : Nat} {thrown : Int32} {line : (Nat → Int32)} {need : (Nat → Int32)} {left : (Nat → Int32)} {slits : Nat} {slB : (Nat → Int32)} {slF : (Nat → Int32)} {slT : (Nat → Int32)} {at9 : Nat} {wd9 : Int32} {got : (Nat → Int32)} {ans : Int32} {worst : UInt32} (hG : zAl G = false) (hsh : rShs s) (l : Int32) (hl16 : l = -1 ∨ ∃ j, j < 16 ∧ l = nI j) : zRun G mX10_shade 0 0 [.ref 114, .int l] (zHp S X (s, past, aside, pasts, txt, typed, thrown, line, need, left, slits, slB, slF, slT, at9, wd9, got, ans, worst) out) (.inr (some (.float ((s (rIx l 3)).toUInt32)))) (zHp S X (s, past, aside, pasts, txt, typed, thrown, line, need, left, slits, slB, slF, slT, at9, wd9, got, ans, worst) out) := by
  refine zRun_of (by decide +kernel) rfl rfl (Nat.le_of_ble_eq_true rfl) ?_
  suffices hs : ∀ (o9 : zO) (h9 : zH), (Sum.inr (some (.float ((s (rIx l 3)).toUInt32))) : zO) = o9 → (zHp S X (s, past, aside, pasts, txt, typed, thrown, line, need, left, slits, slB, slF, slT, at9, wd9, got, ans, worst) out) = h9 → zPW G mX10_shade 0 0 o9 h9 0 0 0 [(0, .ref 114), (1, .int l)] [] (zHp S X (s, past, aside, pasts, txt, typed, thrown, line, need, left, slits, slB, slF, slT, at9, wd9, got, ans, worst) out) from hs _ _ rfl rfl
  intro o9 h9 ho9 hh9
  refine z_aload_n 0 dX10_shade_0 rfl rfl ?_
  refine z_iload_n 1 dX10_shade_1 rfl rfl ?_
  refine z_iconst (v := nI 3) dX10_shade_2 (by decide) ?_
  refine z_callV (N := mX10_its) 2 [.int l, .int (nI 3)] [] lX10_its ⟨zw_1380, zw_1382, zw_68⟩ rfl zgo_114 rfl rfl (Nat.le_of_ble_eq_true rfl) (by decide) ⟨zlt, zlt⟩ ⟨Nat.zero_le _, Nat.zero_le _⟩ (fun _ => rfl) (m_its hG l 3 hl16 (by omega)) dX10_shade_3 ?_
  refine z_intBitsToFloat zw_1296 (by decide) (Nat.le_of_ble_eq_true rfl) (by exact fy_sn (hsh l hl16)) dX10_shade_6 ?_
  exact z_fret rfl dX10_shade_9 (zo_f ho9 (by rfl)) (zo_h hh9 (by rfl)) (Nat.zero_le _) (Nat.zero_le _)

set_option maxHeartbeats 4000000 in
set_option maxRecDepth 100000 in
theorem m_size {G : zT} {S : zS} {X : zXr} {Y : zYr} {out : Nat → Int64} (hG : zAl G = false) (f : UInt32) (hf : vf_n32 (FP.fsub FP.fconst0 f)) : zRun G mX10_size 0 0 [.float f] (zHp S X Y out) (.inr (some (.float (rSz f)))) (zHp S X Y out) := by
  refine zRun_of (by decide +kernel) rfl rfl (Nat.le_of_ble_eq_true rfl) ?_
  suffices hs : ∀ (o9 : zO) (h9 : zH), (Sum.inr (some (.float (rSz f))) : zO) = o9 → (zHp S X Y out) = h9 → zPW G mX10_size 0 0 o9 h9 0 0 0 [(0, .float f)] [] (zHp S X Y out) from hs _ _ rfl rfl
  intro o9 h9 ho9 hh9
  refine z_fload_n 0 dX10_size_0 rfl rfl ?_
  refine z_fconst0 dX10_size_1 ?_
  refine z_fcmp dX10_size_2 ?_
  refine z_if_gt (tgt := 12) dX10_size_3 (by decide) (fun c_3 => ?_) (fun c_3 => ?_)
  · skip
    refine z_fload_n 0 dX10_size_12 rfl rfl ?_
    exact z_fret rfl dX10_size_13 (zo_f ho9 (by first | (unfold rSz; rw [if_pos c_3]) | (unfold rSz; rw [if_neg c_3]))) (zo_h hh9 (by rfl)) (Nat.zero_le _) (Nat.zero_le _)
  · skip
    refine z_fconst0 dX10_size_6 ?_
    refine z_fload_n 0 dX10_size_7 rfl rfl ?_
    refine z_fsub dX10_size_8 (by exact hf) ?_
    refine z_goto (tgt := 13) dX10_size_9 (by decide) ?_
    exact z_fret rfl dX10_size_13 (zo_f ho9 (by first | (unfold rSz; rw [if_pos c_3]) | (unfold rSz; rw [if_neg c_3]))) (zo_h hh9 (by rfl)) (Nat.zero_le _) (Nat.zero_le _)

set_option maxHeartbeats 4000000 in
set_option maxRecDepth 100000 in
theorem m_apart {G : zT} {S : zS} {X : zXr} {out : Nat → Int64} {s : (Nat → Int32)} {past : (Nat → Int32)} {aside : (Nat → Int32)} {pasts : Nat} {txt : (Nat → Int32)} {typed : Nat} {thrown : Int32} {line : (Nat → Int32)} {need : (Nat → Int32)} {left : (Nat → Int32)} {slits : Nat} {slB : (Nat → Int32)} {slF : (Nat → Int32)} {slT : (Nat → Int32)} {at9 : Nat} {wd9 : Int32} {got : (Nat → Int32)} {ans : Int32} {worst : UInt32} (hG : zAl G = false) (hsh : rShs s) (l k : Int32) (hl16 : l = -1 ∨ ∃ j, j < 16 ∧ l = nI j) (hk16 : k = -1 ∨ ∃ j, j < 16 ∧ k = nI j) : zRun G mX10_apart 0 0 [.ref 114, .int l, .int k] (zHp S X (s, past, aside, pasts, txt, typed, thrown, line, need, left, slits, slB, slF, slT, at9, wd9, got, ans, worst) out) (.inr (some (.float (rAp s l k)))) (zHp S X (s, past, aside, pasts, txt, typed, thrown, line, need, left, slits, slB, slF, slT, at9, wd9, got, ans, worst) out) := by
  refine zRun_of (by decide +kernel) rfl rfl (Nat.le_of_ble_eq_true rfl) ?_
  suffices hs : ∀ (o9 : zO) (h9 : zH), (Sum.inr (some (.float (rAp s l k))) : zO) = o9 → (zHp S X (s, past, aside, pasts, txt, typed, thrown, line, need, left, slits, slB, slF, slT, at9, wd9, got, ans, worst) out) = h9 → zPW G mX10_apart 0 0 o9 h9 0 0 0 [(0, .ref 114), (1, .int l), (2, .int k)] [] (zHp S X (s, past, aside, pasts, txt, typed, thrown, line, need, left, slits, slB, slF, slT, at9, wd9, got, ans, worst) out) from hs _ _ rfl rfl
  intro o9 h9 ho9 hh9
  refine z_aload_n 0 dX10_apart_0 rfl rfl ?_
  refine z_iload_n 1 dX10_apart_1 rfl rfl ?_
  refine z_callV (N := mX10_shade) 1 [.int l] [] lX10_shade ⟨zw_1520, zw_1522, zw_95⟩ rfl zgo_114 rfl rfl (Nat.le_of_ble_eq_true rfl) (by decide) ⟨zlt, zlt⟩ ⟨Nat.zero_le _, Nat.zero_le _⟩ (fun _ => rfl) (m_shade hG hsh l hl16) dX10_apart_2 ?_
  refine z_aload_n 0 dX10_apart_5 rfl rfl ?_
  refine z_iload_n 2 dX10_apart_6 rfl rfl ?_
  refine z_callV (N := mX10_shade) 1 [.int k] [.float ((s (rIx l 3)).toUInt32)] lX10_shade ⟨zw_1520, zw_1522, zw_95⟩ rfl zgo_114 rfl rfl (Nat.le_of_ble_eq_true rfl) (by decide) ⟨zlt, zlt⟩ ⟨Nat.zero_le _, Nat.zero_le _⟩ (fun _ => rfl) (m_shade hG hsh k hk16) dX10_apart_7 ?_
  refine z_fsub dX10_apart_10 (by exact fy_sub (hsh l hl16) (hsh k hk16)) ?_
  refine z_callS (N := mX10_size) 1 [.float (FP.fsub ((s (rIx l 3)).toUInt32) ((s (rIx k 3)).toUInt32))] [] lX10_size ⟨zw_1524, zw_1525⟩ rfl rfl rfl (Nat.le_of_ble_eq_true rfl) (by decide) ⟨zlt, zlt⟩ hG ⟨Nat.zero_le _, Nat.zero_le _⟩ (m_size hG (FP.fsub ((s (rIx l 3)).toUInt32) ((s (rIx k 3)).toUInt32)) (fy_neg (hsh l hl16) (hsh k hk16))) dX10_apart_11 ?_
  refine z_top (v2 := .float (rAp s l k)) (by exact congrArg Value.float (fy_size (hsh l hl16) (hsh k hk16))) ?_
  exact z_fret rfl dX10_apart_14 (zo_f ho9 (by rfl)) (zo_h hh9 (by rfl)) (Nat.zero_le _) (Nat.zero_le _)

set_option maxHeartbeats 4000000 in
set_option maxRecDepth 100000 in
theorem m_seams {G : zT} {S : zS} {X : zXr} {out : Nat → Int64} {s : (Nat → Int32)} {past : (Nat → Int32)} {aside : (Nat → Int32)} {pasts : Nat} {txt : (Nat → Int32)} {typed : Nat} {thrown : Int32} {line : (Nat → Int32)} {need : (Nat → Int32)} {left : (Nat → Int32)} {slits : Nat} {slB : (Nat → Int32)} {slF : (Nat → Int32)} {slT : (Nat → Int32)} {at9 : Nat} {wd9 : Int32} {got : (Nat → Int32)} {ans : Int32} {worst : UInt32} (hG : zAl G = false) {c r w cnt lim : Nat} (hM : zMd s c r w cnt lim) (y b z d : Nat) (hy : y < w) (hb : b < c) (hz : z ≤ w) (hd : d ≤ c) : zRun G mX10_seams 0 0 [.ref 114, .int (nI y), .int (nI b), .int (nI z), .int (nI d)] (zHp S X (s, past, aside, pasts, txt, typed, thrown, line, need, left, slits, slB, slF, slT, at9, wd9, got, ans, worst) out) (.inr (some (.int (zB (rSm s w c y b z d))))) (zHp S X (s, past, aside, pasts, txt, typed, thrown, line, need, left, slits, slB, slF, slT, at9, wd9, got, ans, worst) out) := by
  have hM9 := hM
  obtain ⟨h0, h1, h2, h3, h4, hc1, hc, hr1, hr, hw, hn, hl⟩ := hM
  refine zRun_of (by decide +kernel) rfl rfl (Nat.le_of_ble_eq_true rfl) ?_
  suffices hs : ∀ (o9 : zO) (h9 : zH), (Sum.inr (some (.int (zB (rSm s w c y b z d)))) : zO) = o9 → (zHp S X (s, past, aside, pasts, txt, typed, thrown, line, need, left, slits, slB, slF, slT, at9, wd9, got, ans, worst) out) = h9 → zPW G mX10_seams 0 0 o9 h9 0 0 0 [(0, .ref 114), (1, .int (nI y)), (2, .int (nI b)), (3, .int (nI z)), (4, .int (nI d))] [] (zHp S X (s, past, aside, pasts, txt, typed, thrown, line, need, left, slits, slB, slF, slT, at9, wd9, got, ans, worst) out) from hs _ _ rfl rfl
  intro o9 h9 ho9 hh9
  have J56_8 : zPW G mX10_seams 0 0 o9 h9 0 0 56 [(0, .ref 114), (1, .int (nI y)), (2, .int (nI b)), (3, .int (nI z)), (4, .int (nI d))] [.int (zB (rSm s w c y b z d))] (zHp S X (s, past, aside, pasts, txt, typed, thrown, line, need, left, slits, slB, slF, slT, at9, wd9, got, ans, worst) out) := by
    exact z_zret rfl (by exact zB_n _) dX10_seams_56 (zo_i ho9 (by rfl)) (zo_h hh9 (by rfl)) (Nat.zero_le _) (Nat.zero_le _)
  refine z_aload_n 0 dX10_seams_0 rfl rfl ?_
  refine z_iload_n 3 dX10_seams_1 rfl rfl ?_
  refine z_callV (N := mX10_isWoven) 1 [.int (nI z)] [] lX10_isWoven ⟨zw_1324, zw_1326, zw_56⟩ rfl zgo_114 rfl rfl (Nat.le_of_ble_eq_true rfl) (by decide) ⟨zlt, zlt⟩ ⟨Nat.zero_le _, Nat.zero_le _⟩ (fun _ => rfl) (m_isWoven hG hM9 (nI z)) dX10_seams_2 ?_
  refine z_top (v2 := .int (zB (decide (z < w)))) (by rw [zIn_n (by omega) (by omega)]) ?_
  refine z_if_eq (tgt := 55) dX10_seams_5 (by decide) (fun c_5 => ?_) (fun c_5 => ?_)
  · skip
    have b_5 := zB_0.mp c_5
    have g_5 : ¬ z < w := of_decide_eq_false b_5
    refine z_iconst (v := nI 0) dX10_seams_55 (by decide) ?_
    refine z_top (v2 := .int (zB (rSm s w c y b z d))) (by simp [zB, rSm, nI_0, nI_one, b_5, g_5]) ?_
    exact J56_8
  · skip
    have b_5 := zB_tt c_5
    have g_5 : z < w := of_decide_eq_true b_5
    refine z_iload 4 dX10_seams_8 rfl ?_
    refine z_aload_n 0 dX10_seams_10 rfl rfl ?_
    refine z_get (v := .ref 115) 0 zgo_114 rfl inX10 (by decide) zw_1178 rfl rfl dX10_seams_11 ?_
    refine z_iconst (v := nI 0) dX10_seams_14 (by decide) ?_
    refine z_ialdN (f := s) (n := 1371) (j := 0) zga_115 (by omega) (by decide) dX10_seams_15 ?_
    refine z_top (v2 := .int (nI c)) (by rw [h0]) ?_
    refine z_icmp_ge (tgt := 55) dX10_seams_16 (by decide) (fun c_16 => ?_) (fun c_16 => ?_)
    · skip
      have f_16 := m_le (by omega) (by omega) c_16
      have g_16 : ¬ d < c := by omega
      refine z_iconst (v := nI 0) dX10_seams_55 (by decide) ?_
      refine z_top (v2 := .int (zB (rSm s w c y b z d))) (by simp [zB, rSm, nI_0, nI_one, b_5, g_5, c_16, f_16, g_16]) ?_
      exact J56_8
    · skip
      have f_16 := m_nle (by omega) (by omega) c_16
      have g_16 : d < c := by omega
      refine z_aload_n 0 dX10_seams_19 rfl rfl ?_
      refine z_iload_n 1 dX10_seams_20 rfl rfl ?_
      refine z_iload_n 2 dX10_seams_21 rfl rfl ?_
      refine z_callV (N := mX10_woven) 2 [.int (nI y), .int (nI b)] [] lX10_woven ⟨zw_1328, zw_1330, zw_57⟩ rfl zgo_114 rfl rfl (Nat.le_of_ble_eq_true rfl) (by decide) ⟨zlt, zlt⟩ ⟨Nat.zero_le _, Nat.zero_le _⟩ (fun _ => rfl) (m_woven hG y b (by omega) (by omega)) dX10_seams_22 ?_
      refine z_aload_n 0 dX10_seams_25 rfl rfl ?_
      refine z_iload_n 3 dX10_seams_26 rfl rfl ?_
      refine z_iload 4 dX10_seams_27 rfl ?_
      refine z_callV (N := mX10_woven) 2 [.int (nI z), .int (nI d)] [.int (rW s y b)] lX10_woven ⟨zw_1328, zw_1330, zw_57⟩ rfl zgo_114 rfl rfl (Nat.le_of_ble_eq_true rfl) (by decide) ⟨zlt, zlt⟩ ⟨Nat.zero_le _, Nat.zero_le _⟩ (fun _ => rfl) (m_woven hG z d (by omega) (by omega)) dX10_seams_29 ?_
      refine z_icmp_ne (tgt := 55) dX10_seams_32 (by decide) (fun c_32 => ?_) (fun c_32 => ?_)
      · skip
        refine z_iconst (v := nI 0) dX10_seams_55 (by decide) ?_
        refine z_top (v2 := .int (zB (rSm s w c y b z d))) (by simp [zB, rSm, nI_0, nI_one, b_5, g_5, c_16, f_16, g_16, c_32]) ?_
        exact J56_8
      · skip
        refine z_aload_n 0 dX10_seams_35 rfl rfl ?_
        refine z_iload_n 1 dX10_seams_36 rfl rfl ?_
        refine z_iload_n 2 dX10_seams_37 rfl rfl ?_
        refine z_callV (N := mX10_yarn) 2 [.int (nI y), .int (nI b)] [] lX10_yarn ⟨zw_1400, zw_1402, zw_72⟩ rfl zgo_114 rfl rfl (Nat.le_of_ble_eq_true rfl) (by decide) ⟨zlt, zlt⟩ ⟨Nat.zero_le _, Nat.zero_le _⟩ (fun _ => rfl) (m_yarn hG y b (by omega) (by omega)) dX10_seams_38 ?_
        refine z_aload_n 0 dX10_seams_41 rfl rfl ?_
        refine z_iload_n 3 dX10_seams_42 rfl rfl ?_
        refine z_iload 4 dX10_seams_43 rfl ?_
        refine z_callV (N := mX10_yarn) 2 [.int (nI z), .int (nI d)] [.int (rY s y b)] lX10_yarn ⟨zw_1400, zw_1402, zw_72⟩ rfl zgo_114 rfl rfl (Nat.le_of_ble_eq_true rfl) (by decide) ⟨zlt, zlt⟩ ⟨Nat.zero_le _, Nat.zero_le _⟩ (fun _ => rfl) (m_yarn hG z d (by omega) (by omega)) dX10_seams_45 ?_
        refine z_icmp_eq (tgt := 55) dX10_seams_48 (by decide) (fun c_48 => ?_) (fun c_48 => ?_)
        · skip
          refine z_iconst (v := nI 0) dX10_seams_55 (by decide) ?_
          refine z_top (v2 := .int (zB (rSm s w c y b z d))) (by simp [zB, rSm, nI_0, nI_one, b_5, g_5, c_16, f_16, g_16, c_32, c_48]) ?_
          exact J56_8
        · skip
          refine z_iconst (v := nI 1) dX10_seams_51 (by decide) ?_
          refine z_goto (tgt := 56) dX10_seams_52 (by decide) ?_
          refine z_top (v2 := .int (zB (rSm s w c y b z d))) (by simp [zB, rSm, nI_0, nI_one, b_5, g_5, c_16, f_16, g_16, c_32, c_48]) ?_
          exact J56_8

set_option maxHeartbeats 4000000 in
set_option maxRecDepth 100000 in
theorem m_seamsIn0 {G : zT} {S : zS} {X : zXr} {out : Nat → Int64} {s : (Nat → Int32)} {past : (Nat → Int32)} {aside : (Nat → Int32)} {pasts : Nat} {txt : (Nat → Int32)} {typed : Nat} {thrown : Int32} {line : (Nat → Int32)} {need : (Nat → Int32)} {left : (Nat → Int32)} {slits : Nat} {slB : (Nat → Int32)} {slF : (Nat → Int32)} {slT : (Nat → Int32)} {at9 : Nat} {wd9 : Int32} {got : (Nat → Int32)} {ans : Int32} {worst : UInt32} (hG : zAl G = false) {c r w cnt lim : Nat} (hM : zMd s c r w cnt lim) (hsh : rShs s) (hY : ∀ y b, y < w → b < c → rY s y b = -1 ∨ ∃ j, j < 16 ∧ rY s y b = nI j) (htl : rShv (s 5)) : zRun G mX10_seamsIn 0 0 [.ref 114, .int (nI 0)] (zHp S X (s, past, aside, pasts, txt, typed, thrown, line, need, left, slits, slB, slF, slT, at9, wd9, got, ans, worst) out) (.inr (some (.int (nI (rSy s c w false w (0, FP.fconst0)).1)))) (zHp S X (s, past, aside, pasts, txt, typed, thrown, line, need, left, slits, slB, slF, slT, at9, wd9, got, ans, (rSy s c w false w (0, FP.fconst0)).2) out) := by
  have hM9 := hM
  obtain ⟨h0, h1, h2, h3, h4, hc1, hc, hr1, hr, hw, hn, hl⟩ := hM
  refine zRun_of (by decide +kernel) rfl rfl (Nat.le_of_ble_eq_true rfl) ?_
  suffices hs : ∀ (o9 : zO) (h9 : zH), (Sum.inr (some (.int (nI (rSy s c w false w (0, FP.fconst0)).1))) : zO) = o9 → (zHp S X (s, past, aside, pasts, txt, typed, thrown, line, need, left, slits, slB, slF, slT, at9, wd9, got, ans, (rSy s c w false w (0, FP.fconst0)).2) out) = h9 → zPW G mX10_seamsIn 0 0 o9 h9 0 0 0 [(0, .ref 114), (1, .int (nI 0))] [] (zHp S X (s, past, aside, pasts, txt, typed, thrown, line, need, left, slits, slB, slF, slT, at9, wd9, got, ans, worst) out) from hs _ _ rfl rfl
  intro o9 h9 ho9 hh9
  refine z_iconst (v := nI 0) dX10_seamsIn_0 (by decide) ?_
  refine z_istore_n (lv' := [(2, .int (nI 0)), (0, .ref 114), (1, .int (nI 0))]) dX10_seamsIn_1 rfl (by decide) rfl ?_
  refine z_aload_n 1 dX10_seamsIn_2 rfl rfl ?_
  refine z_get (v := .ref 115) 0 zgo_114 rfl inX10 (by decide) zw_1178 rfl rfl dX10_seamsIn_3 ?_
  refine z_iconst (v := nI 5) dX10_seamsIn_6 (by decide) ?_
  refine z_ialdN (f := s) (n := 1371) (j := 5) zga_115 (by omega) (by decide) dX10_seamsIn_7 ?_
  refine z_intBitsToFloat zw_1296 (by decide) (Nat.le_of_ble_eq_true rfl) (by exact fy_sn htl) dX10_seamsIn_8 ?_
  refine z_fstore_n (lv' := [(3, .float ((s 5).toUInt32)), (2, .int (nI 0)), (0, .ref 114), (1, .int (nI 0))]) dX10_seamsIn_11 rfl (by decide) rfl ?_
  refine z_aload_n 2 dX10_seamsIn_12 rfl rfl ?_
  refine z_fconst0 dX10_seamsIn_13 ?_
  refine z_putf 18 tyX10 zgo_114 rfl inX10 tyX10_ok nmX10 (by decide) zw_1196 rfl rfl (by decide +kernel) (Nat.le_of_ble_eq_true rfl) dX10_seamsIn_14 ?_
  refine z_eqh (h2 := (zHp S X (s, past, aside, pasts, txt, typed, thrown, line, need, left, slits, slB, slF, slT, at9, wd9, got, ans, (FP.fconst0)) out)) zsf_114_18 ?_
  refine z_iconst (v := nI 0) dX10_seamsIn_17 (by decide) ?_
  refine z_istore (lv' := [(4, .int (nI 0)), (3, .float ((s 5).toUInt32)), (2, .int (nI 0)), (0, .ref 114), (1, .int (nI 0))]) dX10_seamsIn_18 (by decide) rfl ?_
  have L20_1 : ∀ (d j : Nat), j ≤ w → w + 1 ≤ j + d → zPW G mX10_seamsIn 0 0 o9 h9 0 0 20 [(4, .int (nI j)), (3, .float ((s 5).toUInt32)), (2, .int (nI ((rSy s c w false j (0, FP.fconst0)).1))), (0, .ref 114), (1, .int (nI 0))] [] (zHp S X (s, past, aside, pasts, txt, typed, thrown, line, need, left, slits, slB, slF, slT, at9, wd9, got, ans, (rSy s c w false j (0, FP.fconst0)).2) out) := by
    intro d
    induction d with
    | zero => intro j hk hd; exact absurd hd (by omega)
    | succ d ih =>
      intro j hk_j hd_j
      have ih20 := ih
      clear ih
      refine z_iload 0 dX10_seamsIn_20 rfl ?_
      refine z_aload_n 3 dX10_seamsIn_22 rfl rfl ?_
      refine z_get (v := .ref 115) 0 zgo_114 rfl inX10 (by decide) zw_1178 rfl rfl dX10_seamsIn_23 ?_
      refine z_iconst (v := nI 2) dX10_seamsIn_26 (by decide) ?_
      refine z_ialdN (f := s) (n := 1371) (j := 2) zga_115 (by omega) (by decide) dX10_seamsIn_27 ?_
      refine z_top (v2 := .int (nI w)) (by rw [h2]) ?_
      refine z_icmp_ge (tgt := 167) dX10_seamsIn_28 (by decide) (fun c_28 => ?_) (fun c_28 => ?_)
      · skip
        have f_28 := m_le (by omega) (by omega) c_28
        have e_j : j = w := by omega
        rw [e_j]
        refine z_iload_n 2 dX10_seamsIn_167 rfl rfl ?_
        exact z_iret rfl dX10_seamsIn_168 (zo_i ho9 (by rfl)) (zo_h hh9 (by rfl)) (Nat.zero_le _) (Nat.zero_le _)
      · skip
        have f_28 := m_nle (by omega) (by omega) c_28
        refine z_iconst (v := nI 0) dX10_seamsIn_31 (by decide) ?_
        refine z_istore (lv' := [(5, .int (nI 0)), (4, .int (nI j)), (3, .float ((s 5).toUInt32)), (2, .int (nI ((rSy s c w false j (0, FP.fconst0)).1))), (0, .ref 114), (1, .int (nI 0))]) dX10_seamsIn_32 (by decide) rfl ?_
        have L34_2 : ∀ (d i : Nat), i ≤ c → c + 1 ≤ i + d → zPW G mX10_seamsIn 0 0 o9 h9 0 0 34 [(5, .int (nI i)), (4, .int (nI j)), (3, .float ((s 5).toUInt32)), (2, .int (nI ((rSb s c w false j i (rSy s c w false j (0, FP.fconst0))).1))), (0, .ref 114), (1, .int (nI 0))] [] (zHp S X (s, past, aside, pasts, txt, typed, thrown, line, need, left, slits, slB, slF, slT, at9, wd9, got, ans, (rSb s c w false j i (rSy s c w false j (0, FP.fconst0))).2) out) := by
          intro d
          induction d with
          | zero => intro i hk hd; exact absurd hd (by omega)
          | succ d ih =>
            intro i hk_i hd_i
            have ih34 := ih
            clear ih
            refine z_iload 0 dX10_seamsIn_34 rfl ?_
            refine z_aload_n 4 dX10_seamsIn_36 rfl rfl ?_
            refine z_get (v := .ref 115) 0 zgo_114 rfl inX10 (by decide) zw_1178 rfl rfl dX10_seamsIn_37 ?_
            refine z_iconst (v := nI 0) dX10_seamsIn_40 (by decide) ?_
            refine z_ialdN (f := s) (n := 1371) (j := 0) zga_115 (by omega) (by decide) dX10_seamsIn_41 ?_
            refine z_top (v2 := .int (nI c)) (by rw [h0]) ?_
            refine z_icmp_ge (tgt := 161) dX10_seamsIn_42 (by decide) (fun c_42 => ?_) (fun c_42 => ?_)
            · skip
              have f_42 := m_le (by omega) (by omega) c_42
              have e_i : i = c := by omega
              rw [e_i]
              refine z_iinc (v := nI (j + 1)) (lv' := [(4, .int (nI (j + 1))), (5, .int (nI c)), (3, .float ((s 5).toUInt32)), (2, .int (nI ((rSb s c w false j c (rSy s c w false j (0, FP.fconst0))).1))), (0, .ref 114), (1, .int (nI 0))]) 1 dX10_seamsIn_161 rfl (nI_1 _) (by decide) rfl ?_
              refine z_goto (tgt := 20) dX10_seamsIn_164 (by decide) ?_
              refine z_sub [0, 2, 3, 4, 5] (lv' := [(4, .int (nI (j + 1))), (3, .float ((s 5).toUInt32)), (2, .int (nI ((rSb s c w false j c (rSy s c w false j (0, FP.fconst0))).1))), (0, .ref 114), (1, .int (nI 0))]) rfl ?_
              refine z_eqs (lv2 := [(4, .int (nI ((j + 1)))), (3, .float ((s 5).toUInt32)), (2, .int (nI ((rSy s c w false (j + 1) (0, FP.fconst0)).1))), (0, .ref 114), (1, .int (nI 0))]) (h2 := (zHp S X (s, past, aside, pasts, txt, typed, thrown, line, need, left, slits, slB, slF, slT, at9, wd9, got, ans, (rSy s c w false (j + 1) (0, FP.fconst0)).2) out)) (by rfl) (by rfl) ?_
              exact ih20 (j + 1) (by omega) (by omega)
            · skip
              have f_42 := m_nle (by omega) (by omega) c_42
              refine z_iconst (v := nI 0) dX10_seamsIn_45 (by decide) ?_
              refine z_istore (lv' := [(6, .int (nI 0)), (5, .int (nI i)), (4, .int (nI j)), (3, .float ((s 5).toUInt32)), (2, .int (nI ((rSb s c w false j i (rSy s c w false j (0, FP.fconst0))).1))), (0, .ref 114), (1, .int (nI 0))]) dX10_seamsIn_46 (by decide) rfl ?_
              have L48_3 : ∀ (d k : Nat), k ≤ 2 → 2 + 1 ≤ k + d → zPW G mX10_seamsIn 0 0 o9 h9 0 0 48 [(6, .int (nI k)), (5, .int (nI i)), (4, .int (nI j)), (3, .float ((s 5).toUInt32)), (2, .int (nI ((rSk s c w false j i k (rSb s c w false j i (rSy s c w false j (0, FP.fconst0)))).1))), (0, .ref 114), (1, .int (nI 0))] [] (zHp S X (s, past, aside, pasts, txt, typed, thrown, line, need, left, slits, slB, slF, slT, at9, wd9, got, ans, (rSk s c w false j i k (rSb s c w false j i (rSy s c w false j (0, FP.fconst0)))).2) out) := by
                intro d
                induction d with
                | zero => intro k hk hd; exact absurd hd (by omega)
                | succ d ih =>
                  intro k hk_k hd_k
                  have ih48 := ih
                  clear ih
                  refine z_iload 0 dX10_seamsIn_48 rfl ?_
                  refine z_iconst (v := nI 2) dX10_seamsIn_50 (by decide) ?_
                  refine z_icmp_ge (tgt := 155) dX10_seamsIn_51 (by decide) (fun c_51 => ?_) (fun c_51 => ?_)
                  · skip
                    have f_51 := m_le (by omega) (by omega) c_51
                    have e_k : k = 2 := by omega
                    rw [e_k]
                    refine z_iinc (v := nI (i + 1)) (lv' := [(5, .int (nI (i + 1))), (6, .int (nI 2)), (4, .int (nI j)), (3, .float ((s 5).toUInt32)), (2, .int (nI ((rSk s c w false j i 2 (rSb s c w false j i (rSy s c w false j (0, FP.fconst0)))).1))), (0, .ref 114), (1, .int (nI 0))]) 1 dX10_seamsIn_155 rfl (nI_1 _) (by decide) rfl ?_
                    refine z_goto (tgt := 34) dX10_seamsIn_158 (by decide) ?_
                    refine z_sub [0, 2, 3, 4, 5, 6] (lv' := [(5, .int (nI (i + 1))), (4, .int (nI j)), (3, .float ((s 5).toUInt32)), (2, .int (nI ((rSk s c w false j i 2 (rSb s c w false j i (rSy s c w false j (0, FP.fconst0)))).1))), (0, .ref 114), (1, .int (nI 0))]) rfl ?_
                    refine z_eqs (lv2 := [(5, .int (nI ((i + 1)))), (4, .int (nI j)), (3, .float ((s 5).toUInt32)), (2, .int (nI ((rSb s c w false j (i + 1) (rSy s c w false j (0, FP.fconst0))).1))), (0, .ref 114), (1, .int (nI 0))]) (h2 := (zHp S X (s, past, aside, pasts, txt, typed, thrown, line, need, left, slits, slB, slF, slT, at9, wd9, got, ans, (rSb s c w false j (i + 1) (rSy s c w false j (0, FP.fconst0))).2) out)) (by rfl) (by rfl) ?_
                    exact ih34 (i + 1) (by omega) (by omega)
                  · skip
                    have f_51 := m_nle (by omega) (by omega) c_51
                    refine z_aload_n 5 dX10_seamsIn_54 rfl rfl ?_
                    refine z_iload 2 dX10_seamsIn_55 rfl ?_
                    refine z_iload 1 dX10_seamsIn_57 rfl ?_
                    refine z_iload 2 dX10_seamsIn_59 rfl ?_
                    refine z_iload 0 dX10_seamsIn_61 rfl ?_
                    refine z_iaddN (a := j) (b := k) dX10_seamsIn_63 ?_
                    refine z_iload 1 dX10_seamsIn_64 rfl ?_
                    refine z_iconst (v := nI 1) dX10_seamsIn_66 (by decide) ?_
                    refine z_iaddN (a := i) (b := 1) dX10_seamsIn_67 ?_
                    refine z_iload 0 dX10_seamsIn_68 rfl ?_
                    refine z_isubN (a := i + 1) (b := k) (by omega) dX10_seamsIn_70 ?_
                    refine z_callV (N := mX10_seams) 4 [.int (nI j), .int (nI i), .int (nI (j + k)), .int (nI (i + 1 - k))] [] lX10_seams ⟨zw_1512, zw_1514, zw_93⟩ rfl zgo_114 rfl rfl (Nat.le_of_ble_eq_true rfl) (by decide) ⟨zlt, zlt⟩ ⟨Nat.zero_le _, Nat.zero_le _⟩ (fun _ => rfl) (m_seams hG hM9 j i (j + k) (i + 1 - k) (by omega) (by omega) (by omega) (by omega)) dX10_seamsIn_71 ?_
                    refine z_if_eq (tgt := 149) dX10_seamsIn_74 (by decide) (fun c_74 => ?_) (fun c_74 => ?_)
                    · skip
                      have b_74 := zB_0.mp c_74
                      refine z_iinc (v := nI (k + 1)) (lv' := [(6, .int (nI (k + 1))), (5, .int (nI i)), (4, .int (nI j)), (3, .float ((s 5).toUInt32)), (2, .int (nI ((rSk s c w false j i k (rSb s c w false j i (rSy s c w false j (0, FP.fconst0)))).1))), (0, .ref 114), (1, .int (nI 0))]) 0 dX10_seamsIn_149 rfl (nI_1 _) (by decide) rfl ?_
                      refine z_goto (tgt := 48) dX10_seamsIn_152 (by decide) ?_
                      refine z_sub [0, 1, 2, 3, 4, 5, 6] (lv' := [(6, .int (nI (k + 1))), (5, .int (nI i)), (4, .int (nI j)), (3, .float ((s 5).toUInt32)), (2, .int (nI ((rSk s c w false j i k (rSb s c w false j i (rSy s c w false j (0, FP.fconst0)))).1))), (0, .ref 114), (1, .int (nI 0))]) rfl ?_
                      refine z_eqs (lv2 := [(6, .int (nI ((k + 1)))), (5, .int (nI i)), (4, .int (nI j)), (3, .float ((s 5).toUInt32)), (2, .int (nI ((rSk s c w false j i (k + 1) (rSb s c w false j i (rSy s c w false j (0, FP.fconst0)))).1))), (0, .ref 114), (1, .int (nI 0))]) (h2 := (zHp S X (s, past, aside, pasts, txt, typed, thrown, line, need, left, slits, slB, slF, slT, at9, wd9, got, ans, (rSk s c w false j i (k + 1) (rSb s c w false j i (rSy s c w false j (0, FP.fconst0)))).2) out)) (by first | rw [rSk_f (show rSm s w c j i (j + k) (i + 1 - k) = false from b_74)] | (rw [rSk_t (show rSm s w c j i (j + k) (i + 1 - k) = true from b_74)] <;> first | rfl | (rw [show zGt (rAp s (rY s j i) (rY s (j + k) (i + 1 - k))) (zFb (s 5)) = true from decide_eq_true (Int32.not_le.mp c_139)]; rfl) | (rw [show zGt (rAp s (rY s j i) (rY s (j + k) (i + 1 - k))) (zFb (s 5)) = false from decide_eq_false (Int32.not_lt.mpr c_139)]; rfl))) (by first | rw [rSk_f (show rSm s w c j i (j + k) (i + 1 - k) = false from b_74)] | (rw [rSk_t (show rSm s w c j i (j + k) (i + 1 - k) = true from b_74)] <;> rfl)) ?_
                      exact ih48 (k + 1) (by omega) (by omega)
                    · skip
                      have b_74 := zB_tt c_74
                      have q1 := rSm_z b_74
                      have q2 := rSm_d b_74
                      refine z_aload_n 5 dX10_seamsIn_77 rfl rfl ?_
                      refine z_aload_n 5 dX10_seamsIn_78 rfl rfl ?_
                      refine z_iload 2 dX10_seamsIn_79 rfl ?_
                      refine z_iload 1 dX10_seamsIn_81 rfl ?_
                      refine z_callV (N := mX10_yarn) 2 [.int (nI j), .int (nI i)] [.ref 114] lX10_yarn ⟨zw_1400, zw_1402, zw_72⟩ rfl zgo_114 rfl rfl (Nat.le_of_ble_eq_true rfl) (by decide) ⟨zlt, zlt⟩ ⟨Nat.zero_le _, Nat.zero_le _⟩ (fun _ => rfl) (m_yarn hG j i (by omega) (by omega)) dX10_seamsIn_83 ?_
                      refine z_aload_n 5 dX10_seamsIn_86 rfl rfl ?_
                      refine z_iload 2 dX10_seamsIn_87 rfl ?_
                      refine z_iload 0 dX10_seamsIn_89 rfl ?_
                      refine z_iaddN (a := j) (b := k) dX10_seamsIn_91 ?_
                      refine z_iload 1 dX10_seamsIn_92 rfl ?_
                      refine z_iconst (v := nI 1) dX10_seamsIn_94 (by decide) ?_
                      refine z_iaddN (a := i) (b := 1) dX10_seamsIn_95 ?_
                      refine z_iload 0 dX10_seamsIn_96 rfl ?_
                      refine z_isubN (a := i + 1) (b := k) (by omega) dX10_seamsIn_98 ?_
                      refine z_callV (N := mX10_yarn) 2 [.int (nI (j + k)), .int (nI (i + 1 - k))] [.int (rY s j i), .ref 114] lX10_yarn ⟨zw_1400, zw_1402, zw_72⟩ rfl zgo_114 rfl rfl (Nat.le_of_ble_eq_true rfl) (by decide) ⟨zlt, zlt⟩ ⟨Nat.zero_le _, Nat.zero_le _⟩ (fun _ => rfl) (m_yarn hG (j + k) (i + 1 - k) (by omega) (by omega)) dX10_seamsIn_99 ?_
                      refine z_callV (N := mX10_apart) 2 [.int (rY s j i), .int (rY s (j + k) (i + 1 - k))] [] lX10_apart ⟨zw_1516, zw_1518, zw_94⟩ rfl zgo_114 rfl rfl (Nat.le_of_ble_eq_true rfl) (by decide) ⟨zlt, zlt⟩ ⟨Nat.zero_le _, Nat.zero_le _⟩ (fun _ => rfl) (m_apart hG hsh (rY s j i) (rY s (j + k) (i + 1 - k)) (hY j i (by omega) (by omega)) (hY (j + k) (i + 1 - k) (rSm_z b_74) (rSm_d b_74))) dX10_seamsIn_102 ?_
                      refine z_fstore (lv' := [(7, .float (rAp s (rY s j i) (rY s (j + k) (i + 1 - k)))), (6, .int (nI k)), (5, .int (nI i)), (4, .int (nI j)), (3, .float ((s 5).toUInt32)), (2, .int (nI ((rSk s c w false j i k (rSb s c w false j i (rSy s c w false j (0, FP.fconst0)))).1))), (0, .ref 114), (1, .int (nI 0))]) dX10_seamsIn_105 (by decide) rfl ?_
                      refine z_aload_n 6 dX10_seamsIn_107 rfl rfl ?_
                      have J127_139 : zPW G mX10_seamsIn 0 0 o9 h9 0 0 127 [(7, .float (rAp s (rY s j i) (rY s (j + k) (i + 1 - k)))), (6, .int (nI k)), (5, .int (nI i)), (4, .int (nI j)), (3, .float ((s 5).toUInt32)), (2, .int (nI ((rSk s c w false j i k (rSb s c w false j i (rSy s c w false j (0, FP.fconst0)))).1))), (0, .ref 114), (1, .int (nI 0))] [.float (if zGt (rAp s (rY s j i) (rY s (j + k) (i + 1 - k))) (rSk s c w false j i k (rSb s c w false j i (rSy s c w false j (0, FP.fconst0)))).2 then (rAp s (rY s j i) (rY s (j + k) (i + 1 - k))) else (rSk s c w false j i k (rSb s c w false j i (rSy s c w false j (0, FP.fconst0)))).2), .ref 114] (zHp S X (s, past, aside, pasts, txt, typed, thrown, line, need, left, slits, slB, slF, slT, at9, wd9, got, ans, (rSk s c w false j i k (rSb s c w false j i (rSy s c w false j (0, FP.fconst0)))).2) out) := by
                        refine z_putf 18 tyX10 zgo_114 rfl inX10 tyX10_ok nmX10 (by decide) zw_1196 rfl rfl (by decide +kernel) (Nat.le_of_ble_eq_true rfl) dX10_seamsIn_127 ?_
                        refine z_eqh (h2 := (zHp S X (s, past, aside, pasts, txt, typed, thrown, line, need, left, slits, slB, slF, slT, at9, wd9, got, ans, (if zGt (rAp s (rY s j i) (rY s (j + k) (i + 1 - k))) (rSk s c w false j i k (rSb s c w false j i (rSy s c w false j (0, FP.fconst0)))).2 then (rAp s (rY s j i) (rY s (j + k) (i + 1 - k))) else (rSk s c w false j i k (rSb s c w false j i (rSy s c w false j (0, FP.fconst0)))).2)) out)) zsf_114_18 ?_
                        refine z_iload_n 5 dX10_seamsIn_130 rfl rfl ?_
                        refine z_iload_n 7 dX10_seamsIn_131 rfl rfl ?_
                        refine z_if_eq (tgt := 142) dX10_seamsIn_132 (by decide) (fun c_132 => ?_) (fun c_132 => ?_)
                        · skip
                          have f_132 := m_z_eq_t (by omega) c_132
                          refine z_iconst (v := nI 1) dX10_seamsIn_142 (by decide) ?_
                          refine z_goto (tgt := 147) dX10_seamsIn_143 (by decide) ?_
                          refine z_iaddN (a := (rSk s c w false j i k (rSb s c w false j i (rSy s c w false j (0, FP.fconst0)))).1) (b := 1) dX10_seamsIn_147 ?_
                          refine z_istore_n (lv' := [(2, .int (nI (((rSk s c w false j i k (rSb s c w false j i (rSy s c w false j (0, FP.fconst0)))).1) + 1))), (7, .float (rAp s (rY s j i) (rY s (j + k) (i + 1 - k)))), (6, .int (nI k)), (5, .int (nI i)), (4, .int (nI j)), (3, .float ((s 5).toUInt32)), (0, .ref 114), (1, .int (nI 0))]) dX10_seamsIn_148 rfl (by decide) rfl ?_
                          refine z_iinc (v := nI (k + 1)) (lv' := [(6, .int (nI (k + 1))), (2, .int (nI (((rSk s c w false j i k (rSb s c w false j i (rSy s c w false j (0, FP.fconst0)))).1) + 1))), (7, .float (rAp s (rY s j i) (rY s (j + k) (i + 1 - k)))), (5, .int (nI i)), (4, .int (nI j)), (3, .float ((s 5).toUInt32)), (0, .ref 114), (1, .int (nI 0))]) 2 dX10_seamsIn_149 rfl (nI_1 _) (by decide) rfl ?_
                          refine z_goto (tgt := 48) dX10_seamsIn_152 (by decide) ?_
                          refine z_sub [0, 3, 4, 5, 1, 6, 7] (lv' := [(6, .int (nI (k + 1))), (5, .int (nI i)), (4, .int (nI j)), (3, .float ((s 5).toUInt32)), (2, .int (nI (((rSk s c w false j i k (rSb s c w false j i (rSy s c w false j (0, FP.fconst0)))).1) + 1))), (0, .ref 114), (1, .int (nI 0))]) rfl ?_
                          refine z_eqs (lv2 := [(6, .int (nI ((k + 1)))), (5, .int (nI i)), (4, .int (nI j)), (3, .float ((s 5).toUInt32)), (2, .int (nI ((rSk s c w false j i (k + 1) (rSb s c w false j i (rSy s c w false j (0, FP.fconst0)))).1))), (0, .ref 114), (1, .int (nI 0))]) (h2 := (zHp S X (s, past, aside, pasts, txt, typed, thrown, line, need, left, slits, slB, slF, slT, at9, wd9, got, ans, (rSk s c w false j i (k + 1) (rSb s c w false j i (rSy s c w false j (0, FP.fconst0)))).2) out)) (by first | rw [rSk_f (show rSm s w c j i (j + k) (i + 1 - k) = false from b_74)] | (rw [rSk_t (show rSm s w c j i (j + k) (i + 1 - k) = true from b_74)] <;> first | rfl | (rw [show zGt (rAp s (rY s j i) (rY s (j + k) (i + 1 - k))) (zFb (s 5)) = true from decide_eq_true (Int32.not_le.mp c_139)]; rfl) | (rw [show zGt (rAp s (rY s j i) (rY s (j + k) (i + 1 - k))) (zFb (s 5)) = false from decide_eq_false (Int32.not_lt.mpr c_139)]; rfl))) (by first | rw [rSk_f (show rSm s w c j i (j + k) (i + 1 - k) = false from b_74)] | (rw [rSk_t (show rSm s w c j i (j + k) (i + 1 - k) = true from b_74)] <;> rfl)) ?_
                          exact ih48 (k + 1) (by omega) (by omega)
                        · exfalso; revert c_132; decide
                      refine z_fload 0 dX10_seamsIn_108 rfl ?_
                      refine z_aload_n 6 dX10_seamsIn_110 rfl rfl ?_
                      refine z_get (v := .float ((rSk s c w false j i k (rSb s c w false j i (rSy s c w false j (0, FP.fconst0)))).2)) 18 zgo_114 rfl inX10 (by decide) zw_1196 rfl rfl dX10_seamsIn_111 ?_
                      refine z_fcmp dX10_seamsIn_114 ?_
                      refine z_if_le (tgt := 123) dX10_seamsIn_115 (by decide) (fun c_115 => ?_) (fun c_115 => ?_)
                      · skip
                        refine z_aload_n 6 dX10_seamsIn_123 rfl rfl ?_
                        refine z_get (v := .float ((rSk s c w false j i k (rSb s c w false j i (rSy s c w false j (0, FP.fconst0)))).2)) 18 zgo_114 rfl inX10 (by decide) zw_1196 rfl rfl dX10_seamsIn_124 ?_
                        refine z_top (v2 := .float (if zGt (rAp s (rY s j i) (rY s (j + k) (i + 1 - k))) (rSk s c w false j i k (rSb s c w false j i (rSy s c w false j (0, FP.fconst0)))).2 then (rAp s (rY s j i) (rY s (j + k) (i + 1 - k))) else (rSk s c w false j i k (rSb s c w false j i (rSy s c w false j (0, FP.fconst0)))).2)) (by first | (rw [if_pos (show zGt _ _ = true from decide_eq_true (Int32.not_le.mp c_115))]) | (rw [if_neg (show ¬ zGt _ _ = true from by rw [show zGt _ _ = false from decide_eq_false (Int32.not_lt.mpr c_115)]; decide)])) ?_
                        exact J127_139
                      · skip
                        refine z_fload 0 dX10_seamsIn_118 rfl ?_
                        refine z_goto (tgt := 127) dX10_seamsIn_120 (by decide) ?_
                        refine z_top (v2 := .float (if zGt (rAp s (rY s j i) (rY s (j + k) (i + 1 - k))) (rSk s c w false j i k (rSb s c w false j i (rSy s c w false j (0, FP.fconst0)))).2 then (rAp s (rY s j i) (rY s (j + k) (i + 1 - k))) else (rSk s c w false j i k (rSb s c w false j i (rSy s c w false j (0, FP.fconst0)))).2)) (by first | (rw [if_pos (show zGt _ _ = true from decide_eq_true (Int32.not_le.mp c_115))]) | (rw [if_neg (show ¬ zGt _ _ = true from by rw [show zGt _ _ = false from decide_eq_false (Int32.not_lt.mpr c_115)]; decide)])) ?_
                        exact J127_139
              refine z_sub [0, 1, 2, 3, 4, 5, 6] (lv' := [(6, .int (nI 0)), (5, .int (nI i)), (4, .int (nI j)), (3, .float ((s 5).toUInt32)), (2, .int (nI ((rSb s c w false j i (rSy s c w false j (0, FP.fconst0))).1))), (0, .ref 114), (1, .int (nI 0))]) rfl ?_
              refine z_eqs (lv2 := [(6, .int (nI 0)), (5, .int (nI i)), (4, .int (nI j)), (3, .float ((s 5).toUInt32)), (2, .int (nI ((rSk s c w false j i 0 (rSb s c w false j i (rSy s c w false j (0, FP.fconst0)))).1))), (0, .ref 114), (1, .int (nI 0))]) (h2 := (zHp S X (s, past, aside, pasts, txt, typed, thrown, line, need, left, slits, slB, slF, slT, at9, wd9, got, ans, (rSk s c w false j i 0 (rSb s c w false j i (rSy s c w false j (0, FP.fconst0)))).2) out)) (by rfl) (by rfl) ?_
              exact L48_3 (2 + 1) 0 (by omega) (by omega)
        refine z_sub [0, 1, 2, 3, 4, 5] (lv' := [(5, .int (nI 0)), (4, .int (nI j)), (3, .float ((s 5).toUInt32)), (2, .int (nI ((rSy s c w false j (0, FP.fconst0)).1))), (0, .ref 114), (1, .int (nI 0))]) rfl ?_
        refine z_eqs (lv2 := [(5, .int (nI 0)), (4, .int (nI j)), (3, .float ((s 5).toUInt32)), (2, .int (nI ((rSb s c w false j 0 (rSy s c w false j (0, FP.fconst0))).1))), (0, .ref 114), (1, .int (nI 0))]) (h2 := (zHp S X (s, past, aside, pasts, txt, typed, thrown, line, need, left, slits, slB, slF, slT, at9, wd9, got, ans, (rSb s c w false j 0 (rSy s c w false j (0, FP.fconst0))).2) out)) (by rfl) (by rfl) ?_
        exact L34_2 (c + 1) 0 (by omega) (by omega)
  refine z_sub [0, 1, 2, 3, 4] (lv' := [(4, .int (nI 0)), (3, .float ((s 5).toUInt32)), (2, .int (nI 0)), (0, .ref 114), (1, .int (nI 0))]) rfl ?_
  refine z_eqs (lv2 := [(4, .int (nI 0)), (3, .float ((s 5).toUInt32)), (2, .int (nI ((rSy s c w false 0 (0, FP.fconst0)).1))), (0, .ref 114), (1, .int (nI 0))]) (h2 := (zHp S X (s, past, aside, pasts, txt, typed, thrown, line, need, left, slits, slB, slF, slT, at9, wd9, got, ans, (rSy s c w false 0 (0, FP.fconst0)).2) out)) (by rfl) (by rfl) ?_
  exact L20_1 (w + 1) 0 (by omega) (by omega)

set_option maxHeartbeats 4000000 in
set_option maxRecDepth 100000 in
theorem m_seamsIn1 {G : zT} {S : zS} {X : zXr} {out : Nat → Int64} {s : (Nat → Int32)} {past : (Nat → Int32)} {aside : (Nat → Int32)} {pasts : Nat} {txt : (Nat → Int32)} {typed : Nat} {thrown : Int32} {line : (Nat → Int32)} {need : (Nat → Int32)} {left : (Nat → Int32)} {slits : Nat} {slB : (Nat → Int32)} {slF : (Nat → Int32)} {slT : (Nat → Int32)} {at9 : Nat} {wd9 : Int32} {got : (Nat → Int32)} {ans : Int32} {worst : UInt32} (hG : zAl G = false) {c r w cnt lim : Nat} (hM : zMd s c r w cnt lim) (hsh : rShs s) (hY : ∀ y b, y < w → b < c → rY s y b = -1 ∨ ∃ j, j < 16 ∧ rY s y b = nI j) (htl : rShv (s 5)) : zRun G mX10_seamsIn 0 0 [.ref 114, .int (nI 1)] (zHp S X (s, past, aside, pasts, txt, typed, thrown, line, need, left, slits, slB, slF, slT, at9, wd9, got, ans, worst) out) (.inr (some (.int (nI (rSy s c w true w (0, FP.fconst0)).1)))) (zHp S X (s, past, aside, pasts, txt, typed, thrown, line, need, left, slits, slB, slF, slT, at9, wd9, got, ans, (rSy s c w true w (0, FP.fconst0)).2) out) := by
  have hM9 := hM
  obtain ⟨h0, h1, h2, h3, h4, hc1, hc, hr1, hr, hw, hn, hl⟩ := hM
  refine zRun_of (by decide +kernel) rfl rfl (Nat.le_of_ble_eq_true rfl) ?_
  suffices hs : ∀ (o9 : zO) (h9 : zH), (Sum.inr (some (.int (nI (rSy s c w true w (0, FP.fconst0)).1))) : zO) = o9 → (zHp S X (s, past, aside, pasts, txt, typed, thrown, line, need, left, slits, slB, slF, slT, at9, wd9, got, ans, (rSy s c w true w (0, FP.fconst0)).2) out) = h9 → zPW G mX10_seamsIn 0 0 o9 h9 0 0 0 [(0, .ref 114), (1, .int (nI 1))] [] (zHp S X (s, past, aside, pasts, txt, typed, thrown, line, need, left, slits, slB, slF, slT, at9, wd9, got, ans, worst) out) from hs _ _ rfl rfl
  intro o9 h9 ho9 hh9
  refine z_iconst (v := nI 0) dX10_seamsIn_0 (by decide) ?_
  refine z_istore_n (lv' := [(2, .int (nI 0)), (0, .ref 114), (1, .int (nI 1))]) dX10_seamsIn_1 rfl (by decide) rfl ?_
  refine z_aload_n 1 dX10_seamsIn_2 rfl rfl ?_
  refine z_get (v := .ref 115) 0 zgo_114 rfl inX10 (by decide) zw_1178 rfl rfl dX10_seamsIn_3 ?_
  refine z_iconst (v := nI 5) dX10_seamsIn_6 (by decide) ?_
  refine z_ialdN (f := s) (n := 1371) (j := 5) zga_115 (by omega) (by decide) dX10_seamsIn_7 ?_
  refine z_intBitsToFloat zw_1296 (by decide) (Nat.le_of_ble_eq_true rfl) (by exact fy_sn htl) dX10_seamsIn_8 ?_
  refine z_fstore_n (lv' := [(3, .float ((s 5).toUInt32)), (2, .int (nI 0)), (0, .ref 114), (1, .int (nI 1))]) dX10_seamsIn_11 rfl (by decide) rfl ?_
  refine z_aload_n 2 dX10_seamsIn_12 rfl rfl ?_
  refine z_fconst0 dX10_seamsIn_13 ?_
  refine z_putf 18 tyX10 zgo_114 rfl inX10 tyX10_ok nmX10 (by decide) zw_1196 rfl rfl (by decide +kernel) (Nat.le_of_ble_eq_true rfl) dX10_seamsIn_14 ?_
  refine z_eqh (h2 := (zHp S X (s, past, aside, pasts, txt, typed, thrown, line, need, left, slits, slB, slF, slT, at9, wd9, got, ans, (FP.fconst0)) out)) zsf_114_18 ?_
  refine z_iconst (v := nI 0) dX10_seamsIn_17 (by decide) ?_
  refine z_istore (lv' := [(4, .int (nI 0)), (3, .float ((s 5).toUInt32)), (2, .int (nI 0)), (0, .ref 114), (1, .int (nI 1))]) dX10_seamsIn_18 (by decide) rfl ?_
  have L20_1 : ∀ (d j : Nat), j ≤ w → w + 1 ≤ j + d → zPW G mX10_seamsIn 0 0 o9 h9 0 0 20 [(4, .int (nI j)), (3, .float ((s 5).toUInt32)), (2, .int (nI ((rSy s c w true j (0, FP.fconst0)).1))), (0, .ref 114), (1, .int (nI 1))] [] (zHp S X (s, past, aside, pasts, txt, typed, thrown, line, need, left, slits, slB, slF, slT, at9, wd9, got, ans, (rSy s c w true j (0, FP.fconst0)).2) out) := by
    intro d
    induction d with
    | zero => intro j hk hd; exact absurd hd (by omega)
    | succ d ih =>
      intro j hk_j hd_j
      have ih20 := ih
      clear ih
      refine z_iload 0 dX10_seamsIn_20 rfl ?_
      refine z_aload_n 3 dX10_seamsIn_22 rfl rfl ?_
      refine z_get (v := .ref 115) 0 zgo_114 rfl inX10 (by decide) zw_1178 rfl rfl dX10_seamsIn_23 ?_
      refine z_iconst (v := nI 2) dX10_seamsIn_26 (by decide) ?_
      refine z_ialdN (f := s) (n := 1371) (j := 2) zga_115 (by omega) (by decide) dX10_seamsIn_27 ?_
      refine z_top (v2 := .int (nI w)) (by rw [h2]) ?_
      refine z_icmp_ge (tgt := 167) dX10_seamsIn_28 (by decide) (fun c_28 => ?_) (fun c_28 => ?_)
      · skip
        have f_28 := m_le (by omega) (by omega) c_28
        have e_j : j = w := by omega
        rw [e_j]
        refine z_iload_n 2 dX10_seamsIn_167 rfl rfl ?_
        exact z_iret rfl dX10_seamsIn_168 (zo_i ho9 (by rfl)) (zo_h hh9 (by rfl)) (Nat.zero_le _) (Nat.zero_le _)
      · skip
        have f_28 := m_nle (by omega) (by omega) c_28
        refine z_iconst (v := nI 0) dX10_seamsIn_31 (by decide) ?_
        refine z_istore (lv' := [(5, .int (nI 0)), (4, .int (nI j)), (3, .float ((s 5).toUInt32)), (2, .int (nI ((rSy s c w true j (0, FP.fconst0)).1))), (0, .ref 114), (1, .int (nI 1))]) dX10_seamsIn_32 (by decide) rfl ?_
        have L34_2 : ∀ (d i : Nat), i ≤ c → c + 1 ≤ i + d → zPW G mX10_seamsIn 0 0 o9 h9 0 0 34 [(5, .int (nI i)), (4, .int (nI j)), (3, .float ((s 5).toUInt32)), (2, .int (nI ((rSb s c w true j i (rSy s c w true j (0, FP.fconst0))).1))), (0, .ref 114), (1, .int (nI 1))] [] (zHp S X (s, past, aside, pasts, txt, typed, thrown, line, need, left, slits, slB, slF, slT, at9, wd9, got, ans, (rSb s c w true j i (rSy s c w true j (0, FP.fconst0))).2) out) := by
          intro d
          induction d with
          | zero => intro i hk hd; exact absurd hd (by omega)
          | succ d ih =>
            intro i hk_i hd_i
            have ih34 := ih
            clear ih
            refine z_iload 0 dX10_seamsIn_34 rfl ?_
            refine z_aload_n 4 dX10_seamsIn_36 rfl rfl ?_
            refine z_get (v := .ref 115) 0 zgo_114 rfl inX10 (by decide) zw_1178 rfl rfl dX10_seamsIn_37 ?_
            refine z_iconst (v := nI 0) dX10_seamsIn_40 (by decide) ?_
            refine z_ialdN (f := s) (n := 1371) (j := 0) zga_115 (by omega) (by decide) dX10_seamsIn_41 ?_
            refine z_top (v2 := .int (nI c)) (by rw [h0]) ?_
            refine z_icmp_ge (tgt := 161) dX10_seamsIn_42 (by decide) (fun c_42 => ?_) (fun c_42 => ?_)
            · skip
              have f_42 := m_le (by omega) (by omega) c_42
              have e_i : i = c := by omega
              rw [e_i]
              refine z_iinc (v := nI (j + 1)) (lv' := [(4, .int (nI (j + 1))), (5, .int (nI c)), (3, .float ((s 5).toUInt32)), (2, .int (nI ((rSb s c w true j c (rSy s c w true j (0, FP.fconst0))).1))), (0, .ref 114), (1, .int (nI 1))]) 1 dX10_seamsIn_161 rfl (nI_1 _) (by decide) rfl ?_
              refine z_goto (tgt := 20) dX10_seamsIn_164 (by decide) ?_
              refine z_sub [0, 2, 3, 4, 5] (lv' := [(4, .int (nI (j + 1))), (3, .float ((s 5).toUInt32)), (2, .int (nI ((rSb s c w true j c (rSy s c w true j (0, FP.fconst0))).1))), (0, .ref 114), (1, .int (nI 1))]) rfl ?_
              refine z_eqs (lv2 := [(4, .int (nI ((j + 1)))), (3, .float ((s 5).toUInt32)), (2, .int (nI ((rSy s c w true (j + 1) (0, FP.fconst0)).1))), (0, .ref 114), (1, .int (nI 1))]) (h2 := (zHp S X (s, past, aside, pasts, txt, typed, thrown, line, need, left, slits, slB, slF, slT, at9, wd9, got, ans, (rSy s c w true (j + 1) (0, FP.fconst0)).2) out)) (by rfl) (by rfl) ?_
              exact ih20 (j + 1) (by omega) (by omega)
            · skip
              have f_42 := m_nle (by omega) (by omega) c_42
              refine z_iconst (v := nI 0) dX10_seamsIn_45 (by decide) ?_
              refine z_istore (lv' := [(6, .int (nI 0)), (5, .int (nI i)), (4, .int (nI j)), (3, .float ((s 5).toUInt32)), (2, .int (nI ((rSb s c w true j i (rSy s c w true j (0, FP.fconst0))).1))), (0, .ref 114), (1, .int (nI 1))]) dX10_seamsIn_46 (by decide) rfl ?_
              have L48_3 : ∀ (d k : Nat), k ≤ 2 → 2 + 1 ≤ k + d → zPW G mX10_seamsIn 0 0 o9 h9 0 0 48 [(6, .int (nI k)), (5, .int (nI i)), (4, .int (nI j)), (3, .float ((s 5).toUInt32)), (2, .int (nI ((rSk s c w true j i k (rSb s c w true j i (rSy s c w true j (0, FP.fconst0)))).1))), (0, .ref 114), (1, .int (nI 1))] [] (zHp S X (s, past, aside, pasts, txt, typed, thrown, line, need, left, slits, slB, slF, slT, at9, wd9, got, ans, (rSk s c w true j i k (rSb s c w true j i (rSy s c w true j (0, FP.fconst0)))).2) out) := by
                intro d
                induction d with
                | zero => intro k hk hd; exact absurd hd (by omega)
                | succ d ih =>
                  intro k hk_k hd_k
                  have ih48 := ih
                  clear ih
                  refine z_iload 0 dX10_seamsIn_48 rfl ?_
                  refine z_iconst (v := nI 2) dX10_seamsIn_50 (by decide) ?_
                  refine z_icmp_ge (tgt := 155) dX10_seamsIn_51 (by decide) (fun c_51 => ?_) (fun c_51 => ?_)
                  · skip
                    have f_51 := m_le (by omega) (by omega) c_51
                    have e_k : k = 2 := by omega
                    rw [e_k]
                    refine z_iinc (v := nI (i + 1)) (lv' := [(5, .int (nI (i + 1))), (6, .int (nI 2)), (4, .int (nI j)), (3, .float ((s 5).toUInt32)), (2, .int (nI ((rSk s c w true j i 2 (rSb s c w true j i (rSy s c w true j (0, FP.fconst0)))).1))), (0, .ref 114), (1, .int (nI 1))]) 1 dX10_seamsIn_155 rfl (nI_1 _) (by decide) rfl ?_
                    refine z_goto (tgt := 34) dX10_seamsIn_158 (by decide) ?_
                    refine z_sub [0, 2, 3, 4, 5, 6] (lv' := [(5, .int (nI (i + 1))), (4, .int (nI j)), (3, .float ((s 5).toUInt32)), (2, .int (nI ((rSk s c w true j i 2 (rSb s c w true j i (rSy s c w true j (0, FP.fconst0)))).1))), (0, .ref 114), (1, .int (nI 1))]) rfl ?_
                    refine z_eqs (lv2 := [(5, .int (nI ((i + 1)))), (4, .int (nI j)), (3, .float ((s 5).toUInt32)), (2, .int (nI ((rSb s c w true j (i + 1) (rSy s c w true j (0, FP.fconst0))).1))), (0, .ref 114), (1, .int (nI 1))]) (h2 := (zHp S X (s, past, aside, pasts, txt, typed, thrown, line, need, left, slits, slB, slF, slT, at9, wd9, got, ans, (rSb s c w true j (i + 1) (rSy s c w true j (0, FP.fconst0))).2) out)) (by rfl) (by rfl) ?_
                    exact ih34 (i + 1) (by omega) (by omega)
                  · skip
                    have f_51 := m_nle (by omega) (by omega) c_51
                    refine z_aload_n 5 dX10_seamsIn_54 rfl rfl ?_
                    refine z_iload 2 dX10_seamsIn_55 rfl ?_
                    refine z_iload 1 dX10_seamsIn_57 rfl ?_
                    refine z_iload 2 dX10_seamsIn_59 rfl ?_
                    refine z_iload 0 dX10_seamsIn_61 rfl ?_
                    refine z_iaddN (a := j) (b := k) dX10_seamsIn_63 ?_
                    refine z_iload 1 dX10_seamsIn_64 rfl ?_
                    refine z_iconst (v := nI 1) dX10_seamsIn_66 (by decide) ?_
                    refine z_iaddN (a := i) (b := 1) dX10_seamsIn_67 ?_
                    refine z_iload 0 dX10_seamsIn_68 rfl ?_
                    refine z_isubN (a := i + 1) (b := k) (by omega) dX10_seamsIn_70 ?_
                    refine z_callV (N := mX10_seams) 4 [.int (nI j), .int (nI i), .int (nI (j + k)), .int (nI (i + 1 - k))] [] lX10_seams ⟨zw_1512, zw_1514, zw_93⟩ rfl zgo_114 rfl rfl (Nat.le_of_ble_eq_true rfl) (by decide) ⟨zlt, zlt⟩ ⟨Nat.zero_le _, Nat.zero_le _⟩ (fun _ => rfl) (m_seams hG hM9 j i (j + k) (i + 1 - k) (by omega) (by omega) (by omega) (by omega)) dX10_seamsIn_71 ?_
                    refine z_if_eq (tgt := 149) dX10_seamsIn_74 (by decide) (fun c_74 => ?_) (fun c_74 => ?_)
                    · skip
                      have b_74 := zB_0.mp c_74
                      refine z_iinc (v := nI (k + 1)) (lv' := [(6, .int (nI (k + 1))), (5, .int (nI i)), (4, .int (nI j)), (3, .float ((s 5).toUInt32)), (2, .int (nI ((rSk s c w true j i k (rSb s c w true j i (rSy s c w true j (0, FP.fconst0)))).1))), (0, .ref 114), (1, .int (nI 1))]) 0 dX10_seamsIn_149 rfl (nI_1 _) (by decide) rfl ?_
                      refine z_goto (tgt := 48) dX10_seamsIn_152 (by decide) ?_
                      refine z_sub [0, 1, 2, 3, 4, 5, 6] (lv' := [(6, .int (nI (k + 1))), (5, .int (nI i)), (4, .int (nI j)), (3, .float ((s 5).toUInt32)), (2, .int (nI ((rSk s c w true j i k (rSb s c w true j i (rSy s c w true j (0, FP.fconst0)))).1))), (0, .ref 114), (1, .int (nI 1))]) rfl ?_
                      refine z_eqs (lv2 := [(6, .int (nI ((k + 1)))), (5, .int (nI i)), (4, .int (nI j)), (3, .float ((s 5).toUInt32)), (2, .int (nI ((rSk s c w true j i (k + 1) (rSb s c w true j i (rSy s c w true j (0, FP.fconst0)))).1))), (0, .ref 114), (1, .int (nI 1))]) (h2 := (zHp S X (s, past, aside, pasts, txt, typed, thrown, line, need, left, slits, slB, slF, slT, at9, wd9, got, ans, (rSk s c w true j i (k + 1) (rSb s c w true j i (rSy s c w true j (0, FP.fconst0)))).2) out)) (by first | rw [rSk_f (show rSm s w c j i (j + k) (i + 1 - k) = false from b_74)] | (rw [rSk_t (show rSm s w c j i (j + k) (i + 1 - k) = true from b_74)] <;> first | rfl | (rw [show zGt (rAp s (rY s j i) (rY s (j + k) (i + 1 - k))) (zFb (s 5)) = true from decide_eq_true (Int32.not_le.mp c_139)]; rfl) | (rw [show zGt (rAp s (rY s j i) (rY s (j + k) (i + 1 - k))) (zFb (s 5)) = false from decide_eq_false (Int32.not_lt.mpr c_139)]; rfl))) (by first | rw [rSk_f (show rSm s w c j i (j + k) (i + 1 - k) = false from b_74)] | (rw [rSk_t (show rSm s w c j i (j + k) (i + 1 - k) = true from b_74)] <;> rfl)) ?_
                      exact ih48 (k + 1) (by omega) (by omega)
                    · skip
                      have b_74 := zB_tt c_74
                      have q1 := rSm_z b_74
                      have q2 := rSm_d b_74
                      refine z_aload_n 5 dX10_seamsIn_77 rfl rfl ?_
                      refine z_aload_n 5 dX10_seamsIn_78 rfl rfl ?_
                      refine z_iload 2 dX10_seamsIn_79 rfl ?_
                      refine z_iload 1 dX10_seamsIn_81 rfl ?_
                      refine z_callV (N := mX10_yarn) 2 [.int (nI j), .int (nI i)] [.ref 114] lX10_yarn ⟨zw_1400, zw_1402, zw_72⟩ rfl zgo_114 rfl rfl (Nat.le_of_ble_eq_true rfl) (by decide) ⟨zlt, zlt⟩ ⟨Nat.zero_le _, Nat.zero_le _⟩ (fun _ => rfl) (m_yarn hG j i (by omega) (by omega)) dX10_seamsIn_83 ?_
                      refine z_aload_n 5 dX10_seamsIn_86 rfl rfl ?_
                      refine z_iload 2 dX10_seamsIn_87 rfl ?_
                      refine z_iload 0 dX10_seamsIn_89 rfl ?_
                      refine z_iaddN (a := j) (b := k) dX10_seamsIn_91 ?_
                      refine z_iload 1 dX10_seamsIn_92 rfl ?_
                      refine z_iconst (v := nI 1) dX10_seamsIn_94 (by decide) ?_
                      refine z_iaddN (a := i) (b := 1) dX10_seamsIn_95 ?_
                      refine z_iload 0 dX10_seamsIn_96 rfl ?_
                      refine z_isubN (a := i + 1) (b := k) (by omega) dX10_seamsIn_98 ?_
                      refine z_callV (N := mX10_yarn) 2 [.int (nI (j + k)), .int (nI (i + 1 - k))] [.int (rY s j i), .ref 114] lX10_yarn ⟨zw_1400, zw_1402, zw_72⟩ rfl zgo_114 rfl rfl (Nat.le_of_ble_eq_true rfl) (by decide) ⟨zlt, zlt⟩ ⟨Nat.zero_le _, Nat.zero_le _⟩ (fun _ => rfl) (m_yarn hG (j + k) (i + 1 - k) (by omega) (by omega)) dX10_seamsIn_99 ?_
                      refine z_callV (N := mX10_apart) 2 [.int (rY s j i), .int (rY s (j + k) (i + 1 - k))] [] lX10_apart ⟨zw_1516, zw_1518, zw_94⟩ rfl zgo_114 rfl rfl (Nat.le_of_ble_eq_true rfl) (by decide) ⟨zlt, zlt⟩ ⟨Nat.zero_le _, Nat.zero_le _⟩ (fun _ => rfl) (m_apart hG hsh (rY s j i) (rY s (j + k) (i + 1 - k)) (hY j i (by omega) (by omega)) (hY (j + k) (i + 1 - k) (rSm_z b_74) (rSm_d b_74))) dX10_seamsIn_102 ?_
                      refine z_fstore (lv' := [(7, .float (rAp s (rY s j i) (rY s (j + k) (i + 1 - k)))), (6, .int (nI k)), (5, .int (nI i)), (4, .int (nI j)), (3, .float ((s 5).toUInt32)), (2, .int (nI ((rSk s c w true j i k (rSb s c w true j i (rSy s c w true j (0, FP.fconst0)))).1))), (0, .ref 114), (1, .int (nI 1))]) dX10_seamsIn_105 (by decide) rfl ?_
                      refine z_aload_n 6 dX10_seamsIn_107 rfl rfl ?_
                      have J127_139 : zPW G mX10_seamsIn 0 0 o9 h9 0 0 127 [(7, .float (rAp s (rY s j i) (rY s (j + k) (i + 1 - k)))), (6, .int (nI k)), (5, .int (nI i)), (4, .int (nI j)), (3, .float ((s 5).toUInt32)), (2, .int (nI ((rSk s c w true j i k (rSb s c w true j i (rSy s c w true j (0, FP.fconst0)))).1))), (0, .ref 114), (1, .int (nI 1))] [.float (if zGt (rAp s (rY s j i) (rY s (j + k) (i + 1 - k))) (rSk s c w true j i k (rSb s c w true j i (rSy s c w true j (0, FP.fconst0)))).2 then (rAp s (rY s j i) (rY s (j + k) (i + 1 - k))) else (rSk s c w true j i k (rSb s c w true j i (rSy s c w true j (0, FP.fconst0)))).2), .ref 114] (zHp S X (s, past, aside, pasts, txt, typed, thrown, line, need, left, slits, slB, slF, slT, at9, wd9, got, ans, (rSk s c w true j i k (rSb s c w true j i (rSy s c w true j (0, FP.fconst0)))).2) out) := by
                        refine z_putf 18 tyX10 zgo_114 rfl inX10 tyX10_ok nmX10 (by decide) zw_1196 rfl rfl (by decide +kernel) (Nat.le_of_ble_eq_true rfl) dX10_seamsIn_127 ?_
                        refine z_eqh (h2 := (zHp S X (s, past, aside, pasts, txt, typed, thrown, line, need, left, slits, slB, slF, slT, at9, wd9, got, ans, (if zGt (rAp s (rY s j i) (rY s (j + k) (i + 1 - k))) (rSk s c w true j i k (rSb s c w true j i (rSy s c w true j (0, FP.fconst0)))).2 then (rAp s (rY s j i) (rY s (j + k) (i + 1 - k))) else (rSk s c w true j i k (rSb s c w true j i (rSy s c w true j (0, FP.fconst0)))).2)) out)) zsf_114_18 ?_
                        refine z_iload_n 5 dX10_seamsIn_130 rfl rfl ?_
                        refine z_iload_n 7 dX10_seamsIn_131 rfl rfl ?_
                        refine z_if_eq (tgt := 142) dX10_seamsIn_132 (by decide) (fun c_132 => ?_) (fun c_132 => ?_)
                        · exfalso; revert c_132; decide
                        · skip
                          have f_132 := m_z_eq_f (by omega) c_132
                          refine z_fload 0 dX10_seamsIn_135 rfl ?_
                          refine z_fload_n 4 dX10_seamsIn_137 rfl rfl ?_
                          refine z_fcmp dX10_seamsIn_138 ?_
                          refine z_top (v2 := .int (Op.cmpValue (FP.fcmp (rAp s (rY s j i) (rY s (j + k) (i + 1 - k))) ((zFb (s 5)))) .l)) (by rw [fy_cmp (rAp_ok hsh (hY j i (by omega) (by omega)) (hY (j + k) (i + 1 - k) (rSm_z b_74) (rSm_d b_74))) htl]) ?_
                          refine z_if_le (tgt := 146) dX10_seamsIn_139 (by decide) (fun c_139 => ?_) (fun c_139 => ?_)
                          · skip
                            refine z_iconst (v := nI 0) dX10_seamsIn_146 (by decide) ?_
                            refine z_iaddN (a := (rSk s c w true j i k (rSb s c w true j i (rSy s c w true j (0, FP.fconst0)))).1) (b := 0) dX10_seamsIn_147 ?_
                            refine z_istore_n (lv' := [(2, .int (nI (((rSk s c w true j i k (rSb s c w true j i (rSy s c w true j (0, FP.fconst0)))).1) + 0))), (7, .float (rAp s (rY s j i) (rY s (j + k) (i + 1 - k)))), (6, .int (nI k)), (5, .int (nI i)), (4, .int (nI j)), (3, .float ((s 5).toUInt32)), (0, .ref 114), (1, .int (nI 1))]) dX10_seamsIn_148 rfl (by decide) rfl ?_
                            refine z_iinc (v := nI (k + 1)) (lv' := [(6, .int (nI (k + 1))), (2, .int (nI (((rSk s c w true j i k (rSb s c w true j i (rSy s c w true j (0, FP.fconst0)))).1) + 0))), (7, .float (rAp s (rY s j i) (rY s (j + k) (i + 1 - k)))), (5, .int (nI i)), (4, .int (nI j)), (3, .float ((s 5).toUInt32)), (0, .ref 114), (1, .int (nI 1))]) 2 dX10_seamsIn_149 rfl (nI_1 _) (by decide) rfl ?_
                            refine z_goto (tgt := 48) dX10_seamsIn_152 (by decide) ?_
                            refine z_sub [0, 3, 4, 5, 1, 6, 7] (lv' := [(6, .int (nI (k + 1))), (5, .int (nI i)), (4, .int (nI j)), (3, .float ((s 5).toUInt32)), (2, .int (nI (((rSk s c w true j i k (rSb s c w true j i (rSy s c w true j (0, FP.fconst0)))).1) + 0))), (0, .ref 114), (1, .int (nI 1))]) rfl ?_
                            refine z_eqs (lv2 := [(6, .int (nI ((k + 1)))), (5, .int (nI i)), (4, .int (nI j)), (3, .float ((s 5).toUInt32)), (2, .int (nI ((rSk s c w true j i (k + 1) (rSb s c w true j i (rSy s c w true j (0, FP.fconst0)))).1))), (0, .ref 114), (1, .int (nI 1))]) (h2 := (zHp S X (s, past, aside, pasts, txt, typed, thrown, line, need, left, slits, slB, slF, slT, at9, wd9, got, ans, (rSk s c w true j i (k + 1) (rSb s c w true j i (rSy s c w true j (0, FP.fconst0)))).2) out)) (by first | rw [rSk_f (show rSm s w c j i (j + k) (i + 1 - k) = false from b_74)] | (rw [rSk_t (show rSm s w c j i (j + k) (i + 1 - k) = true from b_74)] <;> first | rfl | (rw [show zGt (rAp s (rY s j i) (rY s (j + k) (i + 1 - k))) (zFb (s 5)) = true from decide_eq_true (Int32.not_le.mp c_139)]; rfl) | (rw [show zGt (rAp s (rY s j i) (rY s (j + k) (i + 1 - k))) (zFb (s 5)) = false from decide_eq_false (Int32.not_lt.mpr c_139)]; rfl))) (by first | rw [rSk_f (show rSm s w c j i (j + k) (i + 1 - k) = false from b_74)] | (rw [rSk_t (show rSm s w c j i (j + k) (i + 1 - k) = true from b_74)] <;> rfl)) ?_
                            exact ih48 (k + 1) (by omega) (by omega)
                          · skip
                            refine z_iconst (v := nI 1) dX10_seamsIn_142 (by decide) ?_
                            refine z_goto (tgt := 147) dX10_seamsIn_143 (by decide) ?_
                            refine z_iaddN (a := (rSk s c w true j i k (rSb s c w true j i (rSy s c w true j (0, FP.fconst0)))).1) (b := 1) dX10_seamsIn_147 ?_
                            refine z_istore_n (lv' := [(2, .int (nI (((rSk s c w true j i k (rSb s c w true j i (rSy s c w true j (0, FP.fconst0)))).1) + 1))), (7, .float (rAp s (rY s j i) (rY s (j + k) (i + 1 - k)))), (6, .int (nI k)), (5, .int (nI i)), (4, .int (nI j)), (3, .float ((s 5).toUInt32)), (0, .ref 114), (1, .int (nI 1))]) dX10_seamsIn_148 rfl (by decide) rfl ?_
                            refine z_iinc (v := nI (k + 1)) (lv' := [(6, .int (nI (k + 1))), (2, .int (nI (((rSk s c w true j i k (rSb s c w true j i (rSy s c w true j (0, FP.fconst0)))).1) + 1))), (7, .float (rAp s (rY s j i) (rY s (j + k) (i + 1 - k)))), (5, .int (nI i)), (4, .int (nI j)), (3, .float ((s 5).toUInt32)), (0, .ref 114), (1, .int (nI 1))]) 2 dX10_seamsIn_149 rfl (nI_1 _) (by decide) rfl ?_
                            refine z_goto (tgt := 48) dX10_seamsIn_152 (by decide) ?_
                            refine z_sub [0, 3, 4, 5, 1, 6, 7] (lv' := [(6, .int (nI (k + 1))), (5, .int (nI i)), (4, .int (nI j)), (3, .float ((s 5).toUInt32)), (2, .int (nI (((rSk s c w true j i k (rSb s c w true j i (rSy s c w true j (0, FP.fconst0)))).1) + 1))), (0, .ref 114), (1, .int (nI 1))]) rfl ?_
                            refine z_eqs (lv2 := [(6, .int (nI ((k + 1)))), (5, .int (nI i)), (4, .int (nI j)), (3, .float ((s 5).toUInt32)), (2, .int (nI ((rSk s c w true j i (k + 1) (rSb s c w true j i (rSy s c w true j (0, FP.fconst0)))).1))), (0, .ref 114), (1, .int (nI 1))]) (h2 := (zHp S X (s, past, aside, pasts, txt, typed, thrown, line, need, left, slits, slB, slF, slT, at9, wd9, got, ans, (rSk s c w true j i (k + 1) (rSb s c w true j i (rSy s c w true j (0, FP.fconst0)))).2) out)) (by first | rw [rSk_f (show rSm s w c j i (j + k) (i + 1 - k) = false from b_74)] | (rw [rSk_t (show rSm s w c j i (j + k) (i + 1 - k) = true from b_74)] <;> first | rfl | (rw [show zGt (rAp s (rY s j i) (rY s (j + k) (i + 1 - k))) (zFb (s 5)) = true from decide_eq_true (Int32.not_le.mp c_139)]; rfl) | (rw [show zGt (rAp s (rY s j i) (rY s (j + k) (i + 1 - k))) (zFb (s 5)) = false from decide_eq_false (Int32.not_lt.mpr c_139)]; rfl))) (by first | rw [rSk_f (show rSm s w c j i (j + k) (i + 1 - k) = false from b_74)] | (rw [rSk_t (show rSm s w c j i (j + k) (i + 1 - k) = true from b_74)] <;> rfl)) ?_
                            exact ih48 (k + 1) (by omega) (by omega)
                      refine z_fload 0 dX10_seamsIn_108 rfl ?_
                      refine z_aload_n 6 dX10_seamsIn_110 rfl rfl ?_
                      refine z_get (v := .float ((rSk s c w true j i k (rSb s c w true j i (rSy s c w true j (0, FP.fconst0)))).2)) 18 zgo_114 rfl inX10 (by decide) zw_1196 rfl rfl dX10_seamsIn_111 ?_
                      refine z_fcmp dX10_seamsIn_114 ?_
                      refine z_if_le (tgt := 123) dX10_seamsIn_115 (by decide) (fun c_115 => ?_) (fun c_115 => ?_)
                      · skip
                        refine z_aload_n 6 dX10_seamsIn_123 rfl rfl ?_
                        refine z_get (v := .float ((rSk s c w true j i k (rSb s c w true j i (rSy s c w true j (0, FP.fconst0)))).2)) 18 zgo_114 rfl inX10 (by decide) zw_1196 rfl rfl dX10_seamsIn_124 ?_
                        refine z_top (v2 := .float (if zGt (rAp s (rY s j i) (rY s (j + k) (i + 1 - k))) (rSk s c w true j i k (rSb s c w true j i (rSy s c w true j (0, FP.fconst0)))).2 then (rAp s (rY s j i) (rY s (j + k) (i + 1 - k))) else (rSk s c w true j i k (rSb s c w true j i (rSy s c w true j (0, FP.fconst0)))).2)) (by first | (rw [if_pos (show zGt _ _ = true from decide_eq_true (Int32.not_le.mp c_115))]) | (rw [if_neg (show ¬ zGt _ _ = true from by rw [show zGt _ _ = false from decide_eq_false (Int32.not_lt.mpr c_115)]; decide)])) ?_
                        exact J127_139
                      · skip
                        refine z_fload 0 dX10_seamsIn_118 rfl ?_
                        refine z_goto (tgt := 127) dX10_seamsIn_120 (by decide) ?_
                        refine z_top (v2 := .float (if zGt (rAp s (rY s j i) (rY s (j + k) (i + 1 - k))) (rSk s c w true j i k (rSb s c w true j i (rSy s c w true j (0, FP.fconst0)))).2 then (rAp s (rY s j i) (rY s (j + k) (i + 1 - k))) else (rSk s c w true j i k (rSb s c w true j i (rSy s c w true j (0, FP.fconst0)))).2)) (by first | (rw [if_pos (show zGt _ _ = true from decide_eq_true (Int32.not_le.mp c_115))]) | (rw [if_neg (show ¬ zGt _ _ = true from by rw [show zGt _ _ = false from decide_eq_false (Int32.not_lt.mpr c_115)]; decide)])) ?_
                        exact J127_139
              refine z_sub [0, 1, 2, 3, 4, 5, 6] (lv' := [(6, .int (nI 0)), (5, .int (nI i)), (4, .int (nI j)), (3, .float ((s 5).toUInt32)), (2, .int (nI ((rSb s c w true j i (rSy s c w true j (0, FP.fconst0))).1))), (0, .ref 114), (1, .int (nI 1))]) rfl ?_
              refine z_eqs (lv2 := [(6, .int (nI 0)), (5, .int (nI i)), (4, .int (nI j)), (3, .float ((s 5).toUInt32)), (2, .int (nI ((rSk s c w true j i 0 (rSb s c w true j i (rSy s c w true j (0, FP.fconst0)))).1))), (0, .ref 114), (1, .int (nI 1))]) (h2 := (zHp S X (s, past, aside, pasts, txt, typed, thrown, line, need, left, slits, slB, slF, slT, at9, wd9, got, ans, (rSk s c w true j i 0 (rSb s c w true j i (rSy s c w true j (0, FP.fconst0)))).2) out)) (by rfl) (by rfl) ?_
              exact L48_3 (2 + 1) 0 (by omega) (by omega)
        refine z_sub [0, 1, 2, 3, 4, 5] (lv' := [(5, .int (nI 0)), (4, .int (nI j)), (3, .float ((s 5).toUInt32)), (2, .int (nI ((rSy s c w true j (0, FP.fconst0)).1))), (0, .ref 114), (1, .int (nI 1))]) rfl ?_
        refine z_eqs (lv2 := [(5, .int (nI 0)), (4, .int (nI j)), (3, .float ((s 5).toUInt32)), (2, .int (nI ((rSb s c w true j 0 (rSy s c w true j (0, FP.fconst0))).1))), (0, .ref 114), (1, .int (nI 1))]) (h2 := (zHp S X (s, past, aside, pasts, txt, typed, thrown, line, need, left, slits, slB, slF, slT, at9, wd9, got, ans, (rSb s c w true j 0 (rSy s c w true j (0, FP.fconst0))).2) out)) (by rfl) (by rfl) ?_
        exact L34_2 (c + 1) 0 (by omega) (by omega)
  refine z_sub [0, 1, 2, 3, 4] (lv' := [(4, .int (nI 0)), (3, .float ((s 5).toUInt32)), (2, .int (nI 0)), (0, .ref 114), (1, .int (nI 1))]) rfl ?_
  refine z_eqs (lv2 := [(4, .int (nI 0)), (3, .float ((s 5).toUInt32)), (2, .int (nI ((rSy s c w true 0 (0, FP.fconst0)).1))), (0, .ref 114), (1, .int (nI 1))]) (h2 := (zHp S X (s, past, aside, pasts, txt, typed, thrown, line, need, left, slits, slB, slF, slT, at9, wd9, got, ans, (rSy s c w true 0 (0, FP.fconst0)).2) out)) (by rfl) (by rfl) ?_
  exact L20_1 (w + 1) 0 (by omega) (by omega)

set_option maxHeartbeats 4000000 in
set_option maxRecDepth 100000 in
theorem m_mean {G : zT} {S : zS} {X : zXr} {out : Nat → Int64} {s : (Nat → Int32)} {past : (Nat → Int32)} {aside : (Nat → Int32)} {pasts : Nat} {txt : (Nat → Int32)} {typed : Nat} {thrown : Int32} {line : (Nat → Int32)} {need : (Nat → Int32)} {left : (Nat → Int32)} {slits : Nat} {slB : (Nat → Int32)} {slF : (Nat → Int32)} {slT : (Nat → Int32)} {at9 : Nat} {wd9 : Int32} {got : (Nat → Int32)} {ans : Int32} {worst : UInt32} (hG : zAl G = false) {c r w cnt lim : Nat} (hM : zMd s c r w cnt lim) (hsh : rShs s) (hY : ∀ y b, y < w → b < c → rY s y b = -1 ∨ ∃ j, j < 16 ∧ rY s y b = nI j) (v : Int32) : zRun G mX10_mean 0 0 [.ref 114, .int v] (zHp S X (s, past, aside, pasts, txt, typed, thrown, line, need, left, slits, slB, slF, slT, at9, wd9, got, ans, worst) out) (.inr (some (.int ((rMe s c w v).toInt32)))) (zHp S X (s, past, aside, pasts, txt, typed, thrown, line, need, left, slits, slB, slF, slT, at9, wd9, got, ans, worst) out) := by
  have hM9 := hM
  obtain ⟨h0, h1, h2, h3, h4, hc1, hc, hr1, hr, hw, hn, hl⟩ := hM
  refine zRun_of (by decide +kernel) rfl rfl (Nat.le_of_ble_eq_true rfl) ?_
  suffices hs : ∀ (o9 : zO) (h9 : zH), (Sum.inr (some (.int ((rMe s c w v).toInt32))) : zO) = o9 → (zHp S X (s, past, aside, pasts, txt, typed, thrown, line, need, left, slits, slB, slF, slT, at9, wd9, got, ans, worst) out) = h9 → zPW G mX10_mean 0 0 o9 h9 0 0 0 [(0, .ref 114), (1, .int v)] [] (zHp S X (s, past, aside, pasts, txt, typed, thrown, line, need, left, slits, slB, slF, slT, at9, wd9, got, ans, worst) out) from hs _ _ rfl rfl
  intro o9 h9 ho9 hh9
  refine z_fconst0 dX10_mean_0 ?_
  refine z_fstore_n (lv' := [(2, .float (FP.fconst0)), (0, .ref 114), (1, .int v)]) dX10_mean_1 rfl (by decide) rfl ?_
  refine z_iconst (v := nI 0) dX10_mean_2 (by decide) ?_
  refine z_istore_n (lv' := [(3, .int (nI 0)), (2, .float (FP.fconst0)), (0, .ref 114), (1, .int v)]) dX10_mean_3 rfl (by decide) rfl ?_
  refine z_iconst (v := nI 0) dX10_mean_4 (by decide) ?_
  refine z_istore (lv' := [(4, .int (nI 0)), (3, .int (nI 0)), (2, .float (FP.fconst0)), (0, .ref 114), (1, .int v)]) dX10_mean_5 (by decide) rfl ?_
  have L7_1 : ∀ (d k : Nat), k ≤ w → w + 1 ≤ k + d → zPW G mX10_mean 0 0 o9 h9 0 0 7 [(4, .int (nI k)), (3, .int (nI (zSN (fun y => zCt (fun b => rW s y b == v) c) k))), (2, .float (rMy s c w v k FP.fconst0)), (0, .ref 114), (1, .int v)] [] (zHp S X (s, past, aside, pasts, txt, typed, thrown, line, need, left, slits, slB, slF, slT, at9, wd9, got, ans, worst) out) := by
    intro d
    induction d with
    | zero => intro k hk hd; exact absurd hd (by omega)
    | succ d ih =>
      intro k hk_k hd_k
      have ih7 := ih
      clear ih
      refine z_iload 0 dX10_mean_7 rfl ?_
      refine z_aload_n 3 dX10_mean_9 rfl rfl ?_
      refine z_get (v := .ref 115) 0 zgo_114 rfl inX10 (by decide) zw_1178 rfl rfl dX10_mean_10 ?_
      refine z_iconst (v := nI 2) dX10_mean_13 (by decide) ?_
      refine z_ialdN (f := s) (n := 1371) (j := 2) zga_115 (by omega) (by decide) dX10_mean_14 ?_
      refine z_top (v2 := .int (nI w)) (by rw [h2]) ?_
      refine z_icmp_ge (tgt := 74) dX10_mean_15 (by decide) (fun c_15 => ?_) (fun c_15 => ?_)
      · skip
        have f_15 := m_le (by first | omega | exact Nat.lt_of_le_of_lt (rMn_le (by omega) (by omega)) (by decide)) (by first | omega | exact Nat.lt_of_le_of_lt (rMn_le (by omega) (by omega)) (by decide)) c_15
        have e_k : k = w := by omega
        rw [e_k]
        have J86_33 : zPW G mX10_mean 0 0 o9 h9 0 0 86 [(4, .int (nI w)), (3, .int (nI (zSN (fun y => zCt (fun b => rW s y b == v) c) w))), (2, .float (rMy s c w v w FP.fconst0)), (0, .ref 114), (1, .int v)] [.float (rMe s c w v)] (zHp S X (s, past, aside, pasts, txt, typed, thrown, line, need, left, slits, slB, slF, slT, at9, wd9, got, ans, worst) out) := by
          refine z_callSO (N := mJxf58ca_floatToIntBits_5c35a) 1 [.float (rMe s c w v)] [] lJxf58ca_floatToIntBits_5c35a ⟨zw_1168, zw_1169⟩ rfl rfl (Nat.le_of_ble_eq_true rfl) (by decide) ⟨zlt, zlt⟩ hG ⟨Nat.zero_le _, Nat.zero_le _⟩ (m_f2ib hG (rMe s c w v) (rMe_ok hsh hY hc (by omega))) dX10_mean_86 ?_
          exact z_iret rfl dX10_mean_89 (zo_i ho9 (by rfl)) (zo_h hh9 (by rfl)) (Nat.zero_le _) (Nat.zero_le _)
        refine z_iload_n 1 dX10_mean_74 rfl rfl ?_
        refine z_if_ne (tgt := 82) dX10_mean_75 (by decide) (fun c_75 => ?_) (fun c_75 => ?_)
        · skip
          have f_75 := m_z_ne_t (by first | omega | exact Nat.lt_of_le_of_lt (rMn_le (by omega) (by omega)) (by decide)) c_75
          refine z_fload_n 2 dX10_mean_82 rfl rfl ?_
          refine z_iload_n 1 dX10_mean_83 rfl rfl ?_
          refine z_i2f dX10_mean_84 ?_
          refine z_fdiv dX10_mean_85 (by exact (fp_div (rMy_ok hsh hY (by omega)) (Nat.pos_of_ne_zero f_75) (Nat.lt_of_le_of_lt (rMn_le (by omega) (by omega)) (by decide))).1) ?_
          refine z_top (v2 := .float (rMe s c w v)) (by first | (unfold rMe; rw [if_pos f_75]) | (unfold rMe; rw [if_neg f_75])) ?_
          exact J86_33
        · skip
          have f_75 := m_z_ne_f (by first | omega | exact Nat.lt_of_le_of_lt (rMn_le (by omega) (by omega)) (by decide)) c_75
          refine z_fconst0 dX10_mean_78 ?_
          refine z_goto (tgt := 86) dX10_mean_79 (by decide) ?_
          refine z_top (v2 := .float (rMe s c w v)) (by first | (unfold rMe; rw [if_pos f_75]) | (unfold rMe; rw [if_neg f_75])) ?_
          exact J86_33
      · skip
        have f_15 := m_nle (by first | omega | exact Nat.lt_of_le_of_lt (rMn_le (by omega) (by omega)) (by decide)) (by first | omega | exact Nat.lt_of_le_of_lt (rMn_le (by omega) (by omega)) (by decide)) c_15
        refine z_iconst (v := nI 0) dX10_mean_18 (by decide) ?_
        refine z_istore (lv' := [(5, .int (nI 0)), (4, .int (nI k)), (3, .int (nI (zSN (fun y => zCt (fun b => rW s y b == v) c) k))), (2, .float (rMy s c w v k FP.fconst0)), (0, .ref 114), (1, .int v)]) dX10_mean_19 (by decide) rfl ?_
        have L21_2 : ∀ (d j : Nat), j ≤ c → c + 1 ≤ j + d → zPW G mX10_mean 0 0 o9 h9 0 0 21 [(5, .int (nI j)), (4, .int (nI k)), (3, .int (nI (zSN (fun y => zCt (fun b => rW s y b == v) c) k + zCt (fun b => rW s k b == v) j))), (2, .float (rMb s c w v k j (rMy s c w v k FP.fconst0))), (0, .ref 114), (1, .int v)] [] (zHp S X (s, past, aside, pasts, txt, typed, thrown, line, need, left, slits, slB, slF, slT, at9, wd9, got, ans, worst) out) := by
          intro d
          induction d with
          | zero => intro j hk hd; exact absurd hd (by omega)
          | succ d ih =>
            intro j hk_j hd_j
            have ih21 := ih
            clear ih
            refine z_iload 0 dX10_mean_21 rfl ?_
            refine z_aload_n 4 dX10_mean_23 rfl rfl ?_
            refine z_get (v := .ref 115) 0 zgo_114 rfl inX10 (by decide) zw_1178 rfl rfl dX10_mean_24 ?_
            refine z_iconst (v := nI 0) dX10_mean_27 (by decide) ?_
            refine z_ialdN (f := s) (n := 1371) (j := 0) zga_115 (by omega) (by decide) dX10_mean_28 ?_
            refine z_top (v2 := .int (nI c)) (by rw [h0]) ?_
            refine z_icmp_ge (tgt := 68) dX10_mean_29 (by decide) (fun c_29 => ?_) (fun c_29 => ?_)
            · skip
              have f_29 := m_le (by first | omega | exact Nat.lt_of_le_of_lt (rMn_le (by omega) (by omega)) (by decide)) (by first | omega | exact Nat.lt_of_le_of_lt (rMn_le (by omega) (by omega)) (by decide)) c_29
              have e_j : j = c := by omega
              rw [e_j]
              refine z_iinc (v := nI (k + 1)) (lv' := [(4, .int (nI (k + 1))), (5, .int (nI c)), (3, .int (nI (zSN (fun y => zCt (fun b => rW s y b == v) c) k + zCt (fun b => rW s k b == v) c))), (2, .float (rMb s c w v k c (rMy s c w v k FP.fconst0))), (0, .ref 114), (1, .int v)]) 1 dX10_mean_68 rfl (nI_1 _) (by decide) rfl ?_
              refine z_goto (tgt := 7) dX10_mean_71 (by decide) ?_
              refine z_sub [0, 2, 3, 4, 5] (lv' := [(4, .int (nI (k + 1))), (3, .int (nI (zSN (fun y => zCt (fun b => rW s y b == v) c) k + zCt (fun b => rW s k b == v) c))), (2, .float (rMb s c w v k c (rMy s c w v k FP.fconst0))), (0, .ref 114), (1, .int v)]) rfl ?_
              refine z_eqs (lv2 := [(4, .int (nI ((k + 1)))), (3, .int (nI (zSN (fun y => zCt (fun b => rW s y b == v) c) (k + 1)))), (2, .float (rMy s c w v (k + 1) FP.fconst0)), (0, .ref 114), (1, .int v)]) (h2 := (zHp S X (s, past, aside, pasts, txt, typed, thrown, line, need, left, slits, slB, slF, slT, at9, wd9, got, ans, worst) out)) (by rfl) (by rfl) ?_
              exact ih7 (k + 1) (by omega) (by omega)
            · skip
              have f_29 := m_nle (by first | omega | exact Nat.lt_of_le_of_lt (rMn_le (by omega) (by omega)) (by decide)) (by first | omega | exact Nat.lt_of_le_of_lt (rMn_le (by omega) (by omega)) (by decide)) c_29
              refine z_aload_n 4 dX10_mean_32 rfl rfl ?_
              refine z_iload 1 dX10_mean_33 rfl ?_
              refine z_iload 0 dX10_mean_35 rfl ?_
              refine z_callV (N := mX10_woven) 2 [.int (nI k), .int (nI j)] [] lX10_woven ⟨zw_1328, zw_1330, zw_57⟩ rfl zgo_114 rfl rfl (Nat.le_of_ble_eq_true rfl) (by decide) ⟨zlt, zlt⟩ ⟨Nat.zero_le _, Nat.zero_le _⟩ (fun _ => rfl) (m_woven hG k j (by omega) (by omega)) dX10_mean_37 ?_
              refine z_iload_n 5 dX10_mean_40 rfl rfl ?_
              refine z_icmp_ne (tgt := 62) dX10_mean_41 (by decide) (fun c_41 => ?_) (fun c_41 => ?_)
              · skip
                refine z_iinc (v := nI (j + 1)) (lv' := [(5, .int (nI (j + 1))), (4, .int (nI k)), (3, .int (nI (zSN (fun y => zCt (fun b => rW s y b == v) c) k + zCt (fun b => rW s k b == v) j))), (2, .float (rMb s c w v k j (rMy s c w v k FP.fconst0))), (0, .ref 114), (1, .int v)]) 0 dX10_mean_62 rfl (nI_1 _) (by decide) rfl ?_
                refine z_goto (tgt := 21) dX10_mean_65 (by decide) ?_
                refine z_sub [0, 1, 2, 3, 4, 5] (lv' := [(5, .int (nI (j + 1))), (4, .int (nI k)), (3, .int (nI (zSN (fun y => zCt (fun b => rW s y b == v) c) k + zCt (fun b => rW s k b == v) j))), (2, .float (rMb s c w v k j (rMy s c w v k FP.fconst0))), (0, .ref 114), (1, .int v)]) rfl ?_
                refine z_eqs (lv2 := [(5, .int (nI ((j + 1)))), (4, .int (nI k)), (3, .int (nI (zSN (fun y => zCt (fun b => rW s y b == v) c) k + zCt (fun b => rW s k b == v) (j + 1)))), (2, .float (rMb s c w v k (j + 1) (rMy s c w v k FP.fconst0))), (0, .ref 114), (1, .int v)]) (h2 := (zHp S X (s, past, aside, pasts, txt, typed, thrown, line, need, left, slits, slB, slF, slT, at9, wd9, got, ans, worst) out)) (by first | (rw [rMb_t c_41, Nat.add_assoc, zCt_T (p := fun b => rW s k b == v) (by simp [c_41])]) | (rw [rMb_f c_41, ← zCt_F (p := fun b => rW s k b == v) (by simp [c_41])]; rfl)) (by rfl) ?_
                exact ih21 (j + 1) (by omega) (by omega)
              · skip
                refine z_fload_n 3 dX10_mean_44 rfl rfl ?_
                refine z_aload_n 4 dX10_mean_45 rfl rfl ?_
                refine z_aload_n 4 dX10_mean_46 rfl rfl ?_
                refine z_iload 1 dX10_mean_47 rfl ?_
                refine z_iload 0 dX10_mean_49 rfl ?_
                refine z_callV (N := mX10_yarn) 2 [.int (nI k), .int (nI j)] [.ref 114, .float (rMb s c w v k j (rMy s c w v k FP.fconst0))] lX10_yarn ⟨zw_1400, zw_1402, zw_72⟩ rfl zgo_114 rfl rfl (Nat.le_of_ble_eq_true rfl) (by decide) ⟨zlt, zlt⟩ ⟨Nat.zero_le _, Nat.zero_le _⟩ (fun _ => rfl) (m_yarn hG k j (by omega) (by omega)) dX10_mean_51 ?_
                refine z_callV (N := mX10_shade) 1 [.int (rY s k j)] [.float (rMb s c w v k j (rMy s c w v k FP.fconst0))] lX10_shade ⟨zw_1520, zw_1522, zw_95⟩ rfl zgo_114 rfl rfl (Nat.le_of_ble_eq_true rfl) (by decide) ⟨zlt, zlt⟩ ⟨Nat.zero_le _, Nat.zero_le _⟩ (fun _ => rfl) (m_shade hG hsh (rY s k j) (hY k j (by omega) (by omega))) dX10_mean_54 ?_
                refine z_fadd dX10_mean_57 (by exact (rMs_add hsh (hY k j (by omega) (by omega)) (rMb_ok hsh hY (by omega) (by omega))).1) ?_
                refine z_top (v2 := .float (FP.fadd (rMb s c w v k j (rMy s c w v k FP.fconst0)) (zFb (s (rIx (rY s k j) 3))))) (by exact congrArg Value.float (rMs_add hsh (hY k j (by omega) (by omega)) (rMb_ok hsh hY (by omega) (by omega))).2) ?_
                refine z_fstore_n (lv' := [(2, .float (FP.fadd (rMb s c w v k j (rMy s c w v k FP.fconst0)) (zFb (s (rIx (rY s k j) 3))))), (5, .int (nI j)), (4, .int (nI k)), (3, .int (nI (zSN (fun y => zCt (fun b => rW s y b == v) c) k + zCt (fun b => rW s k b == v) j))), (0, .ref 114), (1, .int v)]) dX10_mean_58 rfl (by decide) rfl ?_
                refine z_iinc (v := nI (zSN (fun y => zCt (fun b => rW s y b == v) c) k + zCt (fun b => rW s k b == v) j + 1)) (lv' := [(3, .int (nI (zSN (fun y => zCt (fun b => rW s y b == v) c) k + zCt (fun b => rW s k b == v) j + 1))), (2, .float (FP.fadd (rMb s c w v k j (rMy s c w v k FP.fconst0)) (zFb (s (rIx (rY s k j) 3))))), (5, .int (nI j)), (4, .int (nI k)), (0, .ref 114), (1, .int v)]) 3 dX10_mean_59 rfl (nI_1 _) (by decide) rfl ?_
                refine z_iinc (v := nI (j + 1)) (lv' := [(5, .int (nI (j + 1))), (3, .int (nI (zSN (fun y => zCt (fun b => rW s y b == v) c) k + zCt (fun b => rW s k b == v) j + 1))), (2, .float (FP.fadd (rMb s c w v k j (rMy s c w v k FP.fconst0)) (zFb (s (rIx (rY s k j) 3))))), (4, .int (nI k)), (0, .ref 114), (1, .int v)]) 2 dX10_mean_62 rfl (nI_1 _) (by decide) rfl ?_
                refine z_goto (tgt := 21) dX10_mean_65 (by decide) ?_
                refine z_sub [0, 3, 1, 2, 4, 5] (lv' := [(5, .int (nI (j + 1))), (4, .int (nI k)), (3, .int (nI (zSN (fun y => zCt (fun b => rW s y b == v) c) k + zCt (fun b => rW s k b == v) j + 1))), (2, .float (FP.fadd (rMb s c w v k j (rMy s c w v k FP.fconst0)) (zFb (s (rIx (rY s k j) 3))))), (0, .ref 114), (1, .int v)]) rfl ?_
                refine z_eqs (lv2 := [(5, .int (nI ((j + 1)))), (4, .int (nI k)), (3, .int (nI (zSN (fun y => zCt (fun b => rW s y b == v) c) k + zCt (fun b => rW s k b == v) (j + 1)))), (2, .float (rMb s c w v k (j + 1) (rMy s c w v k FP.fconst0))), (0, .ref 114), (1, .int v)]) (h2 := (zHp S X (s, past, aside, pasts, txt, typed, thrown, line, need, left, slits, slB, slF, slT, at9, wd9, got, ans, worst) out)) (by first | (rw [rMb_t c_41, Nat.add_assoc, zCt_T (p := fun b => rW s k b == v) (by simp [c_41])]) | (rw [rMb_f c_41, ← zCt_F (p := fun b => rW s k b == v) (by simp [c_41])]; rfl)) (by rfl) ?_
                exact ih21 (j + 1) (by omega) (by omega)
        refine z_sub [0, 1, 2, 3, 4, 5] (lv' := [(5, .int (nI 0)), (4, .int (nI k)), (3, .int (nI (zSN (fun y => zCt (fun b => rW s y b == v) c) k))), (2, .float (rMy s c w v k FP.fconst0)), (0, .ref 114), (1, .int v)]) rfl ?_
        refine z_eqs (lv2 := [(5, .int (nI 0)), (4, .int (nI k)), (3, .int (nI (zSN (fun y => zCt (fun b => rW s y b == v) c) k + zCt (fun b => rW s k b == v) 0))), (2, .float (rMb s c w v k 0 (rMy s c w v k FP.fconst0))), (0, .ref 114), (1, .int v)]) (h2 := (zHp S X (s, past, aside, pasts, txt, typed, thrown, line, need, left, slits, slB, slF, slT, at9, wd9, got, ans, worst) out)) (by rfl) (by rfl) ?_
        exact L21_2 (c + 1) 0 (by omega) (by omega)
  refine z_sub [0, 1, 2, 3, 4] (lv' := [(4, .int (nI 0)), (3, .int (nI 0)), (2, .float (FP.fconst0)), (0, .ref 114), (1, .int v)]) rfl ?_
  refine z_eqs (lv2 := [(4, .int (nI 0)), (3, .int (nI (zSN (fun y => zCt (fun b => rW s y b == v) c) 0))), (2, .float (rMy s c w v 0 FP.fconst0)), (0, .ref 114), (1, .int v)]) (h2 := (zHp S X (s, past, aside, pasts, txt, typed, thrown, line, need, left, slits, slB, slF, slT, at9, wd9, got, ans, worst) out)) (by rfl) (by rfl) ?_
  exact L7_1 (w + 1) 0 (by omega) (by omega)

set_option maxHeartbeats 4000000 in
set_option maxRecDepth 100000 in
theorem m_contrasts {G : zT} {S : zS} {X : zXr} {out : Nat → Int64} {s : (Nat → Int32)} {past : (Nat → Int32)} {aside : (Nat → Int32)} {pasts : Nat} {txt : (Nat → Int32)} {typed : Nat} {thrown : Int32} {line : (Nat → Int32)} {need : (Nat → Int32)} {left : (Nat → Int32)} {slits : Nat} {slB : (Nat → Int32)} {slF : (Nat → Int32)} {slT : (Nat → Int32)} {at9 : Nat} {wd9 : Int32} {got : (Nat → Int32)} {ans : Int32} {worst : UInt32} (hG : zAl G = false) {c r w cnt lim : Nat} (hM : zMd s c r w cnt lim) (hsh : rShs s) (hY : ∀ y b, y < w → b < c → rY s y b = -1 ∨ ∃ j, j < 16 ∧ rY s y b = nI j) (y : Nat) (hy : y < w) : zRun G mX10_contrasts 0 0 [.ref 114, .int (nI y)] (zHp S X (s, past, aside, pasts, txt, typed, thrown, line, need, left, slits, slB, slF, slT, at9, wd9, got, ans, worst) out) (.inr (some (.int ((rCn s c y).toInt32)))) (zHp S X (s, past, aside, pasts, txt, typed, thrown, line, need, left, slits, slB, slF, slT, at9, wd9, got, ans, worst) out) := by
  have hM9 := hM
  obtain ⟨h0, h1, h2, h3, h4, hc1, hc, hr1, hr, hw, hn, hl⟩ := hM
  refine zRun_of (by decide +kernel) rfl rfl (Nat.le_of_ble_eq_true rfl) ?_
  suffices hs : ∀ (o9 : zO) (h9 : zH), (Sum.inr (some (.int ((rCn s c y).toInt32))) : zO) = o9 → (zHp S X (s, past, aside, pasts, txt, typed, thrown, line, need, left, slits, slB, slF, slT, at9, wd9, got, ans, worst) out) = h9 → zPW G mX10_contrasts 0 0 o9 h9 0 0 0 [(0, .ref 114), (1, .int (nI y))] [] (zHp S X (s, past, aside, pasts, txt, typed, thrown, line, need, left, slits, slB, slF, slT, at9, wd9, got, ans, worst) out) from hs _ _ rfl rfl
  intro o9 h9 ho9 hh9
  refine z_fconst0 dX10_contrasts_0 ?_
  refine z_fstore_n (lv' := [(2, .float (FP.fconst0)), (0, .ref 114), (1, .int (nI y))]) dX10_contrasts_1 rfl (by decide) rfl ?_
  refine z_iconst (v := nI 0) dX10_contrasts_2 (by decide) ?_
  refine z_istore_n (lv' := [(3, .int (nI 0)), (2, .float (FP.fconst0)), (0, .ref 114), (1, .int (nI y))]) dX10_contrasts_3 rfl (by decide) rfl ?_
  have L4_1 : ∀ (d k : Nat), k ≤ c - 1 → c - 1 + 1 ≤ k + d → zPW G mX10_contrasts 0 0 o9 h9 0 0 4 [(3, .int (nI k)), (2, .float (rCb s y k FP.fconst0)), (0, .ref 114), (1, .int (nI y))] [] (zHp S X (s, past, aside, pasts, txt, typed, thrown, line, need, left, slits, slB, slF, slT, at9, wd9, got, ans, worst) out) := by
    intro d
    induction d with
    | zero => intro k hk hd; exact absurd hd (by omega)
    | succ d ih =>
      intro k hk_k hd_k
      have ih4 := ih
      clear ih
      refine z_iload_n 0 dX10_contrasts_4 rfl rfl ?_
      refine z_iconst (v := nI 1) dX10_contrasts_5 (by decide) ?_
      refine z_iaddN (a := k) (b := 1) dX10_contrasts_6 ?_
      refine z_aload_n 2 dX10_contrasts_7 rfl rfl ?_
      refine z_get (v := .ref 115) 0 zgo_114 rfl inX10 (by decide) zw_1178 rfl rfl dX10_contrasts_8 ?_
      refine z_iconst (v := nI 0) dX10_contrasts_11 (by decide) ?_
      refine z_ialdN (f := s) (n := 1371) (j := 0) zga_115 (by omega) (by decide) dX10_contrasts_12 ?_
      refine z_top (v2 := .int (nI c)) (by rw [h0]) ?_
      refine z_icmp_ge (tgt := 43) dX10_contrasts_13 (by decide) (fun c_13 => ?_) (fun c_13 => ?_)
      · skip
        have f_13 := m_le (by omega) (by omega) c_13
        have e_k : k = c - 1 := by omega
        rw [e_k]
        have J68_33 : zPW G mX10_contrasts 0 0 o9 h9 0 0 68 [(3, .int (nI (c - 1))), (2, .float (rCb s y (c - 1) FP.fconst0)), (0, .ref 114), (1, .int (nI y))] [.float (rCn s c y)] (zHp S X (s, past, aside, pasts, txt, typed, thrown, line, need, left, slits, slB, slF, slT, at9, wd9, got, ans, worst) out) := by
          refine z_callSO (N := mJxf58ca_floatToIntBits_5c35a) 1 [.float (rCn s c y)] [] lJxf58ca_floatToIntBits_5c35a ⟨zw_1168, zw_1169⟩ rfl rfl (Nat.le_of_ble_eq_true rfl) (by decide) ⟨zlt, zlt⟩ hG ⟨Nat.zero_le _, Nat.zero_le _⟩ (m_f2ib hG (rCn s c y) (rCn_ok hsh hY hc hy hc1)) dX10_contrasts_68 ?_
          exact z_iret rfl dX10_contrasts_71 (zo_i ho9 (by rfl)) (zo_h hh9 (by rfl)) (Nat.zero_le _) (Nat.zero_le _)
        refine z_aload_n 2 dX10_contrasts_43 rfl rfl ?_
        refine z_get (v := .ref 115) 0 zgo_114 rfl inX10 (by decide) zw_1178 rfl rfl dX10_contrasts_44 ?_
        refine z_iconst (v := nI 0) dX10_contrasts_47 (by decide) ?_
        refine z_ialdN (f := s) (n := 1371) (j := 0) zga_115 (by omega) (by decide) dX10_contrasts_48 ?_
        refine z_top (v2 := .int (nI c)) (by rw [h0]) ?_
        refine z_iconst (v := nI 1) dX10_contrasts_49 (by decide) ?_
        refine z_icmp_ne (tgt := 57) dX10_contrasts_50 (by decide) (fun c_50 => ?_) (fun c_50 => ?_)
        · skip
          have f_50 := m_ne (by omega) (by omega) c_50
          refine z_fload_n 1 dX10_contrasts_57 rfl rfl ?_
          refine z_aload_n 2 dX10_contrasts_58 rfl rfl ?_
          refine z_get (v := .ref 115) 0 zgo_114 rfl inX10 (by decide) zw_1178 rfl rfl dX10_contrasts_59 ?_
          refine z_iconst (v := nI 0) dX10_contrasts_62 (by decide) ?_
          refine z_ialdN (f := s) (n := 1371) (j := 0) zga_115 (by omega) (by decide) dX10_contrasts_63 ?_
          refine z_top (v2 := .int (nI c)) (by rw [h0]) ?_
          refine z_iconst (v := nI 1) dX10_contrasts_64 (by decide) ?_
          refine z_isubN (a := c) (b := 1) (by omega) dX10_contrasts_65 ?_
          refine z_i2f dX10_contrasts_66 ?_
          refine z_fdiv dX10_contrasts_67 (by exact (fp_div (rCb_ok hsh hY hy (by omega)) (by omega) (by omega)).1) ?_
          refine z_top (v2 := .float (rCn s c y)) (by first | (unfold rCn; rw [if_pos f_50]) | (unfold rCn; rw [if_neg f_50])) ?_
          exact J68_33
        · skip
          have f_50 := m_eq (by omega) (by omega) c_50
          refine z_fconst0 dX10_contrasts_53 ?_
          refine z_goto (tgt := 68) dX10_contrasts_54 (by decide) ?_
          refine z_top (v2 := .float (rCn s c y)) (by first | (unfold rCn; rw [if_pos f_50]) | (unfold rCn; rw [if_neg f_50])) ?_
          exact J68_33
      · skip
        have f_13 := m_nle (by omega) (by omega) c_13
        refine z_fload_n 1 dX10_contrasts_16 rfl rfl ?_
        refine z_aload_n 2 dX10_contrasts_17 rfl rfl ?_
        refine z_aload_n 2 dX10_contrasts_18 rfl rfl ?_
        refine z_iload_n 3 dX10_contrasts_19 rfl rfl ?_
        refine z_iload_n 0 dX10_contrasts_20 rfl rfl ?_
        refine z_callV (N := mX10_yarn) 2 [.int (nI y), .int (nI k)] [.ref 114, .float (rCb s y k FP.fconst0)] lX10_yarn ⟨zw_1400, zw_1402, zw_72⟩ rfl zgo_114 rfl rfl (Nat.le_of_ble_eq_true rfl) (by decide) ⟨zlt, zlt⟩ ⟨Nat.zero_le _, Nat.zero_le _⟩ (fun _ => rfl) (m_yarn hG y k (by omega) (by omega)) dX10_contrasts_21 ?_
        refine z_aload_n 2 dX10_contrasts_24 rfl rfl ?_
        refine z_iload_n 3 dX10_contrasts_25 rfl rfl ?_
        refine z_iload_n 0 dX10_contrasts_26 rfl rfl ?_
        refine z_iconst (v := nI 1) dX10_contrasts_27 (by decide) ?_
        refine z_iaddN (a := k) (b := 1) dX10_contrasts_28 ?_
        refine z_callV (N := mX10_yarn) 2 [.int (nI y), .int (nI (k + 1))] [.int (rY s y k), .ref 114, .float (rCb s y k FP.fconst0)] lX10_yarn ⟨zw_1400, zw_1402, zw_72⟩ rfl zgo_114 rfl rfl (Nat.le_of_ble_eq_true rfl) (by decide) ⟨zlt, zlt⟩ ⟨Nat.zero_le _, Nat.zero_le _⟩ (fun _ => rfl) (m_yarn hG y (k + 1) (by omega) (by omega)) dX10_contrasts_29 ?_
        refine z_callV (N := mX10_apart) 2 [.int (rY s y k), .int (rY s y (k + 1))] [.float (rCb s y k FP.fconst0)] lX10_apart ⟨zw_1516, zw_1518, zw_94⟩ rfl zgo_114 rfl rfl (Nat.le_of_ble_eq_true rfl) (by decide) ⟨zlt, zlt⟩ ⟨Nat.zero_le _, Nat.zero_le _⟩ (fun _ => rfl) (m_apart hG hsh (rY s y k) (rY s y (k + 1)) (hY y k (by omega) (by omega)) (hY y (k + 1) (by omega) (by omega))) dX10_contrasts_32 ?_
        refine z_fadd dX10_contrasts_35 (by exact (fp_add (rCb_ok hsh hY hy (by omega)) (rAp_ok hsh (hY y k (by omega) (by omega)) (hY y (k + 1) (by omega) (by omega)))).1) ?_
        refine z_fstore_n (lv' := [(2, .float (FP.fadd (rCb s y k FP.fconst0) (rAp s (rY s y k) (rY s y (k + 1))))), (3, .int (nI k)), (0, .ref 114), (1, .int (nI y))]) dX10_contrasts_36 rfl (by decide) rfl ?_
        refine z_iinc (v := nI (k + 1)) (lv' := [(3, .int (nI (k + 1))), (2, .float (FP.fadd (rCb s y k FP.fconst0) (rAp s (rY s y k) (rY s y (k + 1))))), (0, .ref 114), (1, .int (nI y))]) 1 dX10_contrasts_37 rfl (nI_1 _) (by decide) rfl ?_
        refine z_goto (tgt := 4) dX10_contrasts_40 (by decide) ?_
        refine z_sub [0, 1, 2, 3] (lv' := [(3, .int (nI (k + 1))), (2, .float (FP.fadd (rCb s y k FP.fconst0) (rAp s (rY s y k) (rY s y (k + 1))))), (0, .ref 114), (1, .int (nI y))]) rfl ?_
        refine z_eqs (lv2 := [(3, .int (nI ((k + 1)))), (2, .float (rCb s y (k + 1) FP.fconst0)), (0, .ref 114), (1, .int (nI y))]) (h2 := (zHp S X (s, past, aside, pasts, txt, typed, thrown, line, need, left, slits, slB, slF, slT, at9, wd9, got, ans, worst) out)) (by rfl) (by rfl) ?_
        exact ih4 (k + 1) (by omega) (by omega)
  refine z_sub [0, 1, 2, 3] (lv' := [(3, .int (nI 0)), (2, .float (FP.fconst0)), (0, .ref 114), (1, .int (nI y))]) rfl ?_
  refine z_eqs (lv2 := [(3, .int (nI 0)), (2, .float (rCb s y 0 FP.fconst0)), (0, .ref 114), (1, .int (nI y))]) (h2 := (zHp S X (s, past, aside, pasts, txt, typed, thrown, line, need, left, slits, slB, slF, slT, at9, wd9, got, ans, worst) out)) (by rfl) (by rfl) ?_
  exact L4_1 (c - 1 + 1) 0 (by omega) (by omega)

set_option maxHeartbeats 4000000 in
set_option maxRecDepth 100000 in
theorem m_worstOf {G : zT} {S : zS} {X : zXr} {out : Nat → Int64} {s : (Nat → Int32)} {past : (Nat → Int32)} {aside : (Nat → Int32)} {pasts : Nat} {txt : (Nat → Int32)} {typed : Nat} {thrown : Int32} {line : (Nat → Int32)} {need : (Nat → Int32)} {left : (Nat → Int32)} {slits : Nat} {slB : (Nat → Int32)} {slF : (Nat → Int32)} {slT : (Nat → Int32)} {at9 : Nat} {wd9 : Int32} {got : (Nat → Int32)} {ans : Int32} {worst : UInt32} (hG : zAl G = false) {c r w cnt lim : Nat} (hM : zMd s c r w cnt lim) (hsh : rShs s) (hY : ∀ y b, y < w → b < c → rY s y b = -1 ∨ ∃ j, j < 16 ∧ rY s y b = nI j) (htl : rShv (s 5)) : zRun G mX10_worstOf 0 0 [.ref 114] (zHp S X (s, past, aside, pasts, txt, typed, thrown, line, need, left, slits, slB, slF, slT, at9, wd9, got, ans, worst) out) (.inr (some (.int ((rSy s c w false w (0, FP.fconst0)).2.toInt32)))) (zHp S X (s, past, aside, pasts, txt, typed, thrown, line, need, left, slits, slB, slF, slT, at9, wd9, got, ans, (rSy s c w false w (0, FP.fconst0)).2) out) := by
  have hM9 := hM
  obtain ⟨h0, h1, h2, h3, h4, hc1, hc, hr1, hr, hw, hn, hl⟩ := hM
  refine zRun_of (by decide +kernel) rfl rfl (Nat.le_of_ble_eq_true rfl) ?_
  suffices hs : ∀ (o9 : zO) (h9 : zH), (Sum.inr (some (.int ((rSy s c w false w (0, FP.fconst0)).2.toInt32))) : zO) = o9 → (zHp S X (s, past, aside, pasts, txt, typed, thrown, line, need, left, slits, slB, slF, slT, at9, wd9, got, ans, (rSy s c w false w (0, FP.fconst0)).2) out) = h9 → zPW G mX10_worstOf 0 0 o9 h9 0 0 0 [(0, .ref 114)] [] (zHp S X (s, past, aside, pasts, txt, typed, thrown, line, need, left, slits, slB, slF, slT, at9, wd9, got, ans, worst) out) from hs _ _ rfl rfl
  intro o9 h9 ho9 hh9
  refine z_aload_n 0 dX10_worstOf_0 rfl rfl ?_
  refine z_iconst (v := nI 0) dX10_worstOf_1 (by decide) ?_
  refine z_callV (N := mX10_seamsIn) 1 [.int (nI 0)] [] lX10_seamsIn ⟨zw_1508, zw_1510, zw_92⟩ rfl zgo_114 rfl rfl (Nat.le_of_ble_eq_true rfl) (by decide) ⟨zlt, zlt⟩ ⟨Nat.zero_le _, Nat.zero_le _⟩ zal (m_seamsIn0 hG hM9 hsh hY htl) dX10_worstOf_2 ?_
  refine z_istore_n (lv' := [(1, .int (nI (rSy s c w false w (0, FP.fconst0)).1)), (0, .ref 114)]) dX10_worstOf_5 rfl (by decide) rfl ?_
  refine z_iload_n 0 dX10_worstOf_6 rfl rfl ?_
  refine z_if_ge (tgt := 14) dX10_worstOf_7 (by decide) (fun c_7 => ?_) (fun c_7 => ?_)
  · skip
    refine z_aload_n 1 dX10_worstOf_14 rfl rfl ?_
    refine z_get (v := .float ((rSy s c w false w (0, FP.fconst0)).2)) 18 zgo_114 rfl inX10 (by decide) zw_1196 rfl rfl dX10_worstOf_15 ?_
    refine z_callSO (N := mJxf58ca_floatToIntBits_5c35a) 1 [.float ((rSy s c w false w (0, FP.fconst0)).2)] [] lJxf58ca_floatToIntBits_5c35a ⟨zw_1168, zw_1169⟩ rfl rfl (Nat.le_of_ble_eq_true rfl) (by decide) ⟨zlt, zlt⟩ hG ⟨Nat.zero_le _, Nat.zero_le _⟩ (m_f2ib hG ((rSy s c w false w (0, FP.fconst0)).2) (rSy_ok hsh hY (Nat.le_refl _))) dX10_worstOf_18 ?_
    exact z_iret rfl dX10_worstOf_21 (zo_i ho9 (by rfl)) (zo_h hh9 (by rfl)) (Nat.zero_le _) (Nat.zero_le _)
  · exfalso; exact c_7 (nI_pos' (Nat.lt_of_le_of_lt (rSy_n w) (Nat.lt_of_le_of_lt (Nat.mul_le_mul (Nat.mul_le_mul_left 2 hc) (show w ≤ 16 by omega)) (by decide))))

