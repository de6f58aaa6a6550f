/-! floats: the class's bits are the bits; sums, means, differences stay small -/
def zUu : Nat := 2 ^ 149
theorem zUu_pos : 0 < zUu := Nat.two_pow_pos _
theorem zmag_i2f {n : Nat} (h0 : 0 < n) (hn : n < 2 ^ 24) : FP.Core.zmag FP.Core.b32 (FP.Core.val32 (FP.i2f (nI n))) = n * zUu := by
  have hl : n.log2 < 24 := (Nat.log2_lt (by omega)).mpr hn
  rw [fx_i2fv h0 hn]
  show n * 2 ^ (23 - n.log2) * 2 ^ (-((23 - n.log2 : Nat) : Int) - -149).toNat = n * zUu
  unfold zUu
  rw [Nat.mul_assoc, ← Nat.pow_add]
  exact congrArg (fun j => n * 2 ^ j) (by omega)
def zB9 (N : Nat) (x : UInt32) : Prop := zPos x ∧ FP.Core.zmag FP.Core.b32 (FP.Core.val32 x) ≤ N * zUu
theorem zB9_fin {N : Nat} {x : UInt32} (hN : N < 2 ^ 24) (h : zB9 N x) : ∃ c q, FP.Core.val32 x = .fin false c q ∧ (-149 : Int) ≤ q ∧ FP.Core.inUnits c q (-149) ≤ N * zUu := by
  have hf := FP.Core.val32_fits x
  rcases fx_val h.1 with e | ⟨c, q, e⟩
  · have h2 := h.2
    rw [e] at h2
    have h3 : 2 ^ 23 * 2 ^ 254 ≤ N * 2 ^ 149 := h2
    have h4 : N * 2 ^ 149 < 2 ^ 24 * 2 ^ 149 := Nat.mul_lt_mul_of_pos_right hN (Nat.two_pow_pos _)
    rw [← Nat.pow_add] at h3 h4
    exact absurd (Nat.lt_of_le_of_lt h3 h4) (Nat.not_lt.mpr (Nat.pow_le_pow_right (by decide) (by decide)))
  · refine ⟨c, q, e, ?_, ?_⟩
    · rw [e] at hf
      exact hf.2.1
    · have h2 := h.2
      rw [e] at h2
      exact h2
theorem zUnits {c : Nat} {q m : Int} (h1 : (-149 : Int) ≤ m) (h2 : m ≤ q) : FP.Core.inUnits c q m * 2 ^ (m - -149).toNat = FP.Core.inUnits c q (-149) := by
  unfold FP.Core.inUnits
  rw [Nat.mul_assoc, ← Nat.pow_add]
  exact congrArg (fun j => c * 2 ^ j) (by omega)
theorem zRr_le {s : Bool} {A B : Nat} {e : Int} {N : Nat} (h0 : 0 < N) (hN : N < 2 ^ 24) (hB : 0 < B) (he : (-149 : Int) ≤ e) (h : FP.Core.inUnits A e (-149) ≤ N * zUu * B) : FP.Core.zmag FP.Core.b32 (FP.Core.roundRatio FP.Core.b32 s A B e) ≤ N * zUu := by
  have k := FP.Core.zmag_roundRatio_le FP.Core.good_b32 (s := s) (A := A) (B := B) (e := e) (e0 := -149) (V := FP.Core.val32 (FP.i2f (nI N))) hB (FP.Core.val32_fits _) (by rw [fx_i2fv h0 hN]; intro z; cases z) (Int.le_refl _) he (by
    rw [zmag_i2f h0 hN]
    show _ ≤ N * zUu * 2 ^ 0 * B
    rw [Nat.pow_zero, Nat.mul_one]
    exact h)
  rw [zmag_i2f h0 hN] at k
  exact k
theorem zB9_add {A B : Nat} {x y : UInt32} (hx : zB9 A x) (hy : zB9 B y) (h0 : 0 < A + B) (hN : A + B < 2 ^ 24) : zB9 (A + B) (FP.fadd x y) := by
  refine ⟨(fp_add hx.1 hy.1).2, ?_⟩
  obtain ⟨c, q, e1, k1, b1⟩ := zB9_fin (by omega) hx
  obtain ⟨d, r, e2, k2, b2⟩ := zB9_fin (by omega) hy
  rw [FP.Core.val32_fadd, e1, e2]
  have hm : (-149 : Int) ≤ min q r := by omega
  refine zRr_le (A := (FP.Core.sumUnits false c q false d r (min q r)).natAbs) (e := min q r) h0 hN (by decide) hm ?_
  have hs : (FP.Core.sumUnits false c q false d r (min q r)).natAbs = FP.Core.inUnits c q (min q r) + FP.Core.inUnits d r (min q r) := by
    show (((FP.Core.inUnits c q (min q r) : Nat) : Int) + ((FP.Core.inUnits d r (min q r) : Nat) : Int)).natAbs = _
    omega
  rw [hs]
  show (_ + _) * 2 ^ (min q r - -149).toNat ≤ _
  rw [Nat.add_mul, zUnits hm (by omega), zUnits hm (by omega), Nat.mul_one, Nat.add_mul]
  exact Nat.add_le_add b1 b2
theorem zmag_neg (d : FP.Core.Datum) : FP.Core.zmag FP.Core.b32 (FP.Core.negate d) = FP.Core.zmag FP.Core.b32 d := by
  cases d <;> rfl
theorem zB9_df {A : Nat} {x y : UInt32} (fx : zFinS x) (fy : zFinS y) (hx : zB9 A x) (hy : zB9 A y) (h0 : 0 < A) (hN : A < 2 ^ 24) : zB9 A (zDf x y) := by
  refine ⟨fp_df fx fy, ?_⟩
  have key : FP.Core.zmag FP.Core.b32 (FP.Core.val32 (FP.fsub x y)) ≤ A * zUu := by
    obtain ⟨c, q, e1, k1, b1⟩ := zB9_fin (by omega) hx
    obtain ⟨d, r, e2, k2, b2⟩ := zB9_fin (by omega) hy
    rw [FP.Core.val32_fsub, e1, e2]
    have hm : (-149 : Int) ≤ min q r := by omega
    refine zRr_le (A := (FP.Core.sumUnits false c q true d r (min q r)).natAbs) (e := min q r) h0 hN (by decide) hm ?_
    have hs : (FP.Core.sumUnits false c q true d r (min q r)).natAbs ≤ max (FP.Core.inUnits c q (min q r)) (FP.Core.inUnits d r (min q r)) := by
      show (((FP.Core.inUnits c q (min q r) : Nat) : Int) + -((FP.Core.inUnits d r (min q r) : Nat) : Int)).natAbs ≤ _
      omega
    rw [Nat.mul_one]
    refine Nat.le_trans (Nat.mul_le_mul_right _ hs) ?_
    rcases Nat.le_total (FP.Core.inUnits c q (min q r)) (FP.Core.inUnits d r (min q r)) with z | z
    · rw [Nat.max_eq_right z]
      rw [zUnits hm (by omega)]
      exact b2
    · rw [Nat.max_eq_left z]
      rw [zUnits hm (by omega)]
      exact b1
  unfold zDf
  split
  · rw [fy_fneg (fy_subN fx fy), FP.Core.val32_fneg, zmag_neg]
    exact key
  · exact key
theorem zB9_div {A n : Nat} {x : UInt32} (hx : zB9 A x) (h0 : 0 < A) (hN : A < 2 ^ 24) (n0 : 0 < n) (hn : n < 2 ^ 24) : zB9 A (FP.fdiv x (FP.i2f (nI n))) := by
  refine ⟨(fp_div hx.1 n0 hn).2, ?_⟩
  obtain ⟨c, q, e1, k1, b1⟩ := zB9_fin (by omega) hx
  rw [FP.Core.val32_fdiv, e1, fx_i2fv n0 hn]
  have hd : n * 2 ^ (23 - n.log2) ≠ 0 := Nat.ne_of_gt (Nat.mul_pos n0 (Nat.two_pow_pos _))
  show FP.Core.zmag _ (if n * 2 ^ (23 - n.log2) = 0 then _ else _) ≤ _
  rw [if_neg hd]
  refine zRr_le h0 hN (Nat.pos_of_ne_zero hd) (by omega) ?_
  have e : FP.Core.inUnits c (q - -((23 - n.log2 : Nat) : Int)) (-149) = FP.Core.inUnits c q (-149) * 2 ^ (23 - n.log2) := by
    unfold FP.Core.inUnits
    rw [Nat.mul_assoc, ← Nat.pow_add]
    exact congrArg (fun j => c * 2 ^ j) (by omega)
  rw [e, ← Nat.mul_assoc]
  refine Nat.mul_le_mul_right _ (Nat.le_trans b1 ?_)
  exact Nat.le_mul_of_pos_right _ n0
theorem zB9_mono {A B : Nat} {x : UInt32} (h : zB9 A x) (hAB : A ≤ B) : zB9 B x := ⟨h.1, Nat.le_trans h.2 (Nat.mul_le_mul_right _ hAB)⟩
theorem zB9_0 (A : Nat) : zB9 A FP.fconst0 := by
  refine ⟨zPos_0, ?_⟩
  rw [show FP.Core.zmag FP.Core.b32 (FP.Core.val32 FP.fconst0) = 0 from by decide +kernel]
  exact Nat.zero_le _
theorem zB9_bits {A : Nat} {x : UInt32} (hA : A < 2 ^ 24) (h : zB9 A x) : x.toNat < 1266679808 := by
  have hp : x.toNat ≤ 2139095040 := h.1
  rcases Nat.lt_or_ge x.toNat 1266679808 with q | q
  · exact q
  · have h2 := h.2
    rw [FP.Core.zmag_toNat32 (fy_pn h.1), show x.toNat % 2 ^ 31 = x.toNat by omega] at h2
    unfold FP.Core.unitsOf at h2
    rw [FP.Core.tails_b32, if_neg (by omega)] at h2
    have h3 : 2 ^ 23 * 2 ^ 150 ≤ (2 ^ 23 + x.toNat % 2 ^ 23) * 2 ^ (x.toNat / 2 ^ 23 - 1) := Nat.mul_le_mul (by omega) (Nat.pow_le_pow_right (by decide) (by omega))
    have h4 : A * 2 ^ 149 < 2 ^ 24 * 2 ^ 149 := Nat.mul_lt_mul_of_pos_right hA (Nat.two_pow_pos _)
    have h5 : (2 ^ 23 + x.toNat % 2 ^ 23) * 2 ^ (x.toNat / 2 ^ 23 - 1) ≤ A * 2 ^ 149 := h2
    rw [← Nat.pow_add] at h3 h4
    have h6 := Nat.lt_of_le_of_lt (Nat.le_trans h3 h5) h4
    exact absurd h6 (Nat.not_lt.mpr (Nat.pow_le_pow_right (by decide) (by decide)))
theorem zB9_shade {x : UInt32} (h : zFinS x) : zB9 100 x := by
  refine ⟨h.pos, ?_⟩
  have hp : x.toNat ≤ 1120403456 := h
  have k := FP.Core.fcmp_zval (a := x) (b := FP.i2f (nI 100)) (fy_finN h) (by rw [fx_i2fv (by decide) (by decide)]; intro z; cases z)
  have k2 := fy_key (x := x) (by omega) (y := FP.i2f (nI 100)) (by decide +kernel)
  rw [show FP.fcmp x (FP.i2f (nI 100)) = FP.Core.fcmp x (FP.i2f (nI 100)) from rfl, k, if_pos (by omega), show (FP.i2f (nI 100)).toNat = 1120403456 from by decide +kernel] at k2
  have k3 := Option.some.inj k2
  have k4 : FP.Core.zval FP.Core.b32 (FP.Core.val32 x) ≤ FP.Core.zval FP.Core.b32 (FP.Core.val32 (FP.i2f (nI 100))) := by
    rcases Nat.lt_or_ge x.toNat 1120403456 with q | q
    · rw [Int.compare_eq_lt.mpr (by omega : (x.toNat : Int) < (1120403456 : Nat))] at k3
      exact Int.le_of_lt (Int.compare_eq_lt.mp k3)
    · rw [Int.compare_eq_eq.mpr (by omega : (x.toNat : Int) = (1120403456 : Nat))] at k3
      exact Int.le_of_eq (Int.compare_eq_eq.mp k3)
  obtain ⟨c, q, e⟩ := fx_dec_fin (n := x.toNat) (Nat.lt_of_le_of_lt h (by decide))
  have e1 : FP.Core.val32 x = .fin false c q := e
  rw [← zmag_i2f (n := 100) (by decide) (by decide)]
  rw [e1, fx_i2fv (by decide) (by decide)] at k4
  rw [e1, fx_i2fv (by decide) (by decide)]
  have k5 : ((FP.Core.zmag FP.Core.b32 (.fin false c q) : Nat) : Int) ≤ ((FP.Core.zmag FP.Core.b32 (.fin false (100 * 2 ^ (23 - Nat.log2 100)) (-((23 - Nat.log2 100 : Nat) : Int))) : Nat) : Int) := k4
  exact Int.ofNat_le.mp k5
/-- the bits -/
theorem zLt0_t {x : UInt32} {m k : Nat} (hk : k ≤ 149) (hx : FP.Core.val32 x = .fin false (m * 2 ^ zHs m k) (-(k : Int) - (zHs m k : Int))) : zLt0 x 1258291200 = decide (m < 2 ^ 23 * 2 ^ k) := by
  unfold zLt0
  show decide (¬ 0 ≤ Op.cmpValue (FP.Core.order (FP.Core.val32 x) (FP.Core.val32 1258291200)) .g) = _
  rw [hx, show FP.Core.val32 1258291200 = .fin false 8388608 0 by decide +kernel]
  show decide (¬ 0 ≤ Op.cmpValue (some (compare ((FP.Core.inUnits (m * 2 ^ zHs m k) (-(k : Int) - (zHs m k : Int)) (min (-(k : Int) - (zHs m k : Int)) 0) : Nat) : Int) ((FP.Core.inUnits 8388608 0 (min (-(k : Int) - (zHs m k : Int)) 0) : Nat) : Int))) .g) = _
  have e0 : min (-(k : Int) - (zHs m k : Int)) 0 = -(k : Int) - (zHs m k : Int) := by omega
  have e1 : FP.Core.inUnits (m * 2 ^ zHs m k) (-(k : Int) - (zHs m k : Int)) (min (-(k : Int) - (zHs m k : Int)) 0) = m * 2 ^ zHs m k := by
    rw [e0]
    unfold FP.Core.inUnits
    rw [Int.sub_self]
    exact Nat.mul_one _
  have e2 : FP.Core.inUnits 8388608 0 (min (-(k : Int) - (zHs m k : Int)) 0) = 2 ^ 23 * 2 ^ k * 2 ^ zHs m k := by
    rw [e0]
    unfold FP.Core.inUnits
    rw [Nat.mul_assoc, ← Nat.pow_add]
    exact congrArg (fun j => 8388608 * 2 ^ j) (by omega)
  rw [e1, e2]
  by_cases q : m < 2 ^ 23 * 2 ^ k
  · have := Nat.mul_lt_mul_of_pos_right q (Nat.two_pow_pos (zHs m k))
    rw [Int.compare_eq_lt.mpr (by omega), decide_eq_true q]
    decide
  · have := Nat.mul_le_mul_right (2 ^ zHs m k) (Nat.not_lt.mp q)
    rw [decide_eq_false q]
    rcases Nat.lt_or_ge (2 ^ 23 * 2 ^ k * 2 ^ zHs m k) (m * 2 ^ zHs m k) with z | z
    · rw [Int.compare_eq_gt.mpr (by omega)]
      decide
    · rw [Int.compare_eq_eq.mpr (by omega)]
      decide
theorem zDb_step {x : UInt32} {m k : Nat} (h0 : 0 < m) (hm : m < 2 ^ 24) (hk : k + 1 ≤ 149) (h : FP.Core.val32 x = .fin false (m * 2 ^ zHs m (k + 1)) (-((k + 1 : Nat) : Int) - (zHs m (k + 1) : Int))) : FP.Core.val32 (FP.fmul x FP.fconst2) = .fin false (m * 2 ^ zHs m k) (-(k : Int) - (zHs m k : Int)) := by
  rw [FP.Core.val32_fmul, h, show FP.Core.val32 FP.fconst2 = .fin false 8388608 (-22) by decide +kernel]
  have hs : zHs m (k + 1) ≤ zHs m k := by unfold zHs; omega
  have hs2 : zHs m k ≤ zHs m (k + 1) + 1 := by unfold zHs; omega
  refine FP.Core.roundRatio_exact (A := m * 2 ^ zHs m (k + 1) * 8388608) (e := -((k + 1 : Nat) : Int) - (zHs m (k + 1) : Int) + -22) FP.Core.good_b32 (by decide) (zH_fits h0 hm (by omega)) ?_
  rw [show (-((k + 1 : Nat) : Int) - (zHs m (k + 1) : Int) + -22 - (-(k : Int) - (zHs m k : Int))).toNat = 0 by omega, show (-(k : Int) - (zHs m k : Int) - (-((k + 1 : Nat) : Int) - (zHs m (k + 1) : Int) + -22)).toNat = 23 - (zHs m k - zHs m (k + 1)) by omega, Nat.pow_zero, Nat.mul_one, Nat.mul_one, show 8388608 = 2 ^ 23 from rfl, Nat.mul_assoc, Nat.mul_assoc, ← Nat.pow_add, ← Nat.pow_add]
  exact congrArg (fun j => m * 2 ^ j) (by omega)
theorem zBl_k {m : Nat} (h0 : 0 < m) (hm : m < 2 ^ 24) : ∀ (k d : Nat) (x : UInt32), k ≤ 149 → k ≤ d → (2 ^ 23 ≤ m ∨ (m < 2 ^ 23 ∧ d = k)) → FP.Core.val32 x = .fin false (m * 2 ^ zHs m k) (-(k : Int) - (zHs m k : Int)) → zBl d x = (d - k + 1, FP.i2f (nI m))
  | 0, d, x, hk, hd, hc, hx => by
    have ex : x = FP.i2f (nI m) := FP.Core.val32_inj (by rw [hx]; intro z; cases z) (by rw [hx, zH_base h0 hm])
    cases d with
    | zero => show (1, x) = _; rw [ex]
    | succ d =>
      show (if zLt0 x 1258291200 then zBl d (FP.fmul x FP.fconst2) else (d + 2, x)) = _
      rw [zLt0_t hk hx, decide_eq_false (by rw [Nat.pow_zero, Nat.mul_one]; omega), if_neg (by decide), ex]
      rfl
  | k + 1, d, x, hk, hd, hc, hx => by
    obtain ⟨d, rfl⟩ : ∃ d', d = d' + 1 := ⟨d - 1, by omega⟩
    show (if zLt0 x 1258291200 then zBl d (FP.fmul x FP.fconst2) else (d + 2, x)) = _
    have hl : m < 2 ^ 23 * 2 ^ (k + 1) := by
      have : 1 ≤ 2 ^ k := Nat.one_le_two_pow
      rw [Nat.pow_succ]
      omega
    rw [zLt0_t hk hx, decide_eq_true hl, if_pos rfl, zBl_k h0 hm k d _ (by omega) (by omega) (by omega) (zDb_step h0 hm hk hx)]
    rw [show d + 1 - (k + 1) = d - k by omega]
theorem zShl {a : Nat} (h : a < 151) : nI a <<< (nI 23 &&& 31) = nI (a * 8388608) := (by decide +kernel : ∀ a : Fin 151, nI a.1 <<< (nI 23 &&& 31) = nI (a.1 * 8388608)) ⟨a, h⟩
theorem zTo32 {x : UInt32} (h : x.toNat < 2 ^ 31) : x.toInt32 = nI x.toNat := by
  have e : (nI x.toNat).toUInt32 = x := UInt32.toNat_inj.mp (fy_u h)
  rw [← e, fy_u h]
  rfl
theorem zBo_eq {x : UInt32} (hb : x.toNat < 1266679808) : zBo x = x.toInt32 := by
  rw [zTo32 (by omega)]
  unfold zBo
  by_cases h0 : x.toNat = 0
  · have e : x = FP.fconst0 := UInt32.toNat_inj.mp (by rw [h0]; rfl)
    subst e
    decide +kernel
  · have hg : zGt x FP.fconst0 = true := by
      unfold zGt
      rw [fy_key (x := x) (y := FP.fconst0) (by omega) (by decide), if_pos (by omega), Int.compare_eq_gt.mpr (by show ((FP.fconst0).toNat : Int) < _; rw [show (FP.fconst0).toNat = 0 from rfl]; omega)]
      decide
    rw [if_pos hg]
    have hv : ∀ m k : Nat, 0 < m → m < 2 ^ 24 → k ≤ 149 → zFbN x.toNat = zIt (fun _ x => FP.fmul x 1056964608) k (FP.i2f (nI m)) → FP.Core.val32 x = .fin false (m * 2 ^ zHs m k) (-(k : Int) - (zHs m k : Int)) := by
      intro m k m0 m1 hk e
      have e2 := zFbN_eq (b := x.toNat) (by omega) hb
      rw [show UInt32.ofNat x.toNat = x from UInt32.toNat_inj.mp (UInt32.toNat_ofNat_of_lt' (by show x.toNat < 4294967296; omega))] at e2
      rw [← e2, e]
      exact zH_all m0 m1 k hk
    by_cases he : x.toNat / 2 ^ 23 = 0
    · have hq := hv x.toNat 149 (by omega) (by omega) (by omega) (by
        unfold zFbN
        rw [if_pos he, he, show x.toNat % 2 ^ 23 = x.toNat by omega]
        rfl)
      rw [zBl_k (by omega) (by omega) 149 149 x (by omega) (by omega) (Or.inr ⟨by omega, rfl⟩) hq]
      show (nI (149 - 149 + 1) - 1) <<< (nI 23 &&& 31) + FP.f2i (FP.i2f (nI x.toNat)) = _
      rw [show FP.f2i (FP.i2f (nI x.toNat)) = nI x.toNat from FP.Core.f2i_i2f (by rw [nI_toInt (by omega)]; omega), nI_pred, zShl (by decide), nI_add]
      exact congrArg nI (by omega)
    · have hor : x.toNat % 2 ^ 23 ||| 8388608 = 2 ^ 23 + x.toNat % 2 ^ 23 := by
        have := Nat.two_pow_add_eq_or_of_lt (Nat.mod_lt x.toNat (Nat.two_pow_pos 23)) 1
        rw [Nat.mul_one] at this
        rw [this, Nat.or_comm]
      have hml := Nat.mod_lt x.toNat (Nat.two_pow_pos 23)
      have hE : x.toNat / 2 ^ 23 ≤ 150 := by omega
      have hq := hv (2 ^ 23 + x.toNat % 2 ^ 23) (150 - x.toNat / 2 ^ 23) (by omega) (by omega) (by omega) (by
        unfold zFbN
        rw [if_neg he, hor, show max (x.toNat / 2 ^ 23) 1 = x.toNat / 2 ^ 23 by omega])
      rw [zBl_k (by omega) (by omega) (150 - x.toNat / 2 ^ 23) 149 x (by omega) (by omega) (Or.inl (by omega)) hq]
      show (nI (149 - (150 - x.toNat / 2 ^ 23) + 1) - 1) <<< (nI 23 &&& 31) + FP.f2i (FP.i2f (nI (2 ^ 23 + x.toNat % 2 ^ 23))) = _
      rw [show FP.f2i (FP.i2f (nI (2 ^ 23 + x.toNat % 2 ^ 23))) = nI (2 ^ 23 + x.toNat % 2 ^ 23) from FP.Core.f2i_i2f (by rw [nI_toInt (by omega)]; omega), nI_pred, zShl (by omega), nI_add]
      exact congrArg nI (by omega)
theorem zB9_bo {A : Nat} {x : UInt32} (hA : A < 2 ^ 24) (h : zB9 A x) : zBo x = x.toInt32 := zBo_eq (zB9_bits hA h)
theorem zGt_m1r {s : UInt32} (hs : zPos s) : zGt s 3212836864 = true := by
  refine decide_eq_true ?_
  show 0 < Op.cmpValue (FP.Core.order (FP.Core.val32 s) (FP.Core.val32 3212836864)) .l
  rw [show FP.Core.val32 3212836864 = .fin true 8388608 (-23) by decide +kernel]
  rcases fx_val hs with h | ⟨c', q', h⟩ <;> rw [h]
  · decide
  · show 0 < Op.cmpValue (some (compare ((FP.Core.inUnits c' q' (min q' (-23)) : Nat) : Int) (-((FP.Core.inUnits 8388608 (-23) (min q' (-23)) : Nat) : Int)))) .l
    have h0 : 0 < FP.Core.inUnits 8388608 (-23) (min q' (-23)) := Nat.mul_pos (by decide) (Nat.two_pow_pos _)
    rw [show compare ((FP.Core.inUnits c' q' (min q' (-23)) : Nat) : Int) (-((FP.Core.inUnits 8388608 (-23) (min q' (-23)) : Nat) : Int)) = .gt from Int.compare_eq_gt.mpr (by omega)]
    decide
theorem zGt_mm : zGt 3212836864 3212836864 = false := by decide +kernel
