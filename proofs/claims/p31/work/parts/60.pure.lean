theorem m_lt {a b : Nat} (ha : a < 2 ^ 31) (hb : b < 2 ^ 31) (h : nI a < nI b) : a < b := (nI_ltI ha hb).mp h
theorem m_nlt {a b : Nat} (ha : a < 2 ^ 31) (hb : b < 2 ^ 31) (h : ¬ nI a < nI b) : b ≤ a := Nat.le_of_not_lt fun q => h ((nI_ltI ha hb).mpr q)
theorem m_le {a b : Nat} (ha : a < 2 ^ 31) (hb : b < 2 ^ 31) (h : nI a ≤ nI b) : a ≤ b := (nI_leI ha hb).mp h
theorem m_nle {a b : Nat} (ha : a < 2 ^ 31) (hb : b < 2 ^ 31) (h : ¬ nI a ≤ nI b) : b < a := Nat.lt_of_not_le fun q => h ((nI_leI ha hb).mpr q)
theorem m_eq {a b : Nat} (ha : a < 2 ^ 31) (hb : b < 2 ^ 31) (h : nI a = nI b) : a = b := (nI_eq ha hb).mp h
theorem m_ne {a b : Nat} (ha : a < 2 ^ 31) (hb : b < 2 ^ 31) (h : ¬ nI a = nI b) : ¬ a = b := fun q => h ((nI_eq ha hb).mpr q)
theorem m_z_eq_t {a : Nat} (ha : a < 2 ^ 31) (h : nI a = 0) : a = 0 := (nI_eq ha (by decide)).mp (h.trans nI_0.symm)
theorem m_z_eq_f {a : Nat} (ha : a < 2 ^ 31) (h : ¬ nI a = 0) : ¬ a = 0 := fun q => h (by rw [q]; exact nI_0)
theorem m_z_ne_t {a : Nat} (ha : a < 2 ^ 31) (h : ¬ nI a = 0) : ¬ a = 0 := m_z_eq_f ha h
theorem m_z_ne_f {a : Nat} (ha : a < 2 ^ 31) (h : nI a = 0) : a = 0 := m_z_eq_t ha h
theorem m_z_gt_t {a : Nat} (ha : a < 2 ^ 31) (h : 0 < nI a) : 0 < a := (nI_ltI (by decide) ha).mp (by rw [nI_0]; exact h)
theorem m_z_gt_f {a : Nat} (ha : a < 2 ^ 31) (h : ¬ 0 < nI a) : a = 0 := Nat.eq_zero_of_not_pos fun q => h (by have := (nI_ltI (a := 0) (b := a) (by decide) ha).mpr q; rw [nI_0] at this; exact this)
theorem m_z_le_t {a : Nat} (ha : a < 2 ^ 31) (h : nI a ≤ 0) : a = 0 := Nat.le_zero.mp ((nI_leI ha (by decide)).mp (by rw [nI_0]; exact h))
theorem m_z_le_f {a : Nat} (ha : a < 2 ^ 31) (h : ¬ nI a ≤ 0) : 0 < a := Nat.pos_of_ne_zero fun q => h (by rw [q, nI_0]; decide)
theorem nI_m1 {a : Nat} (ha : a < 2 ^ 31) (h : nI a = -1) : False := nI_pos ha (by rw [h]; decide)
theorem zCt_T {p : Nat → Bool} {n : Nat} (h : p n = true) : zCt p n + 1 = zCt p (n + 1) := by simp [zCt, h]
theorem zCt_F {p : Nat → Bool} {n : Nat} (h : p n = false) : zCt p n + 0 = zCt p (n + 1) := by simp [zCt, h]
theorem nI_one : nI 1 = 1 := by decide
theorem m_dec (x : Int32) : x + Int32.ofInt (-1) = x - nI 1 := by rw [Int32.sub_eq_add_neg]; rfl
theorem zIn_n {a b : Nat} (ha : a < 2 ^ 31) (hb : b < 2 ^ 31) : zIn (nI a) (nI b) = decide (a < b) := by
  unfold zIn
  rw [decide_eq_false (nI_pos ha)]
  by_cases h : a < b
  · rw [decide_eq_false (nI_ge h hb), decide_eq_true h]; rfl
  · rw [decide_eq_true (nI_le (by omega) ha), decide_eq_false h]; rfl
theorem zFr_in {v : Int32} {n : Nat} (hn : n < 2 ^ 31) : zFr (nI 0) v (nI n - nI 1) = zIn v (nI n) := by
  unfold zFr zIn
  rw [nI_0]
  by_cases h : v < 0
  · rw [decide_eq_true h]; rfl
  · obtain ⟨j, hj, rfl⟩ := nI_of h
    rw [decide_eq_false h]
    cases n with
    | zero =>
      rw [decide_eq_true (show nI 0 - nI 1 < nI j from Int32.lt_of_lt_of_le (show nI 0 - nI 1 < nI 0 by decide) (nI_le (Nat.zero_le _) hj)), decide_eq_true (nI_le (Nat.zero_le _) hj)]
    | succ k =>
      rw [pk_sub (show 1 ≤ k + 1 by omega), show k + 1 - 1 = k by omega]
      by_cases h2 : k < j
      · rw [decide_eq_true (nI_lt h2 hj), decide_eq_true (nI_le h2 hj)]
      · rw [decide_eq_false (nI_nlt (by omega) (by omega)), decide_eq_false (nI_ge (by omega) hn)]
theorem zFr_in1 {v : Int32} {n : Nat} (hn : n < 2 ^ 31) (h1 : 1 ≤ n) : zFr (nI 0) v (nI (n - 1)) = zIn v (nI n) := by rw [← pk_sub h1]; exact zFr_in hn
/-! the reference's own words: s its row of numbers -/
def zMd (s : Nat → Int32) (c r w cnt lim : Nat) : Prop := s 0 = nI c ∧ s 1 = nI r ∧ s 2 = nI w ∧ s 3 = nI cnt ∧ s 4 = nI lim ∧ 1 ≤ c ∧ c ≤ 20 ∧ 1 ≤ r ∧ r ≤ 16 ∧ w ≤ r ∧ cnt ≤ 16 ∧ lim ≤ 16
/-- a part of a row anew -/
def zFa {α : Type} (o : Nat) (g f : Nat → α) (n : Nat) : Nat → α := fun j => if o ≤ j ∧ j < o + n then g (j - o) else f j
theorem zFa_0 {α : Type} (o : Nat) (g f : Nat → α) : zFa o g f 0 = f := by funext j; unfold zFa; rw [if_neg (by omega)]
theorem zFa_s {o : Nat} {g f : Nat → Int32} {n : Nat} {x : Int32} (hx : g n = x) : upd (zFa o g f n) (o + n) x = zFa o g f (n + 1) := by
  funext j
  unfold upd zFa
  by_cases h : j = o + n
  · subst h
    rw [if_pos rfl, if_pos ⟨by omega, by omega⟩, ← hx, show o + n - o = n by omega]
  · rw [if_neg h]
    by_cases h2 : o ≤ j ∧ j < o + n
    · rw [if_pos h2, if_pos ⟨h2.1, by omega⟩]
    · rw [if_neg h2, if_neg (by omega)]
theorem zFl_S {g f : Nat → Int32} {n : Nat} {x : Int32} (hx : g n = x) : upd (zFl g f n) n x = zFl g f (n + 1) := by
  funext j
  unfold upd zFl
  by_cases h : j = n
  · subst h
    rw [if_pos rfl, if_pos (by omega), ← hx]
  · rw [if_neg h]
    by_cases h2 : j < n
    · rw [if_pos h2, if_pos (by omega)]
    · rw [if_neg h2, if_neg (by omega)]
theorem zFl_at {α : Type} {g f : Nat → α} {n j : Nat} (h : n ≤ j) : zFl g f n j = f j := if_neg (by omega)
theorem zFa_at {α : Type} {o : Nat} {g f : Nat → α} {n j : Nat} (h : o + n ≤ j) : zFa o g f n j = f j := if_neg (by omega)
theorem zFa_lo {α : Type} {o : Nat} {g f : Nat → α} {n j : Nat} (h : j < o) : zFa o g f n j = f j := if_neg (by omega)
theorem m_pl {a : Nat} (h : a < 2 ^ 31) (q : nI a - nI 1 < 0) : a = 0 := by
  cases a with
  | zero => rfl
  | succ k => exact absurd q (by rw [pk_sub (by omega)]; exact nI_pos (by omega))
theorem m_npl {a : Nat} (h : a < 2 ^ 31) (q : ¬ nI a - nI 1 < 0) : 0 < a := by
  cases a with
  | zero => exact absurd (by decide) q
  | succ k => omega

theorem zMd_upd {s : Nat → Int32} {c r w cnt lim j : Nat} {x : Int32} (h : zMd s c r w cnt lim) (hj : 5 ≤ j) : zMd (upd s j x) c r w cnt lim := by
  obtain ⟨h0, h1, h2, h3, h4, h⟩ := h
  unfold zMd upd
  exact ⟨by rw [if_neg (by omega), h0], by rw [if_neg (by omega), h1], by rw [if_neg (by omega), h2], by rw [if_neg (by omega), h3], by rw [if_neg (by omega), h4], h⟩
abbrev zF4 : Type := Nat × (Nat → Int32) × (Nat → Int32) × (Nat → Int32)
theorem zCt_half {P : Nat → Bool} (h : ∀ y, P y = true → P (y + 1) = false) : ∀ k, 2 * zCt P k ≤ k + 1 ∧ (P k = true → 2 * zCt P k ≤ k)
  | 0 => ⟨by simp [zCt], fun _ => by simp [zCt]⟩
  | k + 1 => by
    obtain ⟨a, b⟩ := zCt_half h k
    cases q : P k
    · rw [← zCt_F q]
      exact ⟨by omega, fun _ => by omega⟩
    · have := b q
      rw [← zCt_T q]
      refine ⟨by omega, fun z => ?_⟩
      rw [h k q] at z
      cases z
theorem zFa_ulo {o n j : Nat} {g f : Nat → Int32} {x : Int32} (h : j < o) : upd (zFa o g f n) j x = zFa o g (upd f j x) n := by
  funext i
  show (if i = j then x else (if o ≤ i ∧ i < o + n then g (i - o) else f i)) = (if o ≤ i ∧ i < o + n then g (i - o) else (if i = j then x else f i))
  by_cases e : i = j
  · rw [if_pos e, if_neg (by omega), if_pos e]
  · rw [if_neg e, if_neg e]
theorem zMd_eq {s s2 : Nat → Int32} {c r w cnt lim : Nat} (h : zMd s c r w cnt lim) (e : ∀ j, j < 5 → s2 j = s j) : zMd s2 c r w cnt lim := by
  obtain ⟨h0, h1, h2, h3, h4, h⟩ := h
  exact ⟨by rw [e 0 (by omega), h0], by rw [e 1 (by omega), h1], by rw [e 2 (by omega), h2], by rw [e 3 (by omega), h3], by rw [e 4 (by omega), h4], h⟩

theorem zCt_cg {P Q : Nat → Bool} : ∀ {c : Nat}, (∀ b, b < c → P b = Q b) → zCt P c = zCt Q c
  | 0, _ => rfl
  | c + 1, h => by
    have h1 := zCt_cg (c := c) fun b hb => h b (by omega)
    have h2 := h c (by omega)
    cases q : Q c
    · rw [← zCt_F q, ← zCt_F (h2.trans q), h1]
    · rw [← zCt_T q, ← zCt_T (h2.trans q), h1]
theorem zFl_in {α : Type} {g f : Nat → α} {n j : Nat} (h : j < n) : zFl g f n j = g j := if_pos h
theorem zSN_e {f : Nat → Nat} {n x : Nat} (h : f n = x) : zSN f n + x = zSN f (n + 1) := by rw [← h]; rfl
theorem zSN_E {f : Nat → Nat} {n x : Nat} (h : f n = x) : zSN f (n + 1) = zSN f n + x := (zSN_e h).symm
/-! a float out of its bits by halving: the bits themselves -/
def zHs (m k : Nat) : Nat := min (23 - m.log2) (149 - k)
theorem zH_fits {m k : Nat} (h0 : 0 < m) (hm : m < 2 ^ 24) (hk : k ≤ 149) : FP.Core.fits FP.Core.b32 (.fin false (m * 2 ^ zHs m k) (-(k : Int) - (zHs m k : Int))) := by
  have hl : m.log2 < 24 := (Nat.log2_lt (by omega)).mpr hm
  have h1 : 2 ^ m.log2 ≤ m := Nat.log2_self_le (by omega)
  have h2 : m < 2 ^ (m.log2 + 1) := Nat.lt_log2_self
  have hs : zHs m k ≤ 23 - m.log2 := Nat.min_le_left _ _
  have hs2 : zHs m k ≤ 149 - k := Nat.min_le_right _ _
  refine ⟨?_, ?_, ?_, ?_⟩
  · show m * 2 ^ zHs m k < 2 ^ 24
    calc m * 2 ^ zHs m k < 2 ^ (m.log2 + 1) * 2 ^ zHs m k := Nat.mul_lt_mul_of_pos_right h2 (Nat.two_pow_pos _)
      _ ≤ 2 ^ (m.log2 + 1) * 2 ^ (23 - m.log2) := Nat.mul_le_mul_left _ (Nat.pow_le_pow_right (by decide) hs)
      _ = 2 ^ 24 := by rw [← Nat.pow_add, show m.log2 + 1 + (23 - m.log2) = 24 by omega]
  · show (-149 : Int) ≤ _
    omega
  · show _ ≤ (104 : Int)
    omega
  · by_cases hq : zHs m k = 149 - k
    · refine Or.inl ?_
      show -(k : Int) - (zHs m k : Int) = -149
      omega
    · refine Or.inr ?_
      have : zHs m k = 23 - m.log2 := by
        unfold zHs at hq ⊢
        omega
      show 2 ^ 23 ≤ m * 2 ^ zHs m k
      rw [this]
      calc 2 ^ 23 = 2 ^ m.log2 * 2 ^ (23 - m.log2) := by rw [← Nat.pow_add, show m.log2 + (23 - m.log2) = 23 by omega]
        _ ≤ m * 2 ^ (23 - m.log2) := Nat.mul_le_mul_right _ h1
theorem zH_base {m : Nat} (h0 : 0 < m) (hm : m < 2 ^ 24) : FP.Core.val32 (FP.i2f (nI m)) = .fin false (m * 2 ^ zHs m 0) (-((0 : Nat) : Int) - (zHs m 0 : Int)) := by
  rw [FP.Core.val32_i2f, fx_ofInt (Nat.lt_trans hm (by decide))]
  refine FP.Core.roundRatio_exact FP.Core.good_b32 (by decide) (zH_fits h0 hm (by decide)) ?_
  rw [show ((0 : Int) - (-((0 : Nat) : Int) - (zHs m 0 : Int))).toNat = zHs m 0 by omega, show (-((0 : Nat) : Int) - (zHs m 0 : Int) - 0).toNat = 0 by omega, Nat.pow_zero, Nat.mul_one, Nat.mul_one]
theorem zH_step {x : UInt32} {m k : Nat} (h0 : 0 < m) (hm : m < 2 ^ 24) (hk : k + 1 ≤ 149) (h : FP.Core.val32 x = .fin false (m * 2 ^ zHs m k) (-(k : Int) - (zHs m k : Int))) : FP.Core.val32 (FP.fmul x 1056964608) = .fin false (m * 2 ^ zHs m (k + 1)) (-((k + 1 : Nat) : Int) - (zHs m (k + 1) : Int)) := by
  rw [FP.Core.val32_fmul, h, show FP.Core.val32 1056964608 = .fin false 8388608 (-24) by decide +kernel]
  have hs : zHs m (k + 1) ≤ zHs m k := by unfold zHs; omega
  have hs2 : zHs m k ≤ zHs m (k + 1) + 1 := by unfold zHs; omega
  refine FP.Core.roundRatio_exact (A := m * 2 ^ zHs m k * 8388608) (e := -(k : Int) - (zHs m k : Int) + -24) FP.Core.good_b32 (by decide) (zH_fits h0 hm hk) ?_
  rw [show (-(k : Int) - (zHs m k : Int) + -24 - (-((k + 1 : Nat) : Int) - (zHs m (k + 1) : Int))).toNat = 0 by omega, show (-((k + 1 : Nat) : Int) - (zHs m (k + 1) : Int) - (-(k : Int) - (zHs m k : Int) + -24)).toNat = 23 + (zHs m k - zHs m (k + 1)) by omega, Nat.pow_zero, Nat.mul_one, Nat.mul_one, show 8388608 = 2 ^ 23 from rfl, Nat.mul_assoc, Nat.mul_assoc, ← Nat.pow_add, ← Nat.pow_add]
  exact congrArg (fun j => m * 2 ^ j) (by omega)
theorem zH_all {m : Nat} (h0 : 0 < m) (hm : m < 2 ^ 24) : ∀ k : Nat, k ≤ 149 → FP.Core.val32 (zIt (fun _ x => FP.fmul x 1056964608) k (FP.i2f (nI m))) = .fin false (m * 2 ^ zHs m k) (-(k : Int) - (zHs m k : Int))
  | 0, _ => zH_base h0 hm
  | k + 1, hk => zH_step h0 hm hk (zH_all h0 hm k (by omega))
theorem zFbN_eq {b : Nat} (h0 : 0 < b) (hb : b < 1266679808) : zFbN b = UInt32.ofNat b := by
  have hbN : (UInt32.ofNat b).toNat = b := UInt32.toNat_ofNat_of_lt' (by show b < 4294967296; omega)
  have hE : b / 2 ^ 23 ≤ 150 := by omega
  have hv : FP.Core.val32 (UInt32.ofNat b) = FP.Core.decode FP.Core.b32 b := by unfold FP.Core.val32; rw [hbN]
  have hS : FP.Core.fieldS FP.Core.b32 b = false := by
    unfold FP.Core.fieldS
    rw [show b / FP.Core.b32.tails / FP.Core.b32.exps = 0 from by
      show b / 8388608 / 256 = 0
      omega]
    rfl
  have hfe : FP.Core.fieldE FP.Core.b32 b = b / 2 ^ 23 := by
    show b / 8388608 % 256 = b / 8388608
    omega
  unfold zFbN
  by_cases he : b / 2 ^ 23 = 0
  · rw [if_pos he, he, show b % 2 ^ 23 = b by omega, show 150 - max 0 1 = 149 from rfl]
    have q := zH_all h0 (show b < 2 ^ 24 by omega) 149 (Nat.le_refl _)
    refine FP.Core.val32_inj (by rw [q]; intro z; cases z) ?_
    rw [q, hv]
    unfold FP.Core.decode
    rw [hS, hfe, he, if_neg (by decide), if_pos rfl]
    rw [show zHs b 149 = 0 from Nat.min_eq_right (Nat.zero_le _), Nat.pow_zero, Nat.mul_one, show FP.Core.fieldT FP.Core.b32 b = b from by
      show b % 8388608 = b
      omega]
    rfl
  · have hor : b % 2 ^ 23 ||| 8388608 = 2 ^ 23 + b % 2 ^ 23 := by
      have := Nat.two_pow_add_eq_or_of_lt (Nat.mod_lt b (Nat.two_pow_pos 23)) 1
      rw [Nat.mul_one] at this
      rw [this, Nat.or_comm]
    rw [if_neg he, hor]
    have hmx : max (b / 2 ^ 23) 1 = b / 2 ^ 23 := by omega
    rw [hmx]
    have hml := Nat.mod_lt b (Nat.two_pow_pos 23)
    have q := zH_all (m := 2 ^ 23 + b % 2 ^ 23) (by omega) (by omega) (150 - b / 2 ^ 23) (by omega)
    have hlog : (2 ^ 23 + b % 2 ^ 23).log2 = 23 := by
      have l1 : (2 ^ 23 + b % 2 ^ 23).log2 < 24 := (Nat.log2_lt (by omega)).mpr (by omega)
      have l2 : 23 ≤ (2 ^ 23 + b % 2 ^ 23).log2 := (Nat.le_log2 (by omega)).mpr (by omega)
      omega
    have hz : zHs (2 ^ 23 + b % 2 ^ 23) (150 - b / 2 ^ 23) = 0 := by unfold zHs; rw [hlog]; omega
    rw [hz, Nat.pow_zero, Nat.mul_one] at q
    refine FP.Core.val32_inj (by rw [q]; intro z; cases z) ?_
    rw [q, hv]
    unfold FP.Core.decode
    rw [hS, hfe, if_neg (by show ¬ b / 2 ^ 23 = 255; omega), if_neg he]
    show FP.Core.Datum.fin false (2 ^ 23 + b % 2 ^ 23) _ = .fin false (2 ^ 23 + b % 2 ^ 23) (-149 + (((b / 2 ^ 23 : Nat) : Int) - 1))
    exact congrArg _ (by omega)

theorem fy_u {n : Nat} (h : n < 2 ^ 31) : (nI n).toUInt32.toNat = n := by
  show (UInt32.ofNat n).toNat = n
  exact UInt32.toNat_ofNat_of_lt' (by show n < 4294967296; omega)
theorem fy_m0 : (-2147483648 : Int32).toUInt32 = FP.Core.fzeroNeg := by decide
theorem fy_nz {x : UInt32} (h : x.toNat < 2139095040) : FP.Core.val32 x ≠ .nan := by
  obtain ⟨c, q, h1⟩ := fx_dec_fin h
  rw [show FP.Core.val32 x = _ from h1]
  intro z; cases z
theorem fy_pn {x : UInt32} (h : zPos x) : FP.Core.val32 x ≠ .nan := by
  rcases fx_val h with h | ⟨c, q, h⟩ <;> rw [h] <;> intro z <;> cases z
theorem fy_zn {x : UInt32} (h : zPos x) : x ≠ FP.Core.fzeroNeg := by
  rintro rfl
  exact absurd h (by unfold zPos; decide)
theorem fy_self {x : UInt32} (h : zPos x) : Op.cmpValue (FP.fcmp x x) .l = 0 := by
  rw [show FP.fcmp x x = some .eq from FP.Core.fcmp_self (fy_pn h)]
  rfl
/-- a shade's float as the class has it -/
theorem fy_fb {n : Nat} (h : n ≤ 1120403456) : zFb (nI n) = (nI n).toUInt32 := by
  unfold zFb
  rcases Nat.eq_zero_or_pos n with h0 | h0
  · subst h0
    decide
  · rw [if_pos (by rw [← nI_0]; exact nI_lt h0 (by omega)), nI_clamp (by omega), zFbN_eq h0 (by omega)]
    rfl
theorem fy_fb0 : zFb (-2147483648) = FP.fconst0 := by
  unfold zFb
  rw [if_neg (by decide)]
theorem fy_finN {x : UInt32} (h : zFinS x) : FP.Core.val32 x ≠ .nan := fy_nz (Nat.lt_of_le_of_lt h (by decide))
theorem fy_fneg {x : UInt32} (h : FP.Core.val32 x ≠ .nan) : FP.fneg x = FP.Core.fneg x := by
  have hx := x.toNat_lt
  have e : (FP.fneg x).toNat = x.toNat ^^^ 2 ^ 31 := by
    show (x ^^^ 0x80000000).toNat = _
    rw [UInt32.toNat_xor]
    rfl
  have q : FP.Core.val32 (FP.fneg x) = FP.Core.negate (FP.Core.val32 x) := by
    refine FP.Core.val32_neg_bits ?_
    rcases Nat.lt_or_ge x.toNat (2 ^ 31) with h1 | h1
    · refine Or.inr ?_
      rw [e]
      have h2 := fx_xor (y := x.toNat) h1
      have h3 : ((2 ^ 31 + x.toNat) ^^^ 2 ^ 31) ^^^ 2 ^ 31 = x.toNat ^^^ 2 ^ 31 := by rw [h2]
      rw [Nat.xor_assoc, Nat.xor_self, Nat.xor_zero] at h3
      omega
    · refine Or.inl ?_
      rw [e]
      have h2 := fx_xor (y := x.toNat - 2 ^ 31) (by omega)
      rw [show 2 ^ 31 + (x.toNat - 2 ^ 31) = x.toNat by omega] at h2
      omega
  refine FP.Core.val32_inj (by rw [q]; exact FP.Core.negate_ne_nan h) ?_
  rw [q, FP.Core.val32_fneg]
theorem fy_negN {x : UInt32} (h : FP.Core.val32 x ≠ .nan) : FP.Core.val32 (FP.Core.fneg x) ≠ .nan := by
  rw [FP.Core.val32_fneg]
  exact FP.Core.negate_ne_nan h
/-- x - (-0) is x - 0, where x isn't -0 itself -/
theorem fy_sub0 {x : UInt32} (h : FP.Core.val32 x ≠ .nan) (hz : x ≠ FP.Core.fzeroNeg) : FP.fsub x FP.Core.fzeroNeg = FP.fsub x FP.fconst0 := by
  rw [show FP.fsub x FP.Core.fzeroNeg = FP.fadd x (FP.Core.fneg FP.Core.fzeroNeg) from FP.Core.fsub_eq _ _, show FP.fsub x FP.fconst0 = FP.fadd x (FP.Core.fneg FP.fconst0) from FP.Core.fsub_eq _ _, show FP.Core.fneg FP.Core.fzeroNeg = FP.fconst0 by decide +kernel, show FP.Core.fneg FP.fconst0 = FP.Core.fzeroNeg by decide +kernel]
  rw [show FP.fadd x FP.fconst0 = x from FP.Core.fadd_zero h hz, show FP.fadd x FP.Core.fzeroNeg = x from FP.Core.fadd_zeroNeg h]
/-- (-0) - y is 0 - y, where y isn't 0 itself -/
theorem fy_0sub {y : UInt32} (h : FP.Core.val32 y ≠ .nan) (hz : FP.Core.fneg y ≠ FP.Core.fzeroNeg) : FP.fsub FP.Core.fzeroNeg y = FP.Core.fneg y ∧ FP.fsub FP.fconst0 y = FP.Core.fneg y := by
  have hn := fy_negN h
  rw [show FP.fsub FP.Core.fzeroNeg y = FP.fadd FP.Core.fzeroNeg (FP.Core.fneg y) from FP.Core.fsub_eq _ _, show FP.fsub FP.fconst0 y = FP.fadd FP.fconst0 (FP.Core.fneg y) from FP.Core.fsub_eq _ _]
  rw [show FP.fadd FP.Core.fzeroNeg (FP.Core.fneg y) = FP.fadd (FP.Core.fneg y) FP.Core.fzeroNeg from FP.Core.fadd_comm _ _, show FP.fadd FP.fconst0 (FP.Core.fneg y) = FP.fadd (FP.Core.fneg y) FP.fconst0 from FP.Core.fadd_comm _ _]
  exact ⟨FP.Core.fadd_zeroNeg hn, FP.Core.fadd_zero hn hz⟩
theorem fy_neg_inj {y : UInt32} (hN : FP.Core.val32 y ≠ .nan) (h : FP.Core.fneg y = FP.Core.fzeroNeg) : y = FP.fconst0 := by
  have h2 := FP.Core.val32_fneg y
  rw [h, FP.Core.val32_fzeroNeg] at h2
  refine FP.Core.val32_inj hN ?_
  rw [show FP.Core.val32 FP.fconst0 = _ from FP.Core.val32_fconst0]
  cases q : FP.Core.val32 y with
  | nan => exact absurd q hN
  | inf s => rw [q] at h2; cases h2
  | fin s c e =>
    rw [q] at h2
    have h3 : FP.Core.Datum.fin true 0 FP.Core.b32.qmin = .fin (!s) c e := h2
    injection h3 with a1 a2 a3
    cases s
    · rw [← a2, ← a3]
    · cases a1
theorem fy_vf {x : UInt32} (h : FP.Core.val32 x ≠ .nan) : vf_n32 x := by
  have hs : FP.Core.val32 x ≠ .nan := h
  cases q : FP.Core.val32 x with
  | nan => exact absurd q h
  | inf s => exact (fx_of (s := s) (Or.inl q)).1
  | fin s c e => exact (fx_of (s := s) (Or.inr ⟨c, e, q⟩)).1
theorem fy_subN {x y : UInt32} (hx : zFinS x) (hy : zFinS y) : FP.Core.val32 (FP.fsub x y) ≠ .nan := by
  obtain ⟨c, q, h1⟩ := fx_dec_fin (n := x.toNat) (Nat.lt_of_le_of_lt hx (by decide))
  obtain ⟨d, r, h2⟩ := fx_dec_fin (n := y.toNat) (Nat.lt_of_le_of_lt hy (by decide))
  rw [FP.Core.val32_fsub, show FP.Core.val32 x = _ from h1, show FP.Core.val32 y = _ from h2]
  exact FP.Core.roundRatio_ne_nan _ _ _ _ _
theorem fy_0N {f : UInt32} (h : FP.Core.val32 f ≠ .nan) : FP.fsub FP.fconst0 f = FP.fneg f ∨ (f = FP.fconst0 ∧ FP.fsub FP.fconst0 f = FP.fconst0) := by
  by_cases e : f = FP.fconst0
  · exact Or.inr ⟨e, by rw [e]; decide +kernel⟩
  · exact Or.inl ((fy_0sub h (fun z => e (fy_neg_inj h z))).2.trans (fy_fneg h).symm)
theorem fy_eq0 {f : UInt32} (hp : zPos f) (h : FP.fcmp f FP.fconst0 = some .eq) : f = FP.fconst0 := by
  have h2 : FP.Core.order (FP.Core.val32 f) (FP.Core.val32 FP.Core.fconst0) = some .eq := h
  rw [FP.Core.val32_fconst0] at h2
  have hfit := FP.Core.val32_fits f
  rcases fx_val hp with q | ⟨c, e, q⟩
  · rw [q] at h2; cases h2
  · rw [q] at h2 hfit
    have h3 : some (compare (FP.Core.signed false (FP.Core.inUnits c e (min e FP.Core.b32.qmin))) (FP.Core.signed false (FP.Core.inUnits 0 FP.Core.b32.qmin (min e FP.Core.b32.qmin)))) = some .eq := h2
    have h4 := Int.compare_eq_eq.mp (Option.some.inj h3)
    rw [show FP.Core.inUnits 0 FP.Core.b32.qmin (min e FP.Core.b32.qmin) = 0 from Nat.zero_mul _] at h4
    have h5 : ((FP.Core.inUnits c e (min e FP.Core.b32.qmin) : Nat) : Int) = 0 := h4
    have h6 : c = 0 := by
      rcases Nat.eq_zero_or_pos c with z | z
      · exact z
      · have : 0 < FP.Core.inUnits c e (min e FP.Core.b32.qmin) := Nat.mul_pos z (Nat.two_pow_pos _)
        omega
    subst h6
    have h7 := FP.Core.fits_zero_q FP.Core.good_b32 hfit
    refine FP.Core.val32_inj (fy_pn hp) ?_
    rw [q, h7]
    exact FP.Core.val32_fconst0.symm
theorem fy_zfr {n : Nat} (h : n < 2 ^ 31) : zFr (nI 0) (nI n) 1120403456 = decide (n ≤ 1120403456) := by
  unfold zFr
  rw [show nI 0 = 0 from nI_0, decide_eq_false (nI_pos h), show (1120403456 : Int32) = nI 1120403456 by decide]
  by_cases q : n ≤ 1120403456
  · rw [decide_eq_false (nI_nlt (b := n) (a := 1120403456) q (by decide)), decide_eq_true q]; rfl
  · rw [decide_eq_true (nI_lt (a := 1120403456) (b := n) (by omega) h), decide_eq_false q]; rfl
theorem fy_zfr2 {v : Int32} (h : v < 0) : zFr (nI 0) v 1120403456 = false := by
  unfold zFr
  rw [show nI 0 = 0 from nI_0, decide_eq_true h]
  rfl
theorem fy_beq {n : Nat} (h : n < 2 ^ 31) : (nI n == (-2147483648 : Int32)) = false := beq_eq_false_iff_ne.mpr fun e => nI_pos h (by rw [e]; decide)
theorem fy_key {x : UInt32} (h : x.toNat % 2 ^ 31 ≤ 2139095040) {y : UInt32} (hy : y.toNat ≤ 1120403456) : FP.fcmp x y = some (compare (if x.toNat < 2 ^ 31 then (x.toNat : Int) else -((x.toNat - 2 ^ 31 : Nat) : Int)) (y.toNat : Int)) := by
  have hk := FP.Core.cmp_key FP.Core.good_b32 (m := x.toNat) (n := y.toNat) (FP.Core.lt_full32 x) (FP.Core.lt_full32 y) ((FP.Core.ne_nan32 x).mpr h) ((FP.Core.ne_nan32 y).mpr (by omega))
  have h2 : FP.fcmp x y = FP.Core.cmp FP.Core.b32 x.toNat y.toNat := rfl
  rw [h2, hk]
  unfold FP.Core.key FP.Core.mag
  rw [FP.Core.half_b32, decide_eq_false (show ¬ 2 ^ 31 ≤ y.toNat by omega), show y.toNat % 2 ^ 31 = y.toNat by omega]
  rcases Nat.lt_or_ge x.toNat (2 ^ 31) with q | q
  · rw [if_pos q, decide_eq_false (by omega), show x.toNat % 2 ^ 31 = x.toNat by omega]
    simp only [FP.Core.signed, Bool.false_eq_true, if_false]
  · rw [if_neg (by omega), decide_eq_true q, show x.toNat % 2 ^ 31 = x.toNat - 2 ^ 31 by have := x.toNat_lt; omega]
    simp only [FP.Core.signed, Bool.false_eq_true, if_false, if_true]
theorem zAF_iff {p : Nat → Bool} : ∀ d a : Nat, zAF p a d = true ↔ ∀ k, a ≤ k → k < a + d → p k = true
  | 0, a => ⟨fun _ k h1 h2 => absurd h2 (by omega), fun _ => rfl⟩
  | d + 1, a => by
    unfold zAF
    cases h : p a
    · refine ⟨fun q => ?_, fun q => ?_⟩
      · rw [if_neg (by decide)] at q; cases q
      · rw [q a (Nat.le_refl _) (by omega)] at h; cases h
    · rw [if_pos rfl, zAF_iff d (a + 1)]
      refine ⟨fun q k h1 h2 => ?_, fun q k h1 h2 => q k (by omega) (by omega)⟩
      rcases Nat.eq_or_lt_of_le h1 with e | e
      · subst e; exact h
      · exact q k e (by omega)
theorem upd_ne {f : Nat → Int32} {k j : Nat} {x : Int32} (h : ¬ j = k) : upd f k x j = f j := if_neg h
theorem upd_upd {f : Nat → Int32} {k : Nat} {x y : Int32} : upd (upd f k x) k y = upd f k y := by
  funext j
  unfold upd
  by_cases h : j = k
  · rw [if_pos h, if_pos h]
  · rw [if_neg h, if_neg h, if_neg h]
theorem zFr_eq {a : Nat} {x : Int32} (ha : a < 2 ^ 31) : zFr (nI a) x (nI a) = true ↔ x = nI a := by
  unfold zFr
  refine ⟨fun h => ?_, fun h => ?_⟩
  · rw [Bool.and_eq_true] at h
    have h1 : ¬ x < nI a := fun q => by rw [decide_eq_true q] at h; exact absurd h.1 (by decide)
    have h2 : ¬ nI a < x := fun q => by rw [decide_eq_true q] at h; exact absurd h.2 (by decide)
    exact Int32.le_antisymm (Int32.not_lt.mp h2) (Int32.not_lt.mp h1)
  · rw [h, decide_eq_false (nI_nlt (Nat.le_refl _) ha)]
    rfl
abbrev zE6 : Type := (Nat → Int32) × Nat × (Nat → Int32) × (Nat → Int32) × (Nat → Int32) × UInt32
abbrev zRp : Type := Bool × Nat × (Nat → Int32) × (Nat → Int32)
abbrev zD7 : Type := (Nat → Int32) × (Nat → Int32) × Nat × (Nat → Int32) × (Nat → Int32) × (Nat → Int32) × Int32
theorem zFr_n {a n b : Nat} (hn : n < 2 ^ 31) (hb : b < 2 ^ 31) (h : zFr (nI a) (nI n) (nI b) = true) : n ≤ b := by
  unfold zFr at h
  rw [Bool.and_eq_true] at h
  refine Nat.le_of_not_lt fun q => ?_
  rw [decide_eq_true (nI_lt q hn)] at h
  exact absurd h.2 (by decide)

theorem zFr_g {a n b : Nat} (ha : a < 2 ^ 31) (h : zFr (nI a) (nI n) (nI b) = true) : a ≤ n := by
  unfold zFr at h
  rw [Bool.and_eq_true] at h
  refine Nat.le_of_not_lt fun q => ?_
  rw [decide_eq_true (nI_lt q ha)] at h
  exact absurd h.1 (by decide)
/-- a run of commands: how many, the state, the place, the word, the numbers -/
abbrev zR9 : Type := Nat × zD7 × Nat × Int32 × (Nat → Int32)
/-- numbers of commands are small -/
def zNmOk (num : Nat → Int32) : Prop := ∀ j : Nat, ∃ n : Nat, n ≤ 999 ∧ num j = nI n
def zNu (num : Nat → Int32) (i : Nat) : Nat := (num i).toNatClampNeg
theorem zNu_ok {num : Nat → Int32} (h : zNmOk num) (i : Nat) : num i = nI (zNu num i) ∧ zNu num i ≤ 999 := by
  obtain ⟨n, h1, h2⟩ := h i
  unfold zNu
  rw [h2, nI_clamp (by omega)]
  exact ⟨rfl, h1⟩
theorem zNu_at {num : Nat → Int32} (h : zNmOk num) (i : Nat) (hi : i < 5) : zAtN 5 num (nI i) = nI (zNu num i) := by
  unfold zAtN
  rw [if_neg (nI_pos (by omega)), if_neg (nI_ge (by omega) (by decide)), nI_clamp (by omega)]
  exact (zNu_ok h i).1

/-- why a command can not be carried out -/
def zCw (c r w lim cnt : Nat) (wov sew num : Nat → Int32) (j : Nat) : Int32 := match j with
  | 0 => (if zFr 1 (nI (zNu num 0)) (nI 20) && zFr 1 (nI (zNu num 1)) (nI 16) then 0 else 2)
  | 1 => (if (zFr 0 (nI (zNu num 0)) (nI c - 1) && zFr 0 (nI (zNu num 1)) (nI r - 1)) && (zFr 0 (nI (zNu num 2)) (nI c - 1) && zFr 0 (nI (zNu num 3)) (nI r - 1)) then (if (nI (zNu num 2)) < (nI (zNu num 0)) then 2 else if (nI (zNu num 3)) < (nI (zNu num 1)) then 2 else if zFr 0 (nI (zNu num 4)) 7 then 0 else 2) else 1)
  | 2 => (if zFr 0 (nI (zNu num 0)) 7 && (zFr 1 (nI (zNu num 1)) (nI 999) && (((zBo (FP.i2f (nI (zNu num 2)))) == -2147483648) || zFr 0 (zBo (FP.i2f (nI (zNu num 2)))) 1120403456)) then (if nI 16 ≤ nI cnt then 3 else 0) else 2)
  | 3 => (if zFr 1 (nI (zNu num 0)) (nI 16) then 0 else 2)
  | 4 => (if zFr 1 (nI (zNu num 0)) (nI 16) then (if nI w < (nI (zNu num 0)) then 3 else 0) else 2)
  | 5 => (if zFr 0 (nI (zNu num 0)) (nI c - 1) then (if zFr 0 (nI (zNu num 1)) 7 then 0 else 2) else 1)
  | 6 => (if zSp wov c w lim (nI (zNu num 0)) = -1 then 1 else if zAt sew (zSp wov c w lim (nI (zNu num 0)) / nI 16) (zSp wov c w lim (nI (zNu num 0)) - zSp wov c w lim (nI (zNu num 0)) / nI 16 * nI 16) == 1 then 3 else 0)
  | 7 => (if zFr 1 (nI (zNu num 0)) (nI 16) then 0 else 2)
  | _ => 0

def zCd (num : Nat → Int32) (j : Nat) (S : zS) : zS := match j with
  | 0 => ((zNu num 0), (zNu num 1), 0, S.2.2.2.1, S.2.2.2.2.1, (zFl (fun _ => 0) S.2.2.2.2.2.1 320), S.2.2.2.2.2.2.1, S.2.2.2.2.2.2.2.1, (zFl (fun _ => 0) S.2.2.2.2.2.2.2.2.1 320), (zFl (fun _ => (-1)) S.2.2.2.2.2.2.2.2.2.1 20), S.2.2.2.2.2.2.2.2.2.2.1, S.2.2.2.2.2.2.2.2.2.2.2.1, S.2.2.2.2.2.2.2.2.2.2.2.2.1, S.2.2.2.2.2.2.2.2.2.2.2.2.2.1, S.2.2.2.2.2.2.2.2.2.2.2.2.2.2.1, S.2.2.2.2.2.2.2.2.2.2.2.2.2.2.2)
  | 1 => (S.1, S.2.1, S.2.2.1, S.2.2.2.1, S.2.2.2.2.1, (zPt S.1 (zNu num 0) (zNu num 1) (zNu num 2) (zNu num 3) (nI (zNu num 4)) S.2.2.2.2.2.1).1, S.2.2.2.2.2.2.1, S.2.2.2.2.2.2.2.1, S.2.2.2.2.2.2.2.2.1, S.2.2.2.2.2.2.2.2.2.1, S.2.2.2.2.2.2.2.2.2.2.1, S.2.2.2.2.2.2.2.2.2.2.2.1, S.2.2.2.2.2.2.2.2.2.2.2.2.1, S.2.2.2.2.2.2.2.2.2.2.2.2.2.1, S.2.2.2.2.2.2.2.2.2.2.2.2.2.2.1, S.2.2.2.2.2.2.2.2.2.2.2.2.2.2.2)
  | 2 => (S.1, S.2.1, S.2.2.1, S.2.2.2.1, S.2.2.2.2.1, S.2.2.2.2.2.1, S.2.2.2.2.2.2.1, S.2.2.2.2.2.2.2.1, S.2.2.2.2.2.2.2.2.1, S.2.2.2.2.2.2.2.2.2.1, (S.2.2.2.2.2.2.2.2.2.2.1 + 1), (zPutN 16 S.2.2.2.2.2.2.2.2.2.2.2.1 (nI S.2.2.2.2.2.2.2.2.2.2.1) (nI (zNu num 0))), (zPutN 16 S.2.2.2.2.2.2.2.2.2.2.2.2.1 (nI S.2.2.2.2.2.2.2.2.2.2.1) (nI (zNu num 1))), (zPutN 16 S.2.2.2.2.2.2.2.2.2.2.2.2.2.1 (nI S.2.2.2.2.2.2.2.2.2.2.1) (nI (zNu num 1))), (zPutN 16 S.2.2.2.2.2.2.2.2.2.2.2.2.2.2.1 (nI S.2.2.2.2.2.2.2.2.2.2.1) (zBo (FP.i2f (nI (zNu num 2))))), (zPutS S.2.2.2.2.2.2.2.2.2.2.2.2.2.2.2 (nI S.2.2.2.2.2.2.2.2.2.2.1) (zFb (zBo (FP.i2f (nI (zNu num 2)))))))
  | 3 => (S.1, S.2.1, (zWs9 S.1 S.2.1 S.2.2.2.2.2.2.2.2.2.2.1 S.2.2.2.2.2.1 S.2.2.2.2.2.2.2.2.2.2.2.1 (zNu num 0) (S.2.2.1, S.2.2.2.2.2.2.1, S.2.2.2.2.2.2.2.1, S.2.2.2.2.2.2.2.2.2.2.2.2.2.1, S.2.2.2.2.2.2.2.2.2.1)).2.1, S.2.2.2.1, S.2.2.2.2.1, S.2.2.2.2.2.1, (zWs9 S.1 S.2.1 S.2.2.2.2.2.2.2.2.2.2.1 S.2.2.2.2.2.1 S.2.2.2.2.2.2.2.2.2.2.2.1 (zNu num 0) (S.2.2.1, S.2.2.2.2.2.2.1, S.2.2.2.2.2.2.2.1, S.2.2.2.2.2.2.2.2.2.2.2.2.2.1, S.2.2.2.2.2.2.2.2.2.1)).2.2.1, (zWs9 S.1 S.2.1 S.2.2.2.2.2.2.2.2.2.2.1 S.2.2.2.2.2.1 S.2.2.2.2.2.2.2.2.2.2.2.1 (zNu num 0) (S.2.2.1, S.2.2.2.2.2.2.1, S.2.2.2.2.2.2.2.1, S.2.2.2.2.2.2.2.2.2.2.2.2.2.1, S.2.2.2.2.2.2.2.2.2.1)).2.2.2.1, S.2.2.2.2.2.2.2.2.1, (zWs9 S.1 S.2.1 S.2.2.2.2.2.2.2.2.2.2.1 S.2.2.2.2.2.1 S.2.2.2.2.2.2.2.2.2.2.2.1 (zNu num 0) (S.2.2.1, S.2.2.2.2.2.2.1, S.2.2.2.2.2.2.2.1, S.2.2.2.2.2.2.2.2.2.2.2.2.2.1, S.2.2.2.2.2.2.2.2.2.1)).2.2.2.2.2, S.2.2.2.2.2.2.2.2.2.2.1, S.2.2.2.2.2.2.2.2.2.2.2.1, S.2.2.2.2.2.2.2.2.2.2.2.2.1, (zWs9 S.1 S.2.1 S.2.2.2.2.2.2.2.2.2.2.1 S.2.2.2.2.2.1 S.2.2.2.2.2.2.2.2.2.2.2.1 (zNu num 0) (S.2.2.1, S.2.2.2.2.2.2.1, S.2.2.2.2.2.2.2.1, S.2.2.2.2.2.2.2.2.2.2.2.2.2.1, S.2.2.2.2.2.2.2.2.2.1)).2.2.2.2.1, S.2.2.2.2.2.2.2.2.2.2.2.2.2.2.1, S.2.2.2.2.2.2.2.2.2.2.2.2.2.2.2)
  | 4 => (S.1, S.2.1, (S.2.2.1 - (zNu num 0)), S.2.2.2.1, S.2.2.2.2.1, S.2.2.2.2.2.1, S.2.2.2.2.2.2.1, S.2.2.2.2.2.2.2.1, (zFg S.2.2.2.2.2.2.1 S.2.2.2.2.2.2.2.2.1 S.1 (S.2.2.1 - (zNu num 0)) S.2.2.2.1), S.2.2.2.2.2.2.2.2.2.1, S.2.2.2.2.2.2.2.2.2.2.1, S.2.2.2.2.2.2.2.2.2.2.2.1, S.2.2.2.2.2.2.2.2.2.2.2.2.1, (zUw S.2.2.2.2.2.2.2.1 S.1 S.2.2.1 (zNu num 0) S.2.2.2.2.2.2.2.2.2.2.2.2.2.1), S.2.2.2.2.2.2.2.2.2.2.2.2.2.2.1, S.2.2.2.2.2.2.2.2.2.2.2.2.2.2.2)
  | 5 => (S.1, S.2.1, S.2.2.1, S.2.2.2.1, S.2.2.2.2.1, S.2.2.2.2.2.1, S.2.2.2.2.2.2.1, S.2.2.2.2.2.2.2.1, S.2.2.2.2.2.2.2.2.1, (zPutN 20 S.2.2.2.2.2.2.2.2.2.1 (nI (zNu num 0)) (nI (zNu num 1))), S.2.2.2.2.2.2.2.2.2.2.1, S.2.2.2.2.2.2.2.2.2.2.2.1, S.2.2.2.2.2.2.2.2.2.2.2.2.1, S.2.2.2.2.2.2.2.2.2.2.2.2.2.1, S.2.2.2.2.2.2.2.2.2.2.2.2.2.2.1, S.2.2.2.2.2.2.2.2.2.2.2.2.2.2.2)
  | 6 => (S.1, S.2.1, S.2.2.1, S.2.2.2.1, S.2.2.2.2.1, S.2.2.2.2.2.1, S.2.2.2.2.2.2.1, S.2.2.2.2.2.2.2.1, (zSwS S.2.2.2.2.2.2.1 S.2.2.2.2.2.2.2.2.1 S.1 S.2.2.1 S.2.2.2.1 (nI (zNu num 0))), S.2.2.2.2.2.2.2.2.2.1, S.2.2.2.2.2.2.2.2.2.2.1, S.2.2.2.2.2.2.2.2.2.2.2.1, S.2.2.2.2.2.2.2.2.2.2.2.2.1, S.2.2.2.2.2.2.2.2.2.2.2.2.2.1, S.2.2.2.2.2.2.2.2.2.2.2.2.2.2.1, S.2.2.2.2.2.2.2.2.2.2.2.2.2.2.2)
  | 7 => (S.1, S.2.1, S.2.2.1, (zNu num 0), S.2.2.2.2.1, S.2.2.2.2.2.1, S.2.2.2.2.2.2.1, S.2.2.2.2.2.2.2.1, (zFg S.2.2.2.2.2.2.1 S.2.2.2.2.2.2.2.2.1 S.1 S.2.2.1 (zNu num 0)), S.2.2.2.2.2.2.2.2.2.1, S.2.2.2.2.2.2.2.2.2.2.1, S.2.2.2.2.2.2.2.2.2.2.2.1, S.2.2.2.2.2.2.2.2.2.2.2.2.1, S.2.2.2.2.2.2.2.2.2.2.2.2.2.1, S.2.2.2.2.2.2.2.2.2.2.2.2.2.2.1, S.2.2.2.2.2.2.2.2.2.2.2.2.2.2.2)
  | _ => S
def zCq (num : Nat → Int32) (j : Nat) (S : zS) : Int32 := zCw S.1 S.2.1 S.2.2.1 S.2.2.2.1 S.2.2.2.2.2.2.2.2.2.2.1 S.2.2.2.2.2.2.1 S.2.2.2.2.2.2.2.2.1 num j
/-- a loom that can be worked on -/
def zSk9 (S : zS) : Prop := 1 ≤ S.1 ∧ S.1 ≤ 20 ∧ 1 ≤ S.2.1 ∧ S.2.1 ≤ 16 ∧ S.2.2.1 ≤ S.2.1 ∧ S.2.2.2.2.2.2.2.2.2.2.1 ≤ 16 ∧ S.2.2.2.1 ≤ 16 ∧ ∀ j, zFinS (S.2.2.2.2.2.2.2.2.2.2.2.2.2.2.2 j)
theorem zFr0_in {v : Int32} {n : Nat} (hn : n < 2 ^ 31) : zFr 0 v (nI n - 1) = zIn v (nI n) := by
  rw [show (0 : Int32) = nI 0 from nI_0.symm, show (1 : Int32) = nI 1 from nI_one.symm]
  exact zFr_in hn
theorem zFr1_n {n b : Nat} (hn : n < 2 ^ 31) (hb : b < 2 ^ 31) (h : zFr 1 (nI n) (nI b) = true) : 1 ≤ n ∧ n ≤ b := by
  rw [show (1 : Int32) = nI 1 from nI_one.symm] at h
  exact ⟨zFr_g (by decide) h, zFr_n hn hb h⟩
theorem zWs9_le {c r cnt : Nat} {cart col : Nat → Int32} : ∀ (n : Nat) (t : zWt), t.1 ≤ r → (zWs9 c r cnt cart col n t).2.1 ≤ r
  | 0, _, h => h
  | n + 1, t, h => by
    have h1 := zWvn_le (c := c) (cnt := cnt) (cart := cart) (col := col) h
    unfold zWs9
    split
    · exact zWs9_le n _ h1
    · exact h1
/-- what the refusal's number says of a fill -/
theorem zCq_1 {num : Nat → Int32} {S : zS} (hk : zSk9 S) (hnm : zNmOk num) (h : zCq num 1 S = 0) : zNu num 0 ≤ zNu num 2 ∧ zNu num 2 < S.1 ∧ zNu num 1 ≤ zNu num 3 ∧ zNu num 3 < S.2.1 := by
  have b0 := (zNu_ok hnm 0).2
  have b1 := (zNu_ok hnm 1).2
  have b2 := (zNu_ok hnm 2).2
  have b3 := (zNu_ok hnm 3).2
  obtain ⟨-, k1, -, k2, -⟩ := hk
  unfold zCq zCw at h
  simp only at h
  rw [zFr0_in (by omega), zFr0_in (by omega), zFr0_in (by omega), zFr0_in (by omega), zIn_n (by omega) (by omega), zIn_n (by omega) (by omega), zIn_n (by omega) (by omega), zIn_n (by omega) (by omega)] at h
  split at h
  · rename_i q
    rw [Bool.and_eq_true, Bool.and_eq_true, Bool.and_eq_true] at q
    split at h
    · exact absurd h (by decide)
    · rename_i q1
      split at h
      · exact absurd h (by decide)
      · rename_i q2
        exact ⟨m_nlt (by omega) (by omega) q1, of_decide_eq_true q.2.1, m_nlt (by omega) (by omega) q2, of_decide_eq_true q.2.2⟩
  · exact absurd h (by decide)
theorem zCq_3 {num : Nat → Int32} {S : zS} (hnm : zNmOk num) (h : zCq num 3 S = 0) : zNu num 0 ≤ 16 := by
  have b0 := (zNu_ok hnm 0).2
  unfold zCq zCw at h
  simp only at h
  split at h
  · rename_i q
    exact (zFr1_n (by omega) (by decide) q).2
  · exact absurd h (by decide)
theorem zCq_7 {num : Nat → Int32} {S : zS} (hnm : zNmOk num) (h : zCq num 7 S = 0) : 1 ≤ zNu num 0 ∧ zNu num 0 ≤ 16 := by
  have b0 := (zNu_ok hnm 0).2
  unfold zCq zCw at h
  simp only at h
  split at h
  · rename_i q
    exact zFr1_n (by omega) (by decide) q
  · exact absurd h (by decide)
theorem zCq_0 {num : Nat → Int32} {S : zS} (hnm : zNmOk num) (h : zCq num 0 S = 0) : (1 ≤ zNu num 0 ∧ zNu num 0 ≤ 20) ∧ 1 ≤ zNu num 1 ∧ zNu num 1 ≤ 16 := by
  have b0 := (zNu_ok hnm 0).2
  have b1 := (zNu_ok hnm 1).2
  unfold zCq zCw at h
  simp only at h
  split at h
  · rename_i q
    rw [Bool.and_eq_true] at q
    exact ⟨zFr1_n (by omega) (by decide) q.1, zFr1_n (by omega) (by decide) q.2⟩
  · exact absurd h (by decide)
theorem zCq_4 {num : Nat → Int32} {S : zS} (hk : zSk9 S) (hnm : zNmOk num) (h : zCq num 4 S = 0) : zNu num 0 ≤ S.2.2.1 := by
  have b0 := (zNu_ok hnm 0).2
  obtain ⟨-, -, -, k1, k2, -⟩ := hk
  unfold zCq zCw at h
  simp only at h
  split at h
  · split at h
    · exact absurd h (by decide)
    · rename_i q
      exact m_nlt (by omega) (by omega) q
  · exact absurd h (by decide)
theorem zPutS_ok {f : Nat → UInt32} {i : Int32} {x : UInt32} (hf : ∀ j, zFinS (f j)) (hx : zFinS x) : ∀ j, zFinS (zPutS f i x j) := by
  intro j
  unfold zPutS
  split
  · exact hf j
  · split
    · exact hf j
    · show zFinS (if j = i.toNatClampNeg then x else f j)
      split
      · exact hx
      · exact hf j
theorem zNm_put {num : Nat → Int32} {i v : Int32} (h : zNmOk num) (hv : ∃ n, n ≤ 999 ∧ v = nI n) : zNmOk (zPutN 5 num i v) := by
  intro j
  unfold zPutN
  split
  · exact h j
  · split
    · exact h j
    · show ∃ n, n ≤ 999 ∧ (if j = i.toNatClampNeg then v else num j) = nI n
      split
      · exact hv
      · exact h j
/-! THE TWO SIDES ARE EQUAL: rows and counts -/
theorem zAt_n {f : Nat → Int32} {b y : Nat} (hb : b < 20) (hy : y < 16) : zAt f (nI b) (nI y) = f (20 * y + b) := by
  unfold zAt
  have e : nI y * nI 20 + nI b = nI (20 * y + b) := by rw [pk_mul, nI_add, Nat.mul_comm]
  rw [e, if_neg (nI_pos (by omega)), if_neg (nI_ge hb (by decide)), if_neg (nI_pos (by omega)), if_neg (nI_ge (by omega) (by decide)), nI_clamp (by omega)]
theorem zAt_m {f : Nat → Int32} {y : Int32} : zAt f (nI 0 - 1) y = -1 := by
  unfold zAt
  rw [if_pos (by decide)]
theorem zAt_20 {f : Nat → Int32} {b : Nat} {y : Int32} (h : 20 ≤ b) (hb : b < 2 ^ 31) : zAt f (nI b) y = -1 := by
  unfold zAt
  rw [if_neg (nI_pos hb), if_pos (nI_le h hb)]
theorem zAt_ym {f : Nat → Int32} {b : Nat} (hb : b < 20) : zAt f (nI b) (nI 0 - 1) = -1 := by
  unfold zAt
  have h : ((nI 0 - 1) * nI 20 + nI b < 0) := (by decide : ∀ b : Fin 20, ((nI 0 - 1) * nI 20 + nI b.1 < 0)) ⟨b, hb⟩
  rw [if_neg (nI_pos (by omega)), if_neg (nI_ge hb (by decide)), if_pos h]
theorem zPutG_n {f : Nat → Int32} {b y : Nat} {v : Int32} (hb : b < 20) (hy : y < 16) : zPutG f (nI b) (nI y) v = upd f (20 * y + b) v := by
  unfold zPutG
  have e : nI y * nI 20 + nI b = nI (20 * y + b) := by rw [pk_mul, nI_add, Nat.mul_comm]
  rw [e, if_neg (nI_pos (by omega)), if_neg (nI_ge hb (by decide)), if_neg (nI_pos (by omega)), if_neg (nI_ge (by omega) (by decide)), nI_clamp (by omega)]
theorem zPutN_n {n : Nat} {f : Nat → Int32} {k : Nat} {v : Int32} (hk : k < n) (hn : n < 2 ^ 31) : zPutN n f (nI k) v = upd f k v := by
  unfold zPutN
  rw [if_neg (nI_pos (by omega)), if_neg (nI_ge hk hn), nI_clamp (by omega)]
theorem zSh_n {f : Nat → UInt32} {k : Nat} (hk : k < 16) : zSh f (nI k) = f k := by
  unfold zSh
  rw [if_neg (nI_pos (by omega)), if_neg (nI_ge hk (by decide)), nI_clamp (by omega)]
theorem zPutS_n {f : Nat → UInt32} {k : Nat} {v : UInt32} (hk : k < 16) : zPutS f (nI k) v = vf_upd f k v := by
  unfold zPutS
  rw [if_neg (nI_pos (by omega)), if_neg (nI_ge hk (by decide)), nI_clamp (by omega)]
theorem zSN_cg {f g : Nat → Nat} : ∀ {n : Nat}, (∀ y, y < n → f y = g y) → zSN f n = zSN g n
  | 0, _ => rfl
  | n + 1, h => by
    show zSN f n + f n = zSN g n + g n
    rw [zSN_cg (n := n) fun y hy => h y (by omega), h n (by omega)]
theorem zSm_cg {f g : Nat → Int32} : ∀ {n : Nat}, (∀ y, y < n → f y = g y) → zSm f n = zSm g n
  | 0, _ => rfl
  | n + 1, h => by
    show zSm f n + f n = zSm g n + g n
    rw [zSm_cg (n := n) fun y hy => h y (by omega), h n (by omega)]
theorem zMx_cg {f g : Nat → Nat} : ∀ {n : Nat}, (∀ y, y < n → f y = g y) → zMx f n = zMx g n
  | 0, _ => rfl
  | n + 1, h => by
    show max (zMx f n) (f n) = max (zMx g n) (g n)
    rw [zMx_cg (n := n) fun y hy => h y (by omega), h n (by omega)]
theorem zIt_cg {α : Type} {f g : Nat → α → α} {s : α} : ∀ {n : Nat}, (∀ y, y < n → ∀ q, f y q = g y q) → zIt f n s = zIt g n s
  | 0, _ => rfl
  | n + 1, h => by
    show f n (zIt f n s) = g n (zIt g n s)
    rw [zIt_cg (n := n) fun y hy => h y (by omega), h n (by omega)]
/-- a row of a grid is the row L -/
def zRL (f : Nat → Int32) (y c : Nat) (L : Nat → Int32) : Prop := y < 16 ∧ c ≤ 20 ∧ ∀ b, b < c → f (20 * y + b) = L b ∧ ¬ L b = -1
theorem zRL.at {f L : Nat → Int32} {y c b : Nat} (h : zRL f y c L) (hb : b < c) : zAt f (nI b) (nI y) = L b := by
  have h2 := h.2.1
  rw [zAt_n (by omega) h.1]
  exact (h.2.2 b hb).1
theorem zRL.ce {f L : Nat → Int32} {y c : Nat} {v : Int32} (h : zRL f y c L) : zCe f v (nI y) c = zCt (fun b => L b == v) c := zCt_cg fun b hb => by
  show (zAt f (nI b) (nI y) == v) = _
  rw [h.at hb]
theorem zRL.wc {f g L M : Nat → Int32} {y c : Nat} (h : zRL f y c L) (k : zRL g y c M) : zWc9 f g (nI y) c = zCt (fun b => !(L b == M b)) c := zCt_cg fun b hb => by
  unfold zWr
  rw [h.at hb, k.at hb]
theorem nI_m1' {v : Nat} (h : v < 2 ^ 31) : ¬ nI v = -1 := fun q => nI_m1 h q
/-- a count over what is left of a row -/
def zC2 (p : Nat → Bool) : Nat → Nat → Nat
  | _, 0 => 0
  | a, d + 1 => (if p a then 1 else 0) + zC2 p (a + 1) d
theorem zC2_s (p : Nat → Bool) : ∀ (d a : Nat), zCt p (a + d) = zCt p a + zC2 p a d
  | 0, a => rfl
  | d + 1, a => by
    rw [show a + (d + 1) = (a + 1) + d from by omega, zC2_s p d (a + 1)]
    show zCt p a + (if p a then 1 else 0) + _ = zCt p a + ((if p a then 1 else 0) + _)
    omega
theorem zC2_0 (p : Nat → Bool) (c : Nat) : zCt p c = zC2 p 0 c := by
  have := zC2_s p c 0
  rw [Nat.zero_add] at this
  rw [this]
  show 0 + _ = _
  omega
/-- new shuttles: runs told by their starts, and by their ends -/
theorem zNs_e {L : Nat → Int32} {Nw M beg old en : Nat → Bool} {c : Nat} (hN : ∀ a, a < c → Nw a = (!M a && (en a || Nw (a + 1)))) (hO : ∀ a, old (a + 1) = ((!beg a && old a) || M a)) (hE : ∀ a, a < c → en a = (a + 1 == c || beg (a + 1))) : ∀ (d a : Nat), a + d = c → zC2 (fun b => en b && !old (b + 1)) a d = zC2 (fun b => beg b && Nw b) a d + (if a < c ∧ beg a = false ∧ old a = false ∧ Nw a = true then 1 else 0)
  | 0, a, h => by
    rw [if_neg (by omega)]
    rfl
  | d + 1, a, h => by
    have ih := zNs_e (L := L) hN hO hE d (a + 1) (by omega)
    show (if (en a && !old (a + 1)) then 1 else 0) + zC2 _ (a + 1) d = (if (beg a && Nw a) then 1 else 0) + zC2 _ (a + 1) d + _
    rw [ih, hN a (by omega), hO a]
    have e := hE a (by omega)
    by_cases hc : a + 1 = c
    · have e1 : en a = true := by rw [e]; simp [hc]
      rw [if_neg (by omega : ¬ (a + 1 < c ∧ _))]
      rw [e1]
      have e4 : a < c := by omega
      cases beg a <;> cases old a <;> cases M a <;> simp [e4] <;> omega
    · have e1 : en a = beg (a + 1) := by rw [e]; simp [hc]
      have e3 : a + 1 < c := by omega
      have e4 : a < c := by omega
      rw [e1]
      cases beg a <;> cases old a <;> cases M a <;> cases beg (a + 1) <;> cases Nw (a + 1) <;> simp [e3, e4] <;> omega
theorem zNr_e {f L : Nat → Int32} {y c : Nat} (h : zRL f y c L) {M : Nat → Bool} (hM : ∀ b, b < c → decide (zAt f (nI b) (nI y - 1) = L b) = M b) {v : Int32} : ∀ (d a : Nat), a + d = c → (∀ b, b < c → L b = v → decide (zAt f (nI b) (nI y - 1) = v) = M b) → zNr f (nI y) v a d = (if d = 0 then true else if L a = v then (!M a && zNr f (nI y) v (a + 1) (d - 1)) else true)
  | 0, _, _, _ => rfl
  | d + 1, a, e, hv => by
    rw [if_neg (by omega)]
    show (if zAt f (nI a) (nI y) = v then _ else true) = _
    rw [h.at (by omega)]
    by_cases q : L a = v
    · rw [if_pos q, if_pos q]
      have := hv a (by omega) q
      by_cases r : zAt f (nI a) (nI y - 1) = v
      · rw [if_pos r]
        rw [decide_eq_true r] at this
        rw [← this]
        rfl
      · rw [if_neg r]
        rw [decide_eq_false r] at this
        rw [← this]
        rfl
    · rw [if_neg q, if_neg q]
/-! slits: told by their ends, and by their starts -/
theorem zIt_range {α : Type} (f : Nat → α → α) (q : α) : ∀ n : Nat, zIt f n q = (List.range n).foldl (fun q y => f y q) q
  | 0 => rfl
  | n + 1 => by
    rw [List.range_succ, List.foldl_append, ← zIt_range f q n]
    rfl
theorem zIt_list {α β : Type} (l : List β) (d : β) (F : β → α → α) (q : α) : zIt (fun j h => F (l.getD j d) h) l.length q = l.foldl (fun h x => F x h) q := by
  have key : ∀ n : Nat, n ≤ l.length → zIt (fun j h => F (l.getD j d) h) n q = (l.take n).foldl (fun h x => F x h) q := by
    intro n
    induction n with
    | zero => intro _; rfl
    | succ n ih =>
      intro hn
      show F (l.getD n d) (zIt _ n q) = _
      rw [ih (by omega), List.take_succ, List.foldl_append, List.getElem?_eq_getElem (by omega : n < l.length)]
      show F (l.getD n d) _ = F (l[n]) _
      rw [List.getD_eq_getElem?_getD, List.getElem?_eq_getElem (by omega : n < l.length)]
      rfl
  rw [key l.length (Nat.le_refl _), List.take_length]
/-- the slits, as places -/
def zSL (P : Nat → Nat → Bool) (c w : Nat) : List (Nat × Nat) := (List.range c).flatMap fun b => ((List.range w).filter (P b)).map fun y => (b, y)
theorem zSL_s (P : Nat → Nat → Bool) (c w : Nat) : zSL P (c + 1) w = zSL P c w ++ ((List.range w).filter (P c)).map fun y => (c, y) := by
  unfold zSL
  rw [List.range_succ, List.flatMap_append]
  simp
theorem zSL_mem {P : Nat → Nat → Bool} {c w b y : Nat} : (b, y) ∈ zSL P c w ↔ b < c ∧ y < w ∧ P b y = true := by
  unfold zSL
  simp only [List.mem_flatMap, List.mem_map, List.mem_filter, List.mem_range, Prod.mk.injEq]
  constructor
  · rintro ⟨b1, h1, y1, ⟨h2, h3⟩, rfl, rfl⟩
    exact ⟨h1, h2, h3⟩
  · rintro ⟨h1, h2, h3⟩
    exact ⟨b, h1, y, ⟨h2, h3⟩, rfl, rfl⟩
theorem zSL_row {α : Type} {P : Nat → Bool} {b : Nat} (F : Nat → Nat → α → α) (q : α) : ∀ w : Nat, zIt (fun y q => if P y then F b y q else q) w q = (((List.range w).filter P).map fun y => (b, y)).foldl (fun q x => F x.1 x.2 q) q
  | 0 => rfl
  | w + 1 => by
    show (if P w then F b w (zIt _ w q) else zIt _ w q) = _
    rw [zSL_row F q w, List.range_succ, List.filter_append, List.map_append, List.foldl_append]
    cases h : P w
    · simp [h]
    · simp [h]
theorem zSL_fold {α : Type} {P : Nat → Nat → Bool} (F : Nat → Nat → α → α) (q : α) (w : Nat) : ∀ c : Nat, zIt (fun b q => zIt (fun y q => if P b y then F b y q else q) w q) c q = (zSL P c w).foldl (fun q x => F x.1 x.2 q) q
  | 0 => rfl
  | c + 1 => by
    show zIt (fun y q => if P c y then F c y q else q) w (zIt _ c q) = _
    rw [zSL_fold F q w c, zSL_s, List.foldl_append, zSL_row]
theorem zFil_len (P : Nat → Bool) : ∀ w : Nat, ((List.range w).filter P).length = zCt P w
  | 0 => rfl
  | w + 1 => by
    rw [List.range_succ, List.filter_append, List.length_append, zFil_len P w]
    show _ = zCt P w + _
    cases h : P w
    · simp [h]
    · simp [h]
theorem zSL_len (P : Nat → Nat → Bool) (w : Nat) : ∀ c : Nat, (zSL P c w).length = zSN (fun b => zCt (P b) w) c
  | 0 => rfl
  | c + 1 => by
    rw [zSL_s, List.length_append, zSL_len P w c, List.length_map, zFil_len]
    rfl
/-- where a sequence of parted rows begins that is told by its end -/
def zFrP (P : Nat → Bool) : Nat → Nat
  | 0 => 0
  | y + 1 => if P y then zFrP P y else y + 1
/-- the length of the sequence that begins here -/
def zRlP (P : Nat → Bool) (w a : Nat) : Nat := if 0 < a ∧ P (a - 1) = true then 0 else zLn P a (w - a)
theorem zLn_0 {P : Nat → Bool} {a d : Nat} (h : P a = false) : zLn P a d = 0 := by
  cases d with
  | zero => rfl
  | succ d =>
    unfold zLn
    rw [if_neg (by rw [h]; decide)]
theorem zLn_run {P : Nat → Bool} {w : Nat} : ∀ (k f : Nat), (∀ y, f ≤ y → y < f + k → P y = true) → f + k ≤ w → zLn P f (w - f) = k + zLn P (f + k) (w - (f + k))
  | 0, f, _, _ => by simp
  | k + 1, f, h, hw => by
    obtain ⟨d, hd⟩ : ∃ d, w - f = d + 1 := ⟨w - f - 1, by omega⟩
    rw [hd]
    show (if P f then zLn P (f + 1) d + 1 else 0) = _
    rw [if_pos (h f (by omega) (by omega)), show d = w - (f + 1) from by omega, zLn_run k (f + 1) (fun y h1 h2 => h y (by omega) (by omega)) (by omega), show f + 1 + k = f + (k + 1) from by omega]
    omega
theorem zFrP_run {P : Nat → Bool} : ∀ n : Nat, zFrP P n ≤ n ∧ (∀ y, zFrP P n ≤ y → y < n → P y = true) ∧ (0 < zFrP P n → P (zFrP P n - 1) = false)
  | 0 => ⟨Nat.le_refl _, fun y _ h => absurd h (by omega), fun h => absurd h (by show ¬ 0 < 0; omega)⟩
  | n + 1 => by
    obtain ⟨h1, h2, h3⟩ := zFrP_run (P := P) n
    unfold zFrP
    cases e : P n
    · rw [if_neg (by decide)]
      exact ⟨Nat.le_refl _, fun y a b => absurd a (by omega), fun _ => e⟩
    · rw [if_pos rfl]
      refine ⟨by omega, fun y a b => ?_, h3⟩
      by_cases q : y = n
      · rw [q]; exact e
      · exact h2 y a (by omega)
/-- both ways tell the same -/
theorem zEnds {α : Type} {P : Nat → Bool} {w lm : Nat} (hP : ∀ y, w ≤ y → P y = false) (F : Nat → Nat → α → α) (q : α) : ∀ n : Nat, n ≤ w →
    zIt (fun y q => if decide (lm < zRlP P w y) then F y (y + zRlP P w y - 1) q else q) n q =
      (if 0 < n ∧ P (n - 1) = true ∧ P n = true ∧ lm < zRlP P w (zFrP P n) then F (zFrP P n) (zFrP P n + zRlP P w (zFrP P n) - 1) (zIt (fun y q => if !P (y + 1) && decide (lm < y + 1 - zFrP P (y + 1)) then F (zFrP P (y + 1)) y q else q) n q)
       else zIt (fun y q => if !P (y + 1) && decide (lm < y + 1 - zFrP P (y + 1)) then F (zFrP P (y + 1)) y q else q) n q)
  | 0, _ => by rw [if_neg (by omega)]; rfl
  | n + 1, hn => by
    have ih := zEnds (lm := lm) hP F q n (by omega)
    obtain ⟨f1, f2, f3⟩ := zFrP_run (P := P) n
    show (if decide (lm < zRlP P w n) then F n (n + zRlP P w n - 1) (zIt _ n q) else zIt _ n q) = _
    rw [ih]
    show _ = (if _ then F _ _ (if !P (n + 1) && decide (lm < n + 1 - zFrP P (n + 1)) then F (zFrP P (n + 1)) n (zIt _ n q) else zIt _ n q) else (if !P (n + 1) && decide (lm < n + 1 - zFrP P (n + 1)) then F (zFrP P (n + 1)) n (zIt _ n q) else zIt _ n q))
    generalize zIt (fun y q => if !P (y + 1) && decide (lm < y + 1 - zFrP P (y + 1)) then F (zFrP P (y + 1)) y q else q) n q = E
    cases e : P n
    · have r0 : zRlP P w n = 0 := by unfold zRlP; rw [zLn_0 e]; split <;> rfl
      have fr : zFrP P (n + 1) = n + 1 := by show (if P n then _ else _) = _; rw [e]; rfl
      rw [r0, fr, if_neg (by simp), if_neg (by simp), if_neg (by simp [e]), if_neg (by simp)]
    · have fr : zFrP P (n + 1) = zFrP P n := by show (if P n then _ else _) = _; rw [e]; rfl
      rw [fr]
      by_cases h0 : 0 < n ∧ P (n - 1) = true
      · have r0 : zRlP P w n = 0 := by unfold zRlP; rw [if_pos h0]
        have ff : zFrP P n < n := by
          rcases Nat.lt_or_ge (zFrP P n) n with q | q
          · exact q
          · have e2 : zFrP P n = n := by omega
            have := f3 (by omega)
            rw [e2, h0.2] at this
            exact absurd this (by decide)
        have rl : zRlP P w (zFrP P n) = n + 1 - zFrP P n + zLn P (n + 1) (w - (n + 1)) := by
          unfold zRlP
          rw [if_neg (fun q => by have := f3 q.1; rw [q.2] at this; exact absurd this (by decide))]
          rw [zLn_run (P := P) (w := w) (n + 1 - zFrP P n) (zFrP P n) (fun y a b => by
            by_cases q : y = n
            · rw [q]; exact e
            · exact f2 y a (by omega)) (by omega), show zFrP P n + (n + 1 - zFrP P n) = n + 1 from by omega]
        rw [r0]
        obtain ⟨h01, h02⟩ := h0
        cases e1 : P (n + 1)
        · rw [zLn_0 e1, Nat.add_zero] at rl
          have en : zFrP P n + (n + 1 - zFrP P n) - 1 = n := by omega
          by_cases hl : lm < n + 1 - zFrP P n
          · simp only [rl, en, h01, h02, hl, decide_true, decide_false, Nat.not_lt_zero, Bool.not_false, Bool.and_self, and_self, if_true, if_false, Bool.false_eq_true, and_false, false_and, true_and, and_true]
          · simp only [rl, en, h01, h02, hl, decide_true, decide_false, Nat.not_lt_zero, Bool.not_false, Bool.and_false, and_self, if_true, if_false, Bool.false_eq_true, and_false, false_and, true_and, and_true]
        · have n1 : 0 < n + 1 := by omega
          by_cases hl : lm < zRlP P w (zFrP P n)
          · simp only [e, n1, show n + 1 - 1 = n from rfl, h01, h02, hl, decide_true, decide_false, Nat.not_lt_zero, Bool.not_true, Bool.false_and, and_self, if_true, if_false, Bool.false_eq_true, and_false, false_and, true_and, and_true]
          · simp only [e, n1, show n + 1 - 1 = n from rfl, h01, h02, hl, decide_true, decide_false, Nat.not_lt_zero, Bool.not_true, Bool.false_and, and_self, if_true, if_false, Bool.false_eq_true, and_false, false_and, true_and, and_true]
      · have ff : zFrP P n = n := by
          rcases Nat.lt_or_ge (zFrP P n) n with q | q
          · exact absurd ⟨by omega, f2 (n - 1) (by omega) (by omega)⟩ h0
          · omega
        have h01 : ∀ Q : Prop, (0 < n ∧ P (n - 1) = true ∧ Q) = False := fun Q => eq_false fun q => h0 ⟨q.1, q.2.1⟩
        have rl : zRlP P w n = 1 + zLn P (n + 1) (w - (n + 1)) := by
          unfold zRlP
          rw [if_neg h0, zLn_run (P := P) (w := w) 1 n (fun y a b => by rw [show y = n from by omega]; exact e) (by omega)]
        have h00 : (0 < n ∧ P (n - 1) = true) = False := eq_false h0
        rw [ff]
        cases e1 : P (n + 1)
        · rw [zLn_0 e1, Nat.add_zero] at rl
          have en : n + 1 - n = 1 := by omega
          by_cases hl : lm < 1
          · simp only [rl, en, h00, h01, hl, show n + 1 - 1 = n from rfl, decide_true, decide_false, Bool.not_false, Bool.and_self, and_self, if_true, if_false, Bool.false_eq_true, and_false, false_and, true_and, and_true]
          · simp only [rl, en, h00, h01, hl, show n + 1 - 1 = n from rfl, decide_true, decide_false, Bool.not_false, Bool.and_false, and_self, if_true, if_false, Bool.false_eq_true, and_false, false_and, true_and, and_true]
        · have n1 : 0 < n + 1 := by omega
          by_cases hl : lm < zRlP P w n
          · simp only [e, n1, h00, h01, hl, show n + 1 - 1 = n from rfl, decide_true, decide_false, Bool.not_true, Bool.false_and, and_self, if_true, if_false, Bool.false_eq_true, and_false, false_and, true_and, and_true]
          · simp only [e, n1, h00, h01, hl, show n + 1 - 1 = n from rfl, decide_true, decide_false, Bool.not_true, Bool.false_and, and_self, if_true, if_false, Bool.false_eq_true, and_false, false_and, true_and, and_true]
theorem zEnds_w {α : Type} {P : Nat → Bool} {w lm : Nat} (hP : ∀ y, w ≤ y → P y = false) (F : Nat → Nat → α → α) (q : α) :
    zIt (fun y q => if !P (y + 1) && decide (lm < y + 1 - zFrP P (y + 1)) then F (zFrP P (y + 1)) y q else q) w q = zIt (fun y q => if decide (lm < zRlP P w y) then F y (y + zRlP P w y - 1) q else q) w q := by
  rw [zEnds (lm := lm) hP F q w (Nat.le_refl _), if_neg (fun k => by have := hP w (Nat.le_refl _); rw [k.2.2.1] at this; exact absurd this (by decide))]
theorem zPa_m {wov : Nat → Int32} {c w b : Nat} (hb : b < 20) : zPa wov c w (nI b) (nI 0 - 1) = false := by
  unfold zPa
  rw [zAt_ym hb, nI_1]
  by_cases q : b + 1 < 20
  · rw [zAt_ym q]; simp
  · rw [zAt_20 (by omega) (by omega)]; simp
theorem zPa_c {wov : Nat → Int32} {c w b : Nat} {y : Int32} (hb : c ≤ b + 1) (hb2 : b + 1 < 2 ^ 31) : zPa wov c w (nI b) y = false := by
  unfold zPa
  rw [nI_1, decide_eq_true (nI_le hb hb2)]
  simp
theorem zLn_cg {p q : Nat → Bool} : ∀ (d a : Nat), (∀ y, a ≤ y → y < a + d → p y = q y) → zLn p a d = zLn q a d
  | 0, _, _ => rfl
  | d + 1, a, h => by
    show (if p a then zLn p (a + 1) d + 1 else 0) = (if q a then zLn q (a + 1) d + 1 else 0)
    rw [h a (by omega) (by omega), zLn_cg d (a + 1) fun y h1 h2 => h y (by omega) (by omega)]
theorem zRl_c {wov : Nat → Int32} {c w b a : Nat} (hb : c ≤ b + 1) (hb2 : b + 1 < 2 ^ 31) : zRl wov c w (nI b) a = 0 := by
  unfold zRl
  rw [zPa_c hb hb2, if_neg (by decide)]
  exact zLn_0 (zPa_c hb hb2)
/-- the reference's slits are the class's -/
def zPsh (b f t : Nat) (q : zF4) : zF4 := (q.1 + 1, upd q.2.1 q.1 (nI b), upd q.2.2.1 q.1 (nI f), upd q.2.2.2 q.1 (nI t))
def zSlP (wov : Nat → Int32) (c w lm b y : Nat) : Bool := decide (lm < zRl wov c w (nI b) y)
/-- the arrays hold the list -/
theorem zPsh_l (g : Nat × Nat → Nat) : ∀ (l : List (Nat × Nat)) (q : zF4), (l.foldl (fun q x => zPsh x.1 x.2 (g x) q) q).1 = q.1 + l.length ∧ (∀ j, j < q.1 → (l.foldl (fun q x => zPsh x.1 x.2 (g x) q) q).2.1 j = q.2.1 j ∧ (l.foldl (fun q x => zPsh x.1 x.2 (g x) q) q).2.2.1 j = q.2.2.1 j ∧ (l.foldl (fun q x => zPsh x.1 x.2 (g x) q) q).2.2.2 j = q.2.2.2 j) ∧
    ∀ k x, l[k]? = some x → (l.foldl (fun q x => zPsh x.1 x.2 (g x) q) q).2.1 (q.1 + k) = nI x.1 ∧ (l.foldl (fun q x => zPsh x.1 x.2 (g x) q) q).2.2.1 (q.1 + k) = nI x.2 ∧ (l.foldl (fun q x => zPsh x.1 x.2 (g x) q) q).2.2.2 (q.1 + k) = nI (g x)
  | [], q => ⟨rfl, fun j _ => ⟨rfl, rfl, rfl⟩, fun k x h => by simp at h⟩
  | x :: l, q => by
    obtain ⟨i1, i2, i3⟩ := zPsh_l g l (zPsh x.1 x.2 (g x) q)
    have e1 : (zPsh x.1 x.2 (g x) q).1 = q.1 + 1 := rfl
    rw [List.foldl_cons]
    refine ⟨by rw [i1, e1, List.length_cons]; omega, fun j hj => ?_, fun k y h => ?_⟩
    · obtain ⟨a1, a2, a3⟩ := i2 j (by omega)
      rw [a1, a2, a3]
      exact ⟨upd_ne (by omega), upd_ne (by omega), upd_ne (by omega)⟩
    · cases k with
      | zero =>
        obtain ⟨a1, a2, a3⟩ := i2 q.1 (by omega)
        simp only [List.getElem?_cons_zero, Option.some.injEq] at h
        subst h
        rw [Nat.add_zero, a1, a2, a3]
        exact ⟨if_pos rfl, if_pos rfl, if_pos rfl⟩
      | succ k =>
        rw [List.getElem?_cons_succ] at h
        have := i3 k y h
        rw [e1] at this
        rw [show q.1 + (k + 1) = q.1 + 1 + k from by omega]
        exact this

/-! the slit of a number, sums over slits, what is sewn -/
theorem zSpI_no {P : Nat → Bool} {b : Nat} {ix : Int32} (h : ∀ m : Nat, m < 2 ^ 31 → ¬ nI m = ix) : ∀ (d y n : Nat), n + d < 2 ^ 31 → ∃ m, zSpI P b ix y d n = (m, none) ∧ m ≤ n + d
  | 0, y, n, _ => ⟨n, rfl, by omega⟩
  | d + 1, y, n, hn => by
    unfold zSpI
    by_cases q : P y = true
    · rw [if_pos q, if_neg (h n (by omega))]
      obtain ⟨m, h1, h2⟩ := zSpI_no h d (y + 1) (n + 1) (by omega)
      exact ⟨m, h1, by omega⟩
    · rw [if_neg q]
      obtain ⟨m, h1, h2⟩ := zSpI_no h d (y + 1) n (by omega)
      exact ⟨m, h1, by omega⟩
theorem zSpO_no {P : Nat → Nat → Bool} {w : Nat} {ix : Int32} (h : ∀ m : Nat, m < 2 ^ 31 → ¬ nI m = ix) : ∀ (d b n : Nat), n + d * w < 2 ^ 31 → zSpO P w ix b d n = none
  | 0, _, _, _ => rfl
  | d + 1, b, n, hn => by
    rw [Nat.succ_mul] at hn
    unfold zSpO
    obtain ⟨m, h1, h2⟩ := zSpI_no (P := P b) (b := b) h w 0 n (by omega)
    rw [h1]
    exact zSpO_no h d (b + 1) m (by omega)
theorem zSpI_k {P : Nat → Bool} {b k : Nat} (hk : k < 2 ^ 31) : ∀ (d y n : Nat), n ≤ k → n + d < 2 ^ 31 → zSpI P b (nI k) y d n = (match ((List.range' y d).filter P)[k - n]? with
    | some a => (k, some (nI (16 * b + a)))
    | none => (n + ((List.range' y d).filter P).length, none))
  | 0, y, n, _, _ => rfl
  | d + 1, y, n, h1, h2 => by
    unfold zSpI
    rw [List.range'_succ]
    by_cases q : P y = true
    · rw [if_pos q, List.filter_cons_of_pos q]
      by_cases e : n = k
      · subst e
        rw [if_pos rfl, Nat.sub_self, List.getElem?_cons_zero]
        show (n, some (nI b * nI 16 + nI y)) = (n, some (nI (16 * b + y)))
        rw [pk_mul, nI_add, Nat.mul_comm]
      · rw [if_neg (fun r => e (m_eq (by omega) hk r)), zSpI_k hk d (y + 1) (n + 1) (by omega) (by omega), show k - n = (k - (n + 1)) + 1 from by omega, List.getElem?_cons_succ, List.length_cons]
        rw [show n + (((List.range' (y + 1) d).filter P).length + 1) = n + 1 + ((List.range' (y + 1) d).filter P).length from by omega]
    · rw [if_neg q, List.filter_cons_of_neg q, zSpI_k hk d (y + 1) n h1 (by omega)]
def zSLr (P : Nat → Nat → Bool) (w b d : Nat) : List (Nat × Nat) := (List.range' b d).flatMap fun b => ((List.range w).filter (P b)).map fun y => (b, y)
theorem zSpO_k {P : Nat → Nat → Bool} {w k : Nat} (hk : k < 2 ^ 31) : ∀ (d b n : Nat), n ≤ k → n + d * w < 2 ^ 31 → zSpO P w (nI k) b d n = (match (zSLr P w b d)[k - n]? with
    | some x => some (nI (16 * x.1 + x.2))
    | none => none)
  | 0, b, n, _, _ => rfl
  | d + 1, b, n, h1, h2 => by
    rw [Nat.succ_mul] at h2
    unfold zSpO
    rw [zSpI_k hk w 0 n h1 (by omega), ← List.range_eq_range']
    have hl : ((List.range w).filter (P b)).length ≤ w := by rw [zFil_len]; exact zCt_le _ _
    unfold zSLr
    rw [List.range'_succ, List.flatMap_cons]
    by_cases q : k - n < ((List.range w).filter (P b)).length
    · rw [List.getElem?_append_left (by rw [List.length_map]; exact q), List.getElem?_map, List.getElem?_eq_getElem q]
      rfl
    · rw [List.getElem?_append_right (by rw [List.length_map]; omega), List.length_map, List.getElem?_eq_none (by omega : ((List.range w).filter (P b)).length ≤ k - n)]
      show zSpO P w (nI k) (b + 1) d (n + _) = _
      rw [zSpO_k hk d (b + 1) _ (by omega) (by omega), show k - n - ((List.range w).filter (P b)).length = k - (n + ((List.range w).filter (P b)).length) from by omega]
      rfl
theorem zSp_k {wov : Nat → Int32} {c w lm k : Nat} (hc : c ≤ 20) (hw : w ≤ 16) (hk : k < 2 ^ 31) : zSp wov c w lm (nI k) = (match (zSL (zSlP wov c w lm) c w)[k]? with
    | some x => nI (16 * x.1 + x.2)
    | none => -1) := by
  unfold zSp
  have hm : c * w ≤ 20 * 16 := Nat.mul_le_mul hc hw
  rw [zSpO_k hk c 0 0 (by omega) (by omega), Nat.sub_zero]
  unfold zSLr
  rw [← List.range_eq_range']
  show ((match (zSL (zSlP wov c w lm) c w)[k]? with
    | some x => some (nI (16 * x.1 + x.2))
    | none => none) : Option Int32).getD (-1) = _
  cases (zSL (zSlP wov c w lm) c w)[k]? <;> rfl
theorem zSp_neg {wov : Nat → Int32} {c w lm : Nat} {ix : Int32} (hc : c ≤ 20) (hw : w ≤ 16) (hk : ix < 0) : zSp wov c w lm ix = -1 := by
  unfold zSp
  have hm : c * w ≤ 20 * 16 := Nat.mul_le_mul hc hw
  rw [zSpO_no (fun m hm q => nI_pos hm (by rw [q]; exact hk)) c 0 0 (by omega)]
  rfl
theorem zSc_l (wov : Nat → Int32) (c w lm : Nat) : zSc wov c w lm = (zSL (zSlP wov c w lm) c w).length := (zSL_len _ _ _).symm
/-- sums -/
theorem zSN_it (f : Nat → Nat) : ∀ n : Nat, zSN f n = zIt (fun y q => q + f y) n 0
  | 0 => rfl
  | n + 1 => by
    show zSN f n + f n = _
    rw [zSN_it f n]
    rfl
theorem zIt_at (f : Nat → Nat) (a : Nat) : ∀ n : Nat, zIt (fun y q => q + f y) n a = a + zSN f n
  | 0 => rfl
  | n + 1 => by
    show zIt _ n a + f n = a + (zSN f n + f n)
    rw [zIt_at f a n, Nat.add_assoc]
theorem zCt_SN (p : Nat → Bool) : ∀ n : Nat, zCt p n = zSN (fun y => if p y then 1 else 0) n
  | 0 => rfl
  | n + 1 => by
    show zCt p n + _ = zSN _ n + _
    rw [zCt_SN p n]
theorem zSN_add (f g : Nat → Nat) : ∀ n : Nat, zSN (fun y => f y + g y) n = zSN f n + zSN g n
  | 0 => rfl
  | n + 1 => by
    show zSN _ n + (f n + g n) = (zSN f n + f n) + (zSN g n + g n)
    rw [zSN_add f g n]
    omega
theorem zSN_0 : ∀ n : Nat, zSN (fun _ => 0) n = 0
  | 0 => rfl
  | n + 1 => by
    show zSN _ n + 0 = 0
    rw [zSN_0 n]
theorem zSN_swap (f : Nat → Nat → Nat) (r : Nat) : ∀ c : Nat, zSN (fun y => zSN (fun b => f y b) c) r = zSN (fun b => zSN (fun y => f y b) r) c
  | 0 => zSN_0 r
  | c + 1 => by
    show zSN (fun y => zSN (fun b => f y b) c + f y c) r = zSN (fun b => zSN (fun y => f y b) r) c + zSN (fun y => f y c) r
    rw [zSN_add, zSN_swap f r c]
theorem zSN_ext {f : Nat → Nat} {w : Nat} (h : ∀ y, w ≤ y → f y = 0) : ∀ d : Nat, zSN f (w + d) = zSN f w
  | 0 => rfl
  | d + 1 => by
    show zSN f (w + d) + f (w + d) = zSN f w
    rw [h (w + d) (by omega), Nat.add_zero, zSN_ext h d]
theorem zSL_sum (P : Nat → Nat → Bool) (g : Nat → Nat → Nat) (w c : Nat) : zSN (fun b => zSN (fun y => if P b y then g b y else 0) w) c = (zSL P c w).foldl (fun n x => n + g x.1 x.2) 0 := by
  rw [← zSL_fold (P := P) (fun b y n => n + g b y), zSN_it]
  refine zIt_cg fun b _ q => ?_
  rw [← zIt_at]
  refine zIt_cg fun y _ q => ?_
  split
  · rfl
  · rfl
theorem zSN_list {β : Type} (l : List β) (d : β) (g : β → Nat) : zSN (fun k => g (l.getD k d)) l.length = l.foldl (fun n x => n + g x) 0 := by
  rw [zSN_it]
  exact zIt_list l d (fun x n => n + g x) 0
theorem zSm_nI (f : Nat → Nat) : ∀ n : Nat, zSm (fun k => nI (f k)) n = nI (zSN f n)
  | 0 => by show (0 : Int32) = nI 0; rw [nI_0]
  | n + 1 => by
    show zSm _ n + nI (f n) = nI (zSN f n + f n)
    rw [zSm_nI f n, nI_add]
/-- the arrays of a search that begins with none -/
def zAr (l : List (Nat × Nat)) (g : Nat × Nat → Nat) (B F T : Nat → Int32) : Prop := ∀ k x, l[k]? = some x → B k = nI x.1 ∧ F k = nI x.2 ∧ T k = nI (g x)
def zLE (wov : Nat → Int32) (c w : Nat) (x : Nat × Nat) : Nat := x.2 + zRl wov c w (nI x.1) x.2 - 1
theorem zSL_at {P : Nat → Nat → Bool} {c w k : Nat} (hk : k < (zSL P c w).length) : ∃ b y, (zSL P c w)[k]? = some (b, y) ∧ (zSL P c w).getD k (0, 0) = (b, y) ∧ b < c ∧ y < w ∧ P b y = true := by
  have e : (zSL P c w)[k]? = some (zSL P c w)[k] := List.getElem?_eq_getElem hk
  refine ⟨(zSL P c w)[k].1, (zSL P c w)[k].2, e, by rw [List.getD_eq_getElem?_getD, e]; rfl, ?_⟩
  exact zSL_mem.mp (List.getElem_mem hk)
/-- forgetting -/
theorem zFg_row {wov sew : Nat → Int32} {c w lim b : Nat} (hb : b < 20) (t : Nat → Int32) : ∀ n : Nat, n ≤ 16 → ∀ b1 y1, b1 < 20 → y1 < 16 → zIt (fun y s => if zAt s (nI b) (nI y) == 1 && decide (zRl wov c w (nI b) y ≤ lim) then zPutG s (nI b) (nI y) 0 else s) n t (20 * y1 + b1) = if b1 = b ∧ y1 < n ∧ t (20 * y1 + b) = 1 ∧ zRl wov c w (nI b) y1 ≤ lim then 0 else t (20 * y1 + b1)
  | 0, _, b1, y1, _, _ => by rw [if_neg (by omega)]; rfl
  | n + 1, hn, b1, y1, h1, h2 => by
    have ih := zFg_row (wov := wov) (sew := sew) (c := c) (w := w) (lim := lim) hb t n (by omega)
    show (if zAt (zIt _ n t) (nI b) (nI n) == 1 && decide (zRl wov c w (nI b) n ≤ lim) then zPutG (zIt _ n t) (nI b) (nI n) 0 else zIt _ n t) (20 * y1 + b1) = _
    have i1 := ih b n hb (by omega)
    rw [if_neg (by omega)] at i1
    rw [zAt_n hb (by omega), i1]
    have i2 := ih b1 y1 h1 h2
    by_cases q : b1 = b ∧ y1 = n
    · obtain ⟨rfl, rfl⟩ := q
      by_cases q2 : t (20 * y1 + b1) = 1 ∧ zRl wov c w (nI b1) y1 ≤ lim
      · rw [if_pos (by rw [q2.1, decide_eq_true q2.2]; rfl), zPutG_n hb (by omega), if_pos ⟨rfl, by omega, q2⟩]
        exact if_pos rfl
      · rw [if_neg (fun k => q2 (by rw [Bool.and_eq_true] at k; exact ⟨by simpa using k.1, of_decide_eq_true k.2⟩)), i1, if_neg (fun k => q2 k.2.2)]
    · have e : (if b1 = b ∧ y1 < n + 1 ∧ t (20 * y1 + b) = 1 ∧ zRl wov c w (nI b) y1 ≤ lim then (0 : Int32) else t (20 * y1 + b1)) = (if b1 = b ∧ y1 < n ∧ t (20 * y1 + b) = 1 ∧ zRl wov c w (nI b) y1 ≤ lim then 0 else t (20 * y1 + b1)) := by
        by_cases k : b1 = b ∧ y1 < n
        · simp only [k.1, k.2, show y1 < n + 1 from by omega, true_and]
        · rw [if_neg (fun z => k ⟨z.1, by omega⟩), if_neg (fun z => k ⟨z.1, z.2.1⟩)]
      rw [e, ← i2]
      split
      · rw [zPutG_n hb (by omega)]
        exact upd_ne (by omega)
      · rfl
theorem zFg_col {wov sew : Nat → Int32} {c w lim : Nat} : ∀ n : Nat, n ≤ 20 → ∀ b1 y1, b1 < 20 → y1 < 16 → zIt (fun b s => zIt (fun y s => if zAt s (nI b) (nI y) == 1 && decide (zRl wov c w (nI b) y ≤ lim) then zPutG s (nI b) (nI y) 0 else s) 16 s) n sew (20 * y1 + b1) = if b1 < n ∧ sew (20 * y1 + b1) = 1 ∧ zRl wov c w (nI b1) y1 ≤ lim then 0 else sew (20 * y1 + b1)
  | 0, _, b1, y1, _, _ => by rw [if_neg (by omega)]; rfl
  | n + 1, hn, b1, y1, h1, h2 => by
    show zIt (fun y s => if zAt s (nI n) (nI y) == 1 && decide (zRl wov c w (nI n) y ≤ lim) then zPutG s (nI n) (nI y) 0 else s) 16 (zIt _ n sew) (20 * y1 + b1) = _
    rw [zFg_row (sew := sew) (by omega : n < 20) _ 16 (Nat.le_refl _) b1 y1 h1 h2]
    have i1 := zFg_col (wov := wov) (sew := sew) (c := c) (w := w) (lim := lim) n (by omega) b1 y1 h1 h2
    have i2 := zFg_col (wov := wov) (sew := sew) (c := c) (w := w) (lim := lim) n (by omega) n y1 (by omega) h2
    rw [if_neg (by omega)] at i2
    rw [i1, i2]
    by_cases q : b1 = n
    · subst q
      simp only [h2, true_and, Nat.lt_irrefl, false_and, if_false, show b1 < b1 + 1 from by omega]
    · simp only [q, false_and, if_false, show (b1 < n + 1) = (b1 < n) from propext ⟨fun _ => by omega, fun _ => by omega⟩]
theorem zFg_at {wov sew : Nat → Int32} {c w lim b y : Nat} (hb : b < 20) (hy : y < 16) : zFg wov sew c w lim (20 * y + b) = if sew (20 * y + b) = 1 ∧ zRl wov c w (nI b) y ≤ lim then 0 else sew (20 * y + b) := by
  have := zFg_col (wov := wov) (sew := sew) (c := c) (w := w) (lim := lim) 20 (Nat.le_refl _) b y hb hy
  simp only [hb, true_and] at this
  exact this
/-! floats: the class's bits are the bits; sums, means, differences stay small -/
def zUu : Nat := 2 ^ 149
theorem zUu_pos : 0 < zUu := Nat.two_pow_pos _
theorem zmag_i2f {n : Nat} (h0 : 0 < n) (hn : n < 2 ^ 24) : FP.Core.zmag FP.Core.b32 (FP.Core.val32 (FP.i2f (nI n))) = n * zUu := by
  have hl : n.log2 < 24 := (Nat.log2_lt (by omega)).mpr hn
  rw [fx_i2fv h0 hn]
  show n * 2 ^ (23 - n.log2) * 2 ^ (-((23 - n.log2 : Nat) : Int) - -149).toNat = n * zUu
  unfold zUu
  rw [Nat.mul_assoc, ← Nat.pow_add]
  exact congrArg (fun j => n * 2 ^ j) (by omega)
def zB9 (N : Nat) (x : UInt32) : Prop := zPos x ∧ FP.Core.zmag FP.Core.b32 (FP.Core.val32 x) ≤ N * zUu
theorem zB9_fin {N : Nat} {x : UInt32} (hN : N < 2 ^ 24) (h : zB9 N x) : ∃ c q, FP.Core.val32 x = .fin false c q ∧ (-149 : Int) ≤ q ∧ FP.Core.inUnits c q (-149) ≤ N * zUu := by
  have hf := FP.Core.val32_fits x
  rcases fx_val h.1 with e | ⟨c, q, e⟩
  · have h2 := h.2
    rw [e] at h2
    have h3 : 2 ^ 23 * 2 ^ 254 ≤ N * 2 ^ 149 := h2
    have h4 : N * 2 ^ 149 < 2 ^ 24 * 2 ^ 149 := Nat.mul_lt_mul_of_pos_right hN (Nat.two_pow_pos _)
    rw [← Nat.pow_add] at h3 h4
    exact absurd (Nat.lt_of_le_of_lt h3 h4) (Nat.not_lt.mpr (Nat.pow_le_pow_right (by decide) (by decide)))
  · refine ⟨c, q, e, ?_, ?_⟩
    · rw [e] at hf
      exact hf.2.1
    · have h2 := h.2
      rw [e] at h2
      exact h2
theorem zUnits {c : Nat} {q m : Int} (h1 : (-149 : Int) ≤ m) (h2 : m ≤ q) : FP.Core.inUnits c q m * 2 ^ (m - -149).toNat = FP.Core.inUnits c q (-149) := by
  unfold FP.Core.inUnits
  rw [Nat.mul_assoc, ← Nat.pow_add]
  exact congrArg (fun j => c * 2 ^ j) (by omega)
theorem zRr_le {s : Bool} {A B : Nat} {e : Int} {N : Nat} (h0 : 0 < N) (hN : N < 2 ^ 24) (hB : 0 < B) (he : (-149 : Int) ≤ e) (h : FP.Core.inUnits A e (-149) ≤ N * zUu * B) : FP.Core.zmag FP.Core.b32 (FP.Core.roundRatio FP.Core.b32 s A B e) ≤ N * zUu := by
  have k := FP.Core.zmag_roundRatio_le FP.Core.good_b32 (s := s) (A := A) (B := B) (e := e) (e0 := -149) (V := FP.Core.val32 (FP.i2f (nI N))) hB (FP.Core.val32_fits _) (by rw [fx_i2fv h0 hN]; intro z; cases z) (Int.le_refl _) he (by
    rw [zmag_i2f h0 hN]
    show _ ≤ N * zUu * 2 ^ 0 * B
    rw [Nat.pow_zero, Nat.mul_one]
    exact h)
  rw [zmag_i2f h0 hN] at k
  exact k
theorem zB9_add {A B : Nat} {x y : UInt32} (hx : zB9 A x) (hy : zB9 B y) (h0 : 0 < A + B) (hN : A + B < 2 ^ 24) : zB9 (A + B) (FP.fadd x y) := by
  refine ⟨(fp_add hx.1 hy.1).2, ?_⟩
  obtain ⟨c, q, e1, k1, b1⟩ := zB9_fin (by omega) hx
  obtain ⟨d, r, e2, k2, b2⟩ := zB9_fin (by omega) hy
  rw [FP.Core.val32_fadd, e1, e2]
  have hm : (-149 : Int) ≤ min q r := by omega
  refine zRr_le (A := (FP.Core.sumUnits false c q false d r (min q r)).natAbs) (e := min q r) h0 hN (by decide) hm ?_
  have hs : (FP.Core.sumUnits false c q false d r (min q r)).natAbs = FP.Core.inUnits c q (min q r) + FP.Core.inUnits d r (min q r) := by
    show (((FP.Core.inUnits c q (min q r) : Nat) : Int) + ((FP.Core.inUnits d r (min q r) : Nat) : Int)).natAbs = _
    omega
  rw [hs]
  show (_ + _) * 2 ^ (min q r - -149).toNat ≤ _
  rw [Nat.add_mul, zUnits hm (by omega), zUnits hm (by omega), Nat.mul_one, Nat.add_mul]
  exact Nat.add_le_add b1 b2
theorem zmag_neg (d : FP.Core.Datum) : FP.Core.zmag FP.Core.b32 (FP.Core.negate d) = FP.Core.zmag FP.Core.b32 d := by
  cases d <;> rfl
theorem zB9_df {A : Nat} {x y : UInt32} (fx : zFinS x) (fy : zFinS y) (hx : zB9 A x) (hy : zB9 A y) (h0 : 0 < A) (hN : A < 2 ^ 24) : zB9 A (zDf x y) := by
  refine ⟨fp_df fx fy, ?_⟩
  have key : FP.Core.zmag FP.Core.b32 (FP.Core.val32 (FP.fsub x y)) ≤ A * zUu := by
    obtain ⟨c, q, e1, k1, b1⟩ := zB9_fin (by omega) hx
    obtain ⟨d, r, e2, k2, b2⟩ := zB9_fin (by omega) hy
    rw [FP.Core.val32_fsub, e1, e2]
    have hm : (-149 : Int) ≤ min q r := by omega
    refine zRr_le (A := (FP.Core.sumUnits false c q true d r (min q r)).natAbs) (e := min q r) h0 hN (by decide) hm ?_
    have hs : (FP.Core.sumUnits false c q true d r (min q r)).natAbs ≤ max (FP.Core.inUnits c q (min q r)) (FP.Core.inUnits d r (min q r)) := by
      show (((FP.Core.inUnits c q (min q r) : Nat) : Int) + -((FP.Core.inUnits d r (min q r) : Nat) : Int)).natAbs ≤ _
      omega
    rw [Nat.mul_one]
    refine Nat.le_trans (Nat.mul_le_mul_right _ hs) ?_
    rcases Nat.le_total (FP.Core.inUnits c q (min q r)) (FP.Core.inUnits d r (min q r)) with z | z
    · rw [Nat.max_eq_right z]
      rw [zUnits hm (by omega)]
      exact b2
    · rw [Nat.max_eq_left z]
      rw [zUnits hm (by omega)]
      exact b1
  unfold zDf
  split
  · rw [fy_fneg (fy_subN fx fy), FP.Core.val32_fneg, zmag_neg]
    exact key
  · exact key
theorem zB9_div {A n : Nat} {x : UInt32} (hx : zB9 A x) (h0 : 0 < A) (hN : A < 2 ^ 24) (n0 : 0 < n) (hn : n < 2 ^ 24) : zB9 A (FP.fdiv x (FP.i2f (nI n))) := by
  refine ⟨(fp_div hx.1 n0 hn).2, ?_⟩
  obtain ⟨c, q, e1, k1, b1⟩ := zB9_fin (by omega) hx
  rw [FP.Core.val32_fdiv, e1, fx_i2fv n0 hn]
  have hd : n * 2 ^ (23 - n.log2) ≠ 0 := Nat.ne_of_gt (Nat.mul_pos n0 (Nat.two_pow_pos _))
  show FP.Core.zmag _ (if n * 2 ^ (23 - n.log2) = 0 then _ else _) ≤ _
  rw [if_neg hd]
  refine zRr_le h0 hN (Nat.pos_of_ne_zero hd) (by omega) ?_
  have e : FP.Core.inUnits c (q - -((23 - n.log2 : Nat) : Int)) (-149) = FP.Core.inUnits c q (-149) * 2 ^ (23 - n.log2) := by
    unfold FP.Core.inUnits
    rw [Nat.mul_assoc, ← Nat.pow_add]
    exact congrArg (fun j => c * 2 ^ j) (by omega)
  rw [e, ← Nat.mul_assoc]
  refine Nat.mul_le_mul_right _ (Nat.le_trans b1 ?_)
  exact Nat.le_mul_of_pos_right _ n0
theorem zB9_mono {A B : Nat} {x : UInt32} (h : zB9 A x) (hAB : A ≤ B) : zB9 B x := ⟨h.1, Nat.le_trans h.2 (Nat.mul_le_mul_right _ hAB)⟩
theorem zB9_0 (A : Nat) : zB9 A FP.fconst0 := by
  refine ⟨zPos_0, ?_⟩
  rw [show FP.Core.zmag FP.Core.b32 (FP.Core.val32 FP.fconst0) = 0 from by decide +kernel]
  exact Nat.zero_le _
theorem zB9_bits {A : Nat} {x : UInt32} (hA : A < 2 ^ 24) (h : zB9 A x) : x.toNat < 1266679808 := by
  have hp : x.toNat ≤ 2139095040 := h.1
  rcases Nat.lt_or_ge x.toNat 1266679808 with q | q
  · exact q
  · have h2 := h.2
    rw [FP.Core.zmag_toNat32 (fy_pn h.1), show x.toNat % 2 ^ 31 = x.toNat by omega] at h2
    unfold FP.Core.unitsOf at h2
    rw [FP.Core.tails_b32, if_neg (by omega)] at h2
    have h3 : 2 ^ 23 * 2 ^ 150 ≤ (2 ^ 23 + x.toNat % 2 ^ 23) * 2 ^ (x.toNat / 2 ^ 23 - 1) := Nat.mul_le_mul (by omega) (Nat.pow_le_pow_right (by decide) (by omega))
    have h4 : A * 2 ^ 149 < 2 ^ 24 * 2 ^ 149 := Nat.mul_lt_mul_of_pos_right hA (Nat.two_pow_pos _)
    have h5 : (2 ^ 23 + x.toNat % 2 ^ 23) * 2 ^ (x.toNat / 2 ^ 23 - 1) ≤ A * 2 ^ 149 := h2
    rw [← Nat.pow_add] at h3 h4
    have h6 := Nat.lt_of_le_of_lt (Nat.le_trans h3 h5) h4
    exact absurd h6 (Nat.not_lt.mpr (Nat.pow_le_pow_right (by decide) (by decide)))
theorem zB9_shade {x : UInt32} (h : zFinS x) : zB9 100 x := by
  refine ⟨h.pos, ?_⟩
  have hp : x.toNat ≤ 1120403456 := h
  have k := FP.Core.fcmp_zval (a := x) (b := FP.i2f (nI 100)) (fy_finN h) (by rw [fx_i2fv (by decide) (by decide)]; intro z; cases z)
  have k2 := fy_key (x := x) (by omega) (y := FP.i2f (nI 100)) (by decide +kernel)
  rw [show FP.fcmp x (FP.i2f (nI 100)) = FP.Core.fcmp x (FP.i2f (nI 100)) from rfl, k, if_pos (by omega), show (FP.i2f (nI 100)).toNat = 1120403456 from by decide +kernel] at k2
  have k3 := Option.some.inj k2
  have k4 : FP.Core.zval FP.Core.b32 (FP.Core.val32 x) ≤ FP.Core.zval FP.Core.b32 (FP.Core.val32 (FP.i2f (nI 100))) := by
    rcases Nat.lt_or_ge x.toNat 1120403456 with q | q
    · rw [Int.compare_eq_lt.mpr (by omega : (x.toNat : Int) < (1120403456 : Nat))] at k3
      exact Int.le_of_lt (Int.compare_eq_lt.mp k3)
    · rw [Int.compare_eq_eq.mpr (by omega : (x.toNat : Int) = (1120403456 : Nat))] at k3
      exact Int.le_of_eq (Int.compare_eq_eq.mp k3)
  obtain ⟨c, q, e⟩ := fx_dec_fin (n := x.toNat) (Nat.lt_of_le_of_lt h (by decide))
  have e1 : FP.Core.val32 x = .fin false c q := e
  rw [← zmag_i2f (n := 100) (by decide) (by decide)]
  rw [e1, fx_i2fv (by decide) (by decide)] at k4
  rw [e1, fx_i2fv (by decide) (by decide)]
  have k5 : ((FP.Core.zmag FP.Core.b32 (.fin false c q) : Nat) : Int) ≤ ((FP.Core.zmag FP.Core.b32 (.fin false (100 * 2 ^ (23 - Nat.log2 100)) (-((23 - Nat.log2 100 : Nat) : Int))) : Nat) : Int) := k4
  exact Int.ofNat_le.mp k5
/-- the bits -/
theorem zLt0_t {x : UInt32} {m k : Nat} (hk : k ≤ 149) (hx : FP.Core.val32 x = .fin false (m * 2 ^ zHs m k) (-(k : Int) - (zHs m k : Int))) : zLt0 x 1258291200 = decide (m < 2 ^ 23 * 2 ^ k) := by
  unfold zLt0
  show decide (¬ 0 ≤ Op.cmpValue (FP.Core.order (FP.Core.val32 x) (FP.Core.val32 1258291200)) .g) = _
  rw [hx, show FP.Core.val32 1258291200 = .fin false 8388608 0 by decide +kernel]
  show decide (¬ 0 ≤ Op.cmpValue (some (compare ((FP.Core.inUnits (m * 2 ^ zHs m k) (-(k : Int) - (zHs m k : Int)) (min (-(k : Int) - (zHs m k : Int)) 0) : Nat) : Int) ((FP.Core.inUnits 8388608 0 (min (-(k : Int) - (zHs m k : Int)) 0) : Nat) : Int))) .g) = _
  have e0 : min (-(k : Int) - (zHs m k : Int)) 0 = -(k : Int) - (zHs m k : Int) := by omega
  have e1 : FP.Core.inUnits (m * 2 ^ zHs m k) (-(k : Int) - (zHs m k : Int)) (min (-(k : Int) - (zHs m k : Int)) 0) = m * 2 ^ zHs m k := by
    rw [e0]
    unfold FP.Core.inUnits
    rw [Int.sub_self]
    exact Nat.mul_one _
  have e2 : FP.Core.inUnits 8388608 0 (min (-(k : Int) - (zHs m k : Int)) 0) = 2 ^ 23 * 2 ^ k * 2 ^ zHs m k := by
    rw [e0]
    unfold FP.Core.inUnits
    rw [Nat.mul_assoc, ← Nat.pow_add]
    exact congrArg (fun j => 8388608 * 2 ^ j) (by omega)
  rw [e1, e2]
  by_cases q : m < 2 ^ 23 * 2 ^ k
  · have := Nat.mul_lt_mul_of_pos_right q (Nat.two_pow_pos (zHs m k))
    rw [Int.compare_eq_lt.mpr (by omega), decide_eq_true q]
    decide
  · have := Nat.mul_le_mul_right (2 ^ zHs m k) (Nat.not_lt.mp q)
    rw [decide_eq_false q]
    rcases Nat.lt_or_ge (2 ^ 23 * 2 ^ k * 2 ^ zHs m k) (m * 2 ^ zHs m k) with z | z
    · rw [Int.compare_eq_gt.mpr (by omega)]
      decide
    · rw [Int.compare_eq_eq.mpr (by omega)]
      decide
theorem zDb_step {x : UInt32} {m k : Nat} (h0 : 0 < m) (hm : m < 2 ^ 24) (hk : k + 1 ≤ 149) (h : FP.Core.val32 x = .fin false (m * 2 ^ zHs m (k + 1)) (-((k + 1 : Nat) : Int) - (zHs m (k + 1) : Int))) : FP.Core.val32 (FP.fmul x FP.fconst2) = .fin false (m * 2 ^ zHs m k) (-(k : Int) - (zHs m k : Int)) := by
  rw [FP.Core.val32_fmul, h, show FP.Core.val32 FP.fconst2 = .fin false 8388608 (-22) by decide +kernel]
  have hs : zHs m (k + 1) ≤ zHs m k := by unfold zHs; omega
  have hs2 : zHs m k ≤ zHs m (k + 1) + 1 := by unfold zHs; omega
  refine FP.Core.roundRatio_exact (A := m * 2 ^ zHs m (k + 1) * 8388608) (e := -((k + 1 : Nat) : Int) - (zHs m (k + 1) : Int) + -22) FP.Core.good_b32 (by decide) (zH_fits h0 hm (by omega)) ?_
  rw [show (-((k + 1 : Nat) : Int) - (zHs m (k + 1) : Int) + -22 - (-(k : Int) - (zHs m k : Int))).toNat = 0 by omega, show (-(k : Int) - (zHs m k : Int) - (-((k + 1 : Nat) : Int) - (zHs m (k + 1) : Int) + -22)).toNat = 23 - (zHs m k - zHs m (k + 1)) by omega, Nat.pow_zero, Nat.mul_one, Nat.mul_one, show 8388608 = 2 ^ 23 from rfl, Nat.mul_assoc, Nat.mul_assoc, ← Nat.pow_add, ← Nat.pow_add]
  exact congrArg (fun j => m * 2 ^ j) (by omega)
theorem zBl_k {m : Nat} (h0 : 0 < m) (hm : m < 2 ^ 24) : ∀ (k d : Nat) (x : UInt32), k ≤ 149 → k ≤ d → (2 ^ 23 ≤ m ∨ (m < 2 ^ 23 ∧ d = k)) → FP.Core.val32 x = .fin false (m * 2 ^ zHs m k) (-(k : Int) - (zHs m k : Int)) → zBl d x = (d - k + 1, FP.i2f (nI m))
  | 0, d, x, hk, hd, hc, hx => by
    have ex : x = FP.i2f (nI m) := FP.Core.val32_inj (by rw [hx]; intro z; cases z) (by rw [hx, zH_base h0 hm])
    cases d with
    | zero => show (1, x) = _; rw [ex]
    | succ d =>
      show (if zLt0 x 1258291200 then zBl d (FP.fmul x FP.fconst2) else (d + 2, x)) = _
      rw [zLt0_t hk hx, decide_eq_false (by rw [Nat.pow_zero, Nat.mul_one]; omega), if_neg (by decide), ex]
      rfl
  | k + 1, d, x, hk, hd, hc, hx => by
    obtain ⟨d, rfl⟩ : ∃ d', d = d' + 1 := ⟨d - 1, by omega⟩
    show (if zLt0 x 1258291200 then zBl d (FP.fmul x FP.fconst2) else (d + 2, x)) = _
    have hl : m < 2 ^ 23 * 2 ^ (k + 1) := by
      have : 1 ≤ 2 ^ k := Nat.one_le_two_pow
      rw [Nat.pow_succ]
      omega
    rw [zLt0_t hk hx, decide_eq_true hl, if_pos rfl, zBl_k h0 hm k d _ (by omega) (by omega) (by omega) (zDb_step h0 hm hk hx)]
    rw [show d + 1 - (k + 1) = d - k by omega]
theorem zShl {a : Nat} (h : a < 151) : nI a <<< (nI 23 &&& 31) = nI (a * 8388608) := (by decide +kernel : ∀ a : Fin 151, nI a.1 <<< (nI 23 &&& 31) = nI (a.1 * 8388608)) ⟨a, h⟩
theorem zTo32 {x : UInt32} (h : x.toNat < 2 ^ 31) : x.toInt32 = nI x.toNat := by
  have e : (nI x.toNat).toUInt32 = x := UInt32.toNat_inj.mp (fy_u h)
  rw [← e, fy_u h]
  rfl
theorem zBo_eq {x : UInt32} (hb : x.toNat < 1266679808) : zBo x = x.toInt32 := by
  rw [zTo32 (by omega)]
  unfold zBo
  by_cases h0 : x.toNat = 0
  · have e : x = FP.fconst0 := UInt32.toNat_inj.mp (by rw [h0]; rfl)
    subst e
    decide +kernel
  · have hg : zGt x FP.fconst0 = true := by
      unfold zGt
      rw [fy_key (x := x) (y := FP.fconst0) (by omega) (by decide), if_pos (by omega), Int.compare_eq_gt.mpr (by show ((FP.fconst0).toNat : Int) < _; rw [show (FP.fconst0).toNat = 0 from rfl]; omega)]
      decide
    rw [if_pos hg]
    have hv : ∀ m k : Nat, 0 < m → m < 2 ^ 24 → k ≤ 149 → zFbN x.toNat = zIt (fun _ x => FP.fmul x 1056964608) k (FP.i2f (nI m)) → FP.Core.val32 x = .fin false (m * 2 ^ zHs m k) (-(k : Int) - (zHs m k : Int)) := by
      intro m k m0 m1 hk e
      have e2 := zFbN_eq (b := x.toNat) (by omega) hb
      rw [show UInt32.ofNat x.toNat = x from UInt32.toNat_inj.mp (UInt32.toNat_ofNat_of_lt' (by show x.toNat < 4294967296; omega))] at e2
      rw [← e2, e]
      exact zH_all m0 m1 k hk
    by_cases he : x.toNat / 2 ^ 23 = 0
    · have hq := hv x.toNat 149 (by omega) (by omega) (by omega) (by
        unfold zFbN
        rw [if_pos he, he, show x.toNat % 2 ^ 23 = x.toNat by omega]
        rfl)
      rw [zBl_k (by omega) (by omega) 149 149 x (by omega) (by omega) (Or.inr ⟨by omega, rfl⟩) hq]
      show (nI (149 - 149 + 1) - 1) <<< (nI 23 &&& 31) + FP.f2i (FP.i2f (nI x.toNat)) = _
      rw [show FP.f2i (FP.i2f (nI x.toNat)) = nI x.toNat from FP.Core.f2i_i2f (by rw [nI_toInt (by omega)]; omega), nI_pred, zShl (by decide), nI_add]
      exact congrArg nI (by omega)
    · have hor : x.toNat % 2 ^ 23 ||| 8388608 = 2 ^ 23 + x.toNat % 2 ^ 23 := by
        have := Nat.two_pow_add_eq_or_of_lt (Nat.mod_lt x.toNat (Nat.two_pow_pos 23)) 1
        rw [Nat.mul_one] at this
        rw [this, Nat.or_comm]
      have hml := Nat.mod_lt x.toNat (Nat.two_pow_pos 23)
      have hE : x.toNat / 2 ^ 23 ≤ 150 := by omega
      have hq := hv (2 ^ 23 + x.toNat % 2 ^ 23) (150 - x.toNat / 2 ^ 23) (by omega) (by omega) (by omega) (by
        unfold zFbN
        rw [if_neg he, hor, show max (x.toNat / 2 ^ 23) 1 = x.toNat / 2 ^ 23 by omega])
      rw [zBl_k (by omega) (by omega) (150 - x.toNat / 2 ^ 23) 149 x (by omega) (by omega) (Or.inl (by omega)) hq]
      show (nI (149 - (150 - x.toNat / 2 ^ 23) + 1) - 1) <<< (nI 23 &&& 31) + FP.f2i (FP.i2f (nI (2 ^ 23 + x.toNat % 2 ^ 23))) = _
      rw [show FP.f2i (FP.i2f (nI (2 ^ 23 + x.toNat % 2 ^ 23))) = nI (2 ^ 23 + x.toNat % 2 ^ 23) from FP.Core.f2i_i2f (by rw [nI_toInt (by omega)]; omega), nI_pred, zShl (by omega), nI_add]
      exact congrArg nI (by omega)
theorem zB9_bo {A : Nat} {x : UInt32} (hA : A < 2 ^ 24) (h : zB9 A x) : zBo x = x.toInt32 := zBo_eq (zB9_bits hA h)
theorem zGt_m1r {s : UInt32} (hs : zPos s) : zGt s 3212836864 = true := by
  refine decide_eq_true ?_
  show 0 < Op.cmpValue (FP.Core.order (FP.Core.val32 s) (FP.Core.val32 3212836864)) .l
  rw [show FP.Core.val32 3212836864 = .fin true 8388608 (-23) by decide +kernel]
  rcases fx_val hs with h | ⟨c', q', h⟩ <;> rw [h]
  · decide
  · show 0 < Op.cmpValue (some (compare ((FP.Core.inUnits c' q' (min q' (-23)) : Nat) : Int) (-((FP.Core.inUnits 8388608 (-23) (min q' (-23)) : Nat) : Int)))) .l
    have h0 : 0 < FP.Core.inUnits 8388608 (-23) (min q' (-23)) := Nat.mul_pos (by decide) (Nat.two_pow_pos _)
    rw [show compare ((FP.Core.inUnits c' q' (min q' (-23)) : Nat) : Int) (-((FP.Core.inUnits 8388608 (-23) (min q' (-23)) : Nat) : Int)) = .gt from Int.compare_eq_gt.mpr (by omega)]
    decide
theorem zGt_mm : zGt 3212836864 3212836864 = false := by decide +kernel

def zMM (mis s : Nat → Int32) (c : Nat) : Prop := ∀ b, b < 20 → mis b = s (71 + b) ∧ (s (71 + b) = -1 ∨ (b < c ∧ ∃ v, v < 8 ∧ s (71 + b) = nI v))
theorem nI_sub1 {a x : Nat} (h : x < a) : nI a - 1 - nI x = nI (a - 1 - x) := by rw [← nI_one, pk_sub (by omega), pk_sub (by omega)]
theorem zSN_split (f : Nat → Nat) (w : Nat) : ∀ d : Nat, zSN f (w + d) = zSN f w + zSN (fun j => f (w + j)) d
  | 0 => rfl
  | d + 1 => by
    show zSN f (w + d) + f (w + d) = zSN f w + (zSN _ d + f (w + d))
    rw [zSN_split f w d, Nat.add_assoc]
/-- rows that are possible -/
theorem zPr_s (f : Nat → Nat) (m : Nat) : ∀ k : Nat, zPr (fun v => f v + 1) k (m + 1) = zPr f k m + 1
  | 0 => rfl
  | k + 1 => by
    show min (zPr (fun v => f v + 1) k (m + 1)) (f k + 1) = min (zPr f k m) (f k) + 1
    rw [zPr_s f m k]
    omega
theorem zPr_cg {f g : Nat → Nat} {m : Nat} : ∀ {k : Nat}, (∀ v, v < k → f v = g v) → zPr f k m = zPr g k m
  | 0, _ => rfl
  | k + 1, h => by
    show min (zPr f k m) (f k) = min (zPr g k m) (g k)
    rw [zPr_cg (k := k) fun v hv => h v (by omega), h k (by omega)]
theorem zPr_0 {f : Nat → Nat} {m v : Nat} (hv : f v = 0) : ∀ {k : Nat}, v < k → zPr f k m = 0
  | 0, h => absurd h (by omega)
  | k + 1, h => by
    show min (zPr f k m) (f k) = 0
    by_cases q : v = k
    · rw [← q, hv]; omega
    · rw [zPr_0 hv (by omega : v < k)]; omega
theorem zPr_m0 (f : Nat → Nat) : ∀ k : Nat, zPr f k 0 = 0
  | 0 => rfl
  | k + 1 => by
    show min (zPr f k 0) (f k) = 0
    rw [zPr_m0 f k]; omega
/-- mistakes -/
theorem q_ot {mis s : Nat → Int32} {c : Nat} (hM : zMM mis s c) (hc : c ≤ 20) : zOth 20 mis (-1) = zCt (fun b => !decide (s (71 + b) < 0)) c := by
  unfold zOth
  rw [zCt_SN, zCt_SN]
  obtain ⟨d, hd⟩ : ∃ d, 20 = c + d := ⟨20 - c, by omega⟩
  have e3 : zSN (fun y => if (!(mis y == -1)) then 1 else 0) 20 = zSN (fun y => if y < 20 then (if (!(mis y == -1)) then 1 else 0) else 0) (c + d) := by
    rw [← hd]
    exact zSN_cg fun y hy => (if_pos hy).symm
  rw [e3, zSN_ext (fun y hy => by
    by_cases q : y < 20
    · obtain ⟨m1, m2⟩ := hM y q
      rw [if_pos q, m1]
      rcases m2 with k | k
      · rw [k]; rfl
      · exact absurd k.1 (by omega)
    · rw [if_neg q]) d]
  refine zSN_cg fun y hy => ?_
  obtain ⟨m1, m2⟩ := hM y (by omega)
  rw [if_pos (by omega), m1]
  rcases m2 with k | ⟨-, v, hv, k⟩
  · rw [k]; rfl
  · rw [k, beq_eq_false_iff_ne.mpr (nI_m1' (by omega)), decide_eq_false (nI_pos (by omega))]

/-- one seam, on both sides -/
theorem q_seam {s : Nat → Int32} {is : Bool} {ap x : UInt32} {n : Nat} {seen : Bool} {t tol : UInt32} (hx : zB9 100 x) (ha : is = true → zB9 100 ap) (ht : (seen = false ∧ t = 3212836864) ∨ (seen = true ∧ t = tol ∧ zPos tol)) : (if is then (n + (if !seen || zGt ap tol then 1 else 0), if zGt ap x then ap else x) else (n, x)) = (n + (if zGt (if is then ap else 3212836864) t then 1 else 0), if zGt (if is then ap else 3212836864) x then (if is then ap else 3212836864) else x) ∧ zB9 100 (if zGt (if is then ap else 3212836864) x then (if is then ap else 3212836864) else x) := by
  cases is with
  | false =>
    have ef : (if false = true then ap else (3212836864 : UInt32)) = 3212836864 := if_neg (by decide)
    rw [ef, if_neg (show ¬ (false = true) by decide), zGt_m1 hx.1]
    rcases ht with ⟨-, rfl⟩ | ⟨-, rfl, hp⟩
    · rw [zGt_mm]; exact ⟨rfl, hx⟩
    · rw [zGt_m1 hp]; exact ⟨rfl, hx⟩
  | true =>
    rw [if_pos rfl, if_pos rfl]
    have hA := ha rfl
    refine ⟨?_, ?_⟩
    · rcases ht with ⟨rfl, rfl⟩ | ⟨rfl, rfl, hp⟩
      · rw [zGt_m1r hA.1]; rfl
      · rfl
    · split
      · exact hA
      · exact hx
def zWgS (wov lot : Nat → Int32) (shd : Nat → UInt32) (c w y b : Nat) (s : UInt32) : UInt32 := if zGt (zG2 wov lot shd c w b y) (if zGt (zG1 wov lot shd c w b y) s then zG1 wov lot shd c w b y else s) then zG2 wov lot shd c w b y else (if zGt (zG1 wov lot shd c w b y) s then zG1 wov lot shd c w b y else s)
/-! what changes keeps the two sides equal -/
theorem upd_eq {f : Nat → Int32} {k : Nat} {x : Int32} : upd f k x k = x := if_pos rfl
theorem zMM.cg {mis s s' : Nat → Int32} {c : Nat} (h : zMM mis s c) (hs : ∀ b, b < 20 → s' (71 + b) = s (71 + b)) : zMM mis s' c := fun b hb => by rw [hs b hb]; exact h b hb
/-! unweaving and sewing -/
theorem zSN_first (g : Nat → Nat) (m : Nat) : zSN g (m + 1) = g 0 + zSN (fun i => g (i + 1)) m := by
  rw [Nat.add_comm m 1, zSN_split g 1 m]
  show 0 + g 0 + _ = _
  rw [Nat.zero_add]
  exact congrArg _ (zSN_cg fun j _ => by rw [Nat.add_comm])
theorem zSN_rev (f : Nat → Nat) (w : Nat) : ∀ m : Nat, m ≤ w → zSN (fun i => f (w - (i + 1))) m = zSN (fun i => f (w - m + i)) m
  | 0, _ => rfl
  | m + 1, h => by
    rw [zSN_first (fun i => f (w - (m + 1) + i)) m]
    show zSN (fun i => f (w - (i + 1))) m + f (w - (m + 1)) = f (w - (m + 1) + 0) + _
    rw [zSN_rev f w m (by omega), Nat.add_comm, Nat.add_zero]
    exact congrArg _ (zSN_cg fun i _ => congrArg f (by omega))
theorem k_noplace {wov : Nat → Int32} {c w lim k : Nat} (hc : c ≤ 20) (hw : w ≤ 16) (hk2 : k < 2 ^ 31) (hk : (zSL (zSlP wov c w lim) c w).length ≤ k) : zSp wov c w lim (nI k) = -1 := by
  rw [zSp_k hc hw hk2, List.getElem?_eq_none hk]
/-! weaving -/
def zWs8 (col lef s : Nat → Int32) (n : Nat → Nat) : Prop := ∀ k, k < 16 → col k = s (7 + 4 * k) ∧ lef k = nI (n k) ∧ s (7 + 4 * k + 2) = nI (n k) ∧ n k ≤ 999
def zYl (n : Nat → Nat) (col : Nat → Int32) (v : Int32) (cnt : Nat) : Nat := zSN (fun k => if col k = v then n k else 0) cnt
theorem zYl_pos {n : Nat → Nat} {col : Nat → Int32} {v : Int32} : ∀ {cnt : Nat}, 0 < zYl n col v cnt → ∃ k, k < cnt ∧ col k = v ∧ 0 < n k
  | 0, h => absurd h (by show ¬ 0 < 0; omega)
  | cnt + 1, h => by
    have h2 : 0 < zYl n col v cnt + (if col cnt = v then n cnt else 0) := h
    by_cases q : col cnt = v ∧ 0 < n cnt
    · exact ⟨cnt, by omega, q.1, q.2⟩
    · have e : (if col cnt = v then n cnt else 0) = 0 := by
        by_cases z : col cnt = v
        · rw [if_pos z]
          exact Nat.eq_zero_of_not_pos fun k => q ⟨z, k⟩
        · rw [if_neg z]
      rw [e, Nat.add_zero] at h2
      obtain ⟨k, k1, k2⟩ := zYl_pos h2
      exact ⟨k, by omega, k2⟩
theorem zYl_dec {n n' : Nat → Nat} {col : Nat → Int32} {v v' : Int32} {k : Nat} (hk : col k = v) (h1 : n' k + 1 = n k) (h2 : ∀ j, ¬ j = k → n' j = n j) : ∀ cnt : Nat, zYl n' col v' cnt + (if k < cnt ∧ v' = v then 1 else 0) = zYl n col v' cnt
  | 0 => by rw [if_neg (by omega)]; rfl
  | cnt + 1 => by
    have ih := zYl_dec (v' := v') hk h1 h2 cnt
    show zYl n' col v' cnt + (if col cnt = v' then n' cnt else 0) + _ = zYl n col v' cnt + (if col cnt = v' then n cnt else 0)
    by_cases q : cnt = k
    · subst q
      rw [if_neg (by omega : ¬ (cnt < cnt ∧ v' = v))] at ih
      by_cases z : v' = v
      · subst z
        rw [if_pos hk, if_pos hk, if_pos (⟨Nat.lt_succ_self _, rfl⟩ : cnt < cnt + 1 ∧ v' = v')]
        omega
      · have c1 : ¬ col cnt = v' := fun y => z (by rw [← y, hk])
        rw [if_neg c1, if_neg c1, if_neg (show ¬ (cnt < cnt + 1 ∧ v' = v) from fun y => z y.2)]
        omega
    · rw [h2 cnt q]
      by_cases z : k < cnt ∧ v' = v
      · rw [if_pos z] at ih
        rw [if_pos (show k < cnt + 1 ∧ v' = v from ⟨by omega, z.2⟩)]
        omega
      · rw [if_neg z] at ih
        rw [if_neg (show ¬ (k < cnt + 1 ∧ v' = v) from fun y => z ⟨by omega, y.2⟩)]
        omega
theorem zWs8.off {col lef s : Nat → Int32} {n : Nat → Nat} (h : zWs8 col lef s n) {j : Nat} {x : Int32} (hj : 71 ≤ j) : zWs8 col lef (upd s j x) n := fun k hk => by
  rw [upd_ne (by omega), upd_ne (by omega)]
  exact h k hk
/-! weaving, whole -/
theorem zLy_at {cart mis : Nat → Int32} {w : Nat} (hw : w < 16) (wov : Nat → Int32) : ∀ k : Nat, k ≤ 20 → ∀ j, zIt (fun b f => zPutG f (nI b) (nI w) (if zAtN 20 mis (nI b) = -1 then zAt cart (nI b) (nI w) else zAtN 20 mis (nI b))) k wov j = if 20 * w ≤ j ∧ j < 20 * w + k then (if zAtN 20 mis (nI (j - 20 * w)) = -1 then zAt cart (nI (j - 20 * w)) (nI w) else zAtN 20 mis (nI (j - 20 * w))) else wov j
  | 0, _, j => by rw [if_neg (by omega)]; rfl
  | k + 1, hk, j => by
    show zPutG (zIt _ k wov) (nI k) (nI w) _ j = _
    rw [zPutG_n (by omega) hw]
    by_cases q : j = 20 * w + k
    · subst q
      rw [upd_eq, if_pos (show 20 * w ≤ 20 * w + k ∧ 20 * w + k < 20 * w + (k + 1) by omega), show 20 * w + k - 20 * w = k by omega]
    · rw [upd_ne q, zLy_at hw wov k (by omega) j]
      by_cases z : 20 * w ≤ j ∧ j < 20 * w + k
      · rw [if_pos z, if_pos (show 20 * w ≤ j ∧ j < 20 * w + (k + 1) by omega)]
      · rw [if_neg z, if_neg (show ¬ (20 * w ≤ j ∧ j < 20 * w + (k + 1)) by omega)]
theorem zAF_cg {p q : Nat → Bool} : ∀ (d a : Nat), (∀ v, a ≤ v → v < a + d → p v = q v) → zAF p a d = zAF q a d
  | 0, _, _ => rfl
  | d + 1, a, h => by
    show (if p a then zAF p (a + 1) d else false) = (if q a then zAF q (a + 1) d else false)
    rw [h a (by omega) (by omega), zAF_cg d (a + 1) fun v h1 h2 => h v (by omega) (by omega)]
theorem zAF_t {p : Nat → Bool} : ∀ (d a : Nat), zAF p a d = true → ∀ v, a ≤ v → v < a + d → p v = true
  | 0, _, _, v, h1, h2 => absurd h1 (by omega)
  | d + 1, a, h, v, h1, h2 => by
    have h' : (if p a then zAF p (a + 1) d else false) = true := h
    by_cases q : p a = true
    · rw [if_pos q] at h'
      by_cases z : v = a
      · rw [z]; exact q
      · exact zAF_t d (a + 1) h' v (by omega) (by omega)
    · rw [if_neg q] at h'
      exact absurd h' (by decide)
theorem zLn_mono {P P' : Nat → Bool} : ∀ (d a : Nat), (∀ y, a ≤ y → y < a + d → P' y = P y) → zLn P a d ≤ zLn P' a (d + 1)
  | 0, _, _ => Nat.zero_le _
  | d + 1, a, h => by
    have ih := zLn_mono d (a + 1) fun y h1 h2 => h y (by omega) (by omega)
    show (if P a then zLn P (a + 1) d + 1 else 0) ≤ (if P' a then zLn P' (a + 1) (d + 1) + 1 else 0)
    rw [h a (by omega) (by omega)]
    split
    · omega
    · omega
theorem zYl_le {n : Nat → Nat} {col : Nat → Int32} {v : Int32} {cnt : Nat} (h : ∀ k, k < cnt → n k ≤ 999) : zYl n col v cnt ≤ cnt * 999 := by
  have e : zYl n col v cnt = zSN (fun k => if k < cnt then (if col k = v then n k else 0) else 0) cnt := zSN_cg fun k hk => (if_pos hk).symm
  rw [e]
  refine zSN_le (fun k => ?_) cnt
  split
  · split
    · exact h k (by assumption)
    · omega
  · omega
def zFin4 (S : zS) : Prop := ∀ j, zFinS (S.2.2.2.2.2.2.2.2.2.2.2.2.2.2.2 j)
theorem zCp_fin {S S1 : zS} (h : zFin4 S) (h1 : zFin4 S1) : zFin4 (zCp S S1) := fun j => by
  show zFinS (if j < 16 then S.2.2.2.2.2.2.2.2.2.2.2.2.2.2.2 j else S1.2.2.2.2.2.2.2.2.2.2.2.2.2.2.2 j)
  split
  · exact h j
  · exact h1 j
