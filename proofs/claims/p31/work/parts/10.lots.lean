/-- a sum of numbers -/
def zSN (f : Nat → Nat) : Nat → Nat
  | 0 => 0
  | n + 1 => zSN f n + f n
theorem zSN_s (f : Nat → Nat) (n : Nat) : nI (zSN f n) + nI (f n) = nI (zSN f (n + 1)) := by rw [nI_add]; rfl
theorem zSm_t (f : Nat → Int32) (n : Nat) {x : Int32} (h : f n = x) : zSm f n + x = zSm f (n + 1) := by rw [← h]; rfl
theorem zCt_t2 {p : Nat → Bool} {n : Nat} (A : Nat) (h : p n = true) : nI (A + zCt p n) + 1 = nI (A + zCt p (n + 1)) := by rw [nI_1]; simp [zCt, h, Nat.add_assoc]
theorem zCt_f2 {p : Nat → Bool} {n : Nat} (A : Nat) (h : p n = false) : nI (A + zCt p n) + 0 = nI (A + zCt p (n + 1)) := by
  rw [show (0 : Int32) = nI 0 from nI_0.symm, nI_add]; simp [zCt, h]
theorem zCt_le (p : Nat → Bool) : ∀ n : Nat, zCt p n ≤ n
  | 0 => Nat.le_refl 0
  | n + 1 => by have := zCt_le p n; unfold zCt; split <;> omega
theorem zAtN_in {n : Nat} {f : Nat → Int32} {k : Nat} (hk : k < n) (hn : n < 2 ^ 31) : zAtN n f (nI k) = f k := by
  unfold zAtN
  rw [if_neg (nI_pos (by omega)), if_neg (nI_ge hk hn), nI_clamp (by omega)]
/-- a ≤ v ≤ b -/
def zFr (a v b : Int32) : Bool := !(decide (v < a)) && !(decide (b < v))
/-- 0 ≤ v < n -/
def zIn (v n : Int32) : Bool := !(decide (v < 0)) && !(decide (n ≤ v))

set_option maxHeartbeats 4000000 in
set_option maxRecDepth 100000 in
theorem c_gCopy {G : zT} {h h1 : zH} {g v g2 v2 : Nat} {f f2 : Nat → Int32} (hlen : h.length < 1000) (hg : h[g]? = some (.inr (2, [.ref v]))) (hv : h[v]? = some (.inl (0, 320, .inl f))) (hg2 : h[g2]? = some (.inr (2, [.ref v2]))) (hv2 : h[v2]? = some (.inl (0, 320, .inl f2))) (hne : v ≠ v2) (he : h.set v (.inl (0, 320, .inl (zFl f2 f 320))) = h1) : zRun G mX2_copyFrom 0 0 [.ref g, .ref g2] h (.inr none) h1 := by
  refine zRun_of (by decide +kernel) rfl rfl (Nat.le_of_ble_eq_true rfl) ?_
  suffices hs : ∀ (o9 : zO) (h9 : zH), (Sum.inr none : zO) = o9 → h1 = h9 → zPW G mX2_copyFrom 0 0 o9 h9 0 0 0 [(0, .ref g), (1, .ref g2)] [] h from hs _ _ rfl rfl
  intro o9 h9 ho9 hh9
  refine z_iconst (v := 0) dX2_copyFrom_0 (by decide) ?_
  refine z_istore_n (lv' := [(2, .int 0), (0, .ref g), (1, .ref g2)]) dX2_copyFrom_1 rfl (by decide) rfl ?_
  have L2_1 : ∀ (d k : Nat), k ≤ 320 → 320 + 1 ≤ k + d → zPW G mX2_copyFrom 0 0 o9 h9 0 0 2 [(2, .int (nI k)), (0, .ref g), (1, .ref g2)] [] (h.set v (.inl (0, 320, .inl (zFl f2 f k)))) := by
    intro d
    induction d with
    | zero => intro k hk hd; exact absurd hd (by omega)
    | succ d ih =>
      intro k hk_k hd_k
      have ih2 := ih
      clear ih
      refine z_iload_n 0 dX2_copyFrom_2 rfl rfl ?_
      refine z_aload_n 1 dX2_copyFrom_3 rfl rfl ?_
      refine z_get (v := .ref v) 0 (zs_g hv hg _) rfl inX2 (by decide) zw_74 rfl rfl dX2_copyFrom_4 ?_
      refine z_alen (v := nI 320) (zs_v hv _) (by decide) rfl dX2_copyFrom_7 ?_
      refine z_icmp_ge (tgt := 38) dX2_copyFrom_8 (by decide) (fun c_8 => ?_) (fun c_8 => ?_)
      · skip
        have hx_k := zge (by omega) hk_k c_8
        exact z_vret rfl dX2_copyFrom_38 ho9.symm (zo_h hh9 (by rw [← he, hx_k])) (Nat.zero_le _) (Nat.zero_le _)
      · skip
        have hx_k := zlt' (by omega) hk_k c_8
        refine z_iload_n 0 dX2_copyFrom_11 rfl rfl ?_
        refine z_aload_n 2 dX2_copyFrom_12 rfl rfl ?_
        refine z_get (v := .ref v2) 0 (zs_g hv hg2 _) rfl inX2 (by decide) zw_74 rfl rfl dX2_copyFrom_13 ?_
        refine z_alen (v := nI 320) (zs_n hv2 hne _) (by decide) rfl dX2_copyFrom_16 ?_
        refine z_icmp_ge (tgt := 38) dX2_copyFrom_17 (by decide) (fun c_17 => ?_) (fun c_17 => ?_)
        · exact absurd c_17 (nI_ge hx_k (by omega))
        · skip
          have hx_k := zlt' (by omega) hk_k c_17
          refine z_aload_n 1 dX2_copyFrom_20 rfl rfl ?_
          refine z_get (v := .ref v) 0 (zs_g hv hg _) rfl inX2 (by decide) zw_74 rfl rfl dX2_copyFrom_21 ?_
          refine z_iload_n 0 dX2_copyFrom_24 rfl rfl ?_
          refine z_aload_n 2 dX2_copyFrom_25 rfl rfl ?_
          refine z_get (v := .ref v2) 0 (zs_g hv hg2 _) rfl inX2 (by decide) zw_74 rfl rfl dX2_copyFrom_26 ?_
          refine z_iload_n 0 dX2_copyFrom_29 rfl rfl ?_
          refine z_iald (f := f2) (n := 320) (zs_n hv2 hne _) (by exact vp_in_nI hx_k (by omega)) dX2_copyFrom_30 ?_
          refine z_iast (f := zFl f2 f k) (n := 320) (zs_v hv _) (by exact vp_in_nI hx_k (by omega)) dX2_copyFrom_31 ?_
          refine z_eqh (h2 := (h.set v (.inl (0, 320, .inl (zFl f2 f (k + 1)))))) (by rw [List.set_set, zFl_s _ _ (by omega) (by rw [nI_clamp (by omega)])]) ?_
          refine z_iinc (v := nI (k + 1)) (lv' := [(2, .int (nI (k + 1))), (0, .ref g), (1, .ref g2)]) 0 dX2_copyFrom_32 rfl (nI_1 k) (by decide) rfl ?_
          refine z_goto (tgt := 2) dX2_copyFrom_35 (by decide) ?_
          refine z_sub [0, 1, 2] (lv' := [(2, .int (nI (k + 1))), (0, .ref g), (1, .ref g2)]) rfl ?_
          refine z_eqs (lv2 := [(2, .int (nI (k + 1))), (0, .ref g), (1, .ref g2)]) (h2 := (h.set v (.inl (0, 320, .inl (zFl f2 f (k + 1)))))) (by rfl) (by rfl) ?_
          exact ih2 (k + 1) (by omega) (by omega)
  refine z_sub [0, 1, 2] (lv' := [(2, .int 0), (0, .ref g), (1, .ref g2)]) rfl ?_
  refine z_eqs (lv2 := [(2, .int (nI 0)), (0, .ref g), (1, .ref g2)]) (h2 := (h.set v (.inl (0, 320, .inl (zFl f2 f 0))))) (by rfl) (by rw [zFl_0]; exact (zset_self hv).symm) ?_
  exact L2_1 (320 + 1) 0 (Nat.zero_le _) (by omega)

set_option maxHeartbeats 4000000 in
set_option maxRecDepth 100000 in
theorem c_nCopy {G : zT} {h h1 : zH} {g v g2 v2 n : Nat} {f f2 : Nat → Int32} (hn : n < 1000) (hlen : h.length < 1000) (hg : h[g]? = some (.inr (6, [.ref v]))) (hv : h[v]? = some (.inl (0, n, .inl f))) (hg2 : h[g2]? = some (.inr (6, [.ref v2]))) (hv2 : h[v2]? = some (.inl (0, n, .inl f2))) (hne : v ≠ v2) (he : h.set v (.inl (0, n, .inl (zFl f2 f n))) = h1) : zRun G mX6_copyFrom 0 0 [.ref g, .ref g2] h (.inr none) h1 := by
  refine zRun_of (by decide +kernel) rfl rfl (Nat.le_of_ble_eq_true rfl) ?_
  suffices hs : ∀ (o9 : zO) (h9 : zH), (Sum.inr none : zO) = o9 → h1 = h9 → zPW G mX6_copyFrom 0 0 o9 h9 0 0 0 [(0, .ref g), (1, .ref g2)] [] h from hs _ _ rfl rfl
  intro o9 h9 ho9 hh9
  refine z_iconst (v := 0) dX6_copyFrom_0 (by decide) ?_
  refine z_istore_n (lv' := [(2, .int 0), (0, .ref g), (1, .ref g2)]) dX6_copyFrom_1 rfl (by decide) rfl ?_
  have L2_1 : ∀ (d k : Nat), k ≤ n → n + 1 ≤ k + d → zPW G mX6_copyFrom 0 0 o9 h9 0 0 2 [(2, .int (nI k)), (0, .ref g), (1, .ref g2)] [] (h.set v (.inl (0, n, .inl (zFl f2 f k)))) := by
    intro d
    induction d with
    | zero => intro k hk hd; exact absurd hd (by omega)
    | succ d ih =>
      intro k hk_k hd_k
      have ih2 := ih
      clear ih
      refine z_iload_n 0 dX6_copyFrom_2 rfl rfl ?_
      refine z_aload_n 1 dX6_copyFrom_3 rfl rfl ?_
      refine z_get (v := .ref v) 0 (zs_g hv hg _) rfl inX6 (by decide) zw_88 rfl rfl dX6_copyFrom_4 ?_
      refine z_alen (v := nI n) (zs_v hv _) (by decide) rfl dX6_copyFrom_7 ?_
      refine z_icmp_ge (tgt := 28) dX6_copyFrom_8 (by decide) (fun c_8 => ?_) (fun c_8 => ?_)
      · skip
        have hx_k := zge (by omega) hk_k c_8
        exact z_vret rfl dX6_copyFrom_28 ho9.symm (zo_h hh9 (by rw [← he, hx_k])) (Nat.zero_le _) (Nat.zero_le _)
      · skip
        have hx_k := zlt' (by omega) hk_k c_8
        refine z_aload_n 1 dX6_copyFrom_11 rfl rfl ?_
        refine z_get (v := .ref v) 0 (zs_g hv hg _) rfl inX6 (by decide) zw_88 rfl rfl dX6_copyFrom_12 ?_
        refine z_iload_n 0 dX6_copyFrom_15 rfl rfl ?_
        refine z_aload_n 2 dX6_copyFrom_16 rfl rfl ?_
        refine z_iload_n 0 dX6_copyFrom_17 rfl rfl ?_
        refine z_callV (N := mX6_at) 1 [.int (nI k)] [.int (nI k), .ref v] lX6_at ⟨zw_618, zw_416, zw_417⟩ rfl (zs_g hv hg2 _) rfl rfl (Nat.le_of_ble_eq_true rfl) (by decide) ⟨(zs_len hlen), (zs_len hlen)⟩ ⟨Nat.zero_le _, Nat.zero_le _⟩ (fun _ => rfl) (c_nAt (g := g2) (v := v2) (n := n) (f := f2) (by omega) (zs_len hlen) (zs_g hv hg2 _) (zs_n hv2 hne _) (nI k)) dX6_copyFrom_18 ?_
        refine z_iast (f := zFl f2 f k) (n := n) (zs_v hv _) (by exact vp_in_nI hx_k (by omega)) dX6_copyFrom_21 ?_
        refine z_eqh (h2 := (h.set v (.inl (0, n, .inl (zFl f2 f (k + 1)))))) (by rw [List.set_set, zFl_s _ _ (by omega) (zAtN_in hx_k (by omega)).symm]) ?_
        refine z_iinc (v := nI (k + 1)) (lv' := [(2, .int (nI (k + 1))), (0, .ref g), (1, .ref g2)]) 0 dX6_copyFrom_22 rfl (nI_1 k) (by decide) rfl ?_
        refine z_goto (tgt := 2) dX6_copyFrom_25 (by decide) ?_
        refine z_sub [0, 1, 2] (lv' := [(2, .int (nI (k + 1))), (0, .ref g), (1, .ref g2)]) rfl ?_
        refine z_eqs (lv2 := [(2, .int (nI (k + 1))), (0, .ref g), (1, .ref g2)]) (h2 := (h.set v (.inl (0, n, .inl (zFl f2 f (k + 1)))))) (by rfl) (by rfl) ?_
        exact ih2 (k + 1) (by omega) (by omega)
  refine z_sub [0, 1, 2] (lv' := [(2, .int 0), (0, .ref g), (1, .ref g2)]) rfl ?_
  refine z_eqs (lv2 := [(2, .int (nI 0)), (0, .ref g), (1, .ref g2)]) (h2 := (h.set v (.inl (0, n, .inl (zFl f2 f 0))))) (by rfl) (by rw [zFl_0]; exact (zset_self hv).symm) ?_
  exact L2_1 (n + 1) 0 (Nat.zero_le _) (by omega)

def zSh (f : Nat → UInt32) (i : Int32) : UInt32 := if i < 0 then FP.fconst0 else if nI 16 ≤ i then FP.fconst0 else f i.toNatClampNeg
def zPutS (f : Nat → UInt32) (i : Int32) (x : UInt32) : Nat → UInt32 := if i < 0 then f else if nI 16 ≤ i then f else vf_upd f i.toNatClampNeg x

set_option maxHeartbeats 4000000 in
set_option maxRecDepth 100000 in
theorem c_lShade {G : zT} {h : zH} {g v : Nat} {x1 : Int32} {q1 q2 q3 q4 : Nat} {f : Nat → UInt32} (hlen : h.length < 1000) (hg : h[g]? = some (.inr (5, [.int x1, .ref q1, .ref q2, .ref q3, .ref q4, .ref v]))) (hv : h[v]? = some (.inl (2, 16, .inr (.inr (.inl f))))) (i : Int32) : zRun G mX5_shadeOf 0 0 [.ref g, .int i] h (.inr (some (.float (zSh f i)))) h := by
  refine zRun_of (by decide +kernel) rfl rfl (Nat.le_of_ble_eq_true rfl) ?_
  suffices hs : ∀ (o9 : zO) (h9 : zH), (Sum.inr (some (.float (zSh f i))) : zO) = o9 → h = h9 → zPW G mX5_shadeOf 0 0 o9 h9 0 0 0 [(0, .ref g), (1, .int i)] [] h from hs _ _ rfl rfl
  intro o9 h9 ho9 hh9
  refine z_iload_n 1 dX5_shadeOf_0 rfl rfl ?_
  refine z_if_lt (tgt := 22) dX5_shadeOf_1 (by decide) (fun c_1 => ?_) (fun c_1 => ?_)
  · skip
    refine z_fconst0 dX5_shadeOf_22 ?_
    exact z_fret rfl dX5_shadeOf_23 (zo_f ho9 (by simp [zSh, *])) (zo_h hh9 (by rfl)) (Nat.zero_le _) (Nat.zero_le _)
  · skip
    refine z_iload_n 1 dX5_shadeOf_4 rfl rfl ?_
    refine z_aload_n 0 dX5_shadeOf_5 rfl rfl ?_
    refine z_get (v := .ref v) 5 hg rfl inX5 (by decide) zw_111 rfl rfl dX5_shadeOf_6 ?_
    refine z_alen (v := nI 16) hv (by decide) rfl dX5_shadeOf_9 ?_
    refine z_icmp_ge (tgt := 22) dX5_shadeOf_10 (by decide) (fun c_10 => ?_) (fun c_10 => ?_)
    · skip
      refine z_fconst0 dX5_shadeOf_22 ?_
      exact z_fret rfl dX5_shadeOf_23 (zo_f ho9 (by simp [zSh, *])) (zo_h hh9 (by rfl)) (Nat.zero_le _) (Nat.zero_le _)
    · skip
      refine z_aload_n 0 dX5_shadeOf_13 rfl rfl ?_
      refine z_get (v := .ref v) 5 hg rfl inX5 (by decide) zw_111 rfl rfl dX5_shadeOf_14 ?_
      refine z_iload_n 1 dX5_shadeOf_17 rfl rfl ?_
      refine z_fald (f := f) (n := 16) hv (by exact z_in (by decide) ‹_› ‹_›) dX5_shadeOf_18 ?_
      refine z_goto (tgt := 23) dX5_shadeOf_19 (by decide) ?_
      exact z_fret rfl dX5_shadeOf_23 (zo_f ho9 (by simp [zSh, *])) (zo_h hh9 (by rfl)) (Nat.zero_le _) (Nat.zero_le _)

set_option maxHeartbeats 4000000 in
set_option maxRecDepth 100000 in
theorem c_lPutShade {G : zT} {h h1 : zH} {g v : Nat} {x1 : Int32} {q1 q2 q3 q4 : Nat} {f : Nat → UInt32} (hlen : h.length < 1000) (hg : h[g]? = some (.inr (5, [.int x1, .ref q1, .ref q2, .ref q3, .ref q4, .ref v]))) (hv : h[v]? = some (.inl (2, 16, .inr (.inr (.inl f))))) (i : Int32) (x : UInt32) (he : h.set v (.inl (2, 16, .inr (.inr (.inl (zPutS f i x))))) = h1) : zRun G mX5_putShade 0 0 [.ref g, .int i, .float x] h (.inr none) h1 := by
  refine zRun_of (by decide +kernel) rfl rfl (Nat.le_of_ble_eq_true rfl) ?_
  suffices hs : ∀ (o9 : zO) (h9 : zH), (Sum.inr none : zO) = o9 → h1 = h9 → zPW G mX5_putShade 0 0 o9 h9 0 0 0 [(0, .ref g), (1, .int i), (2, .float x)] [] h from hs _ _ rfl rfl
  intro o9 h9 ho9 hh9
  refine z_iload_n 1 dX5_putShade_0 rfl rfl ?_
  refine z_if_lt (tgt := 20) dX5_putShade_1 (by decide) (fun c_1 => ?_) (fun c_1 => ?_)
  · skip
    exact z_vret rfl dX5_putShade_20 ho9.symm (zo_h hh9 (by rw [← he]; first | (simp [zPutS, *]; done) | (rw [show zPutS f i x = f by simp [zPutS, *]]; exact zset_self hv))) (Nat.zero_le _) (Nat.zero_le _)
  · skip
    refine z_iload_n 1 dX5_putShade_4 rfl rfl ?_
    refine z_aload_n 0 dX5_putShade_5 rfl rfl ?_
    refine z_get (v := .ref v) 5 hg rfl inX5 (by decide) zw_111 rfl rfl dX5_putShade_6 ?_
    refine z_alen (v := nI 16) hv (by decide) rfl dX5_putShade_9 ?_
    refine z_icmp_ge (tgt := 20) dX5_putShade_10 (by decide) (fun c_10 => ?_) (fun c_10 => ?_)
    · skip
      exact z_vret rfl dX5_putShade_20 ho9.symm (zo_h hh9 (by rw [← he]; first | (simp [zPutS, *]; done) | (rw [show zPutS f i x = f by simp [zPutS, *]]; exact zset_self hv))) (Nat.zero_le _) (Nat.zero_le _)
    · skip
      refine z_aload_n 0 dX5_putShade_13 rfl rfl ?_
      refine z_get (v := .ref v) 5 hg rfl inX5 (by decide) zw_111 rfl rfl dX5_putShade_14 ?_
      refine z_iload_n 1 dX5_putShade_17 rfl rfl ?_
      refine z_fload_n 2 dX5_putShade_18 rfl rfl ?_
      refine z_fast (f := f) (n := 16) hv (by exact z_in (by decide) ‹_› ‹_›) dX5_putShade_19 ?_
      refine z_eqh (h2 := (h.set v (.inl (2, 16, .inr (.inr (.inl (vf_upd f i.toNatClampNeg x))))))) rfl ?_
      exact z_vret rfl dX5_putShade_20 ho9.symm (zo_h hh9 (by rw [← he]; first | (simp [zPutS, *]; done) | (rw [show zPutS f i x = f by simp [zPutS, *]]; exact zset_self hv))) (Nat.zero_le _) (Nat.zero_le _)

set_option maxHeartbeats 4000000 in
set_option maxRecDepth 100000 in
theorem c_isFrom {G : zT} {h : zH} (hG : zAl G = false) (hlen : h.length < 1000) (a v b : Int32) : zRun G mX9_isFrom 0 0 [.int a, .int v, .int b] h (.inr (some (.int (zB (zFr a v b))))) h := by
  refine zRun_of (by decide +kernel) rfl rfl (Nat.le_of_ble_eq_true rfl) ?_
  suffices hs : ∀ (o9 : zO) (h9 : zH), (Sum.inr (some (.int (zB (zFr a v b)))) : zO) = o9 → h = h9 → zPW G mX9_isFrom 0 0 o9 h9 0 0 0 [(0, .int a), (1, .int v), (2, .int b)] [] h from hs _ _ rfl rfl
  intro o9 h9 ho9 hh9
  refine z_iload_n 1 dX9_isFrom_0 rfl rfl ?_
  refine z_iload_n 0 dX9_isFrom_1 rfl rfl ?_
  refine z_icmp_lt (tgt := 14) dX9_isFrom_2 (by decide) (fun c_2 => ?_) (fun c_2 => ?_)
  · skip
    refine z_iconst (v := 0) dX9_isFrom_14 (by decide) ?_
    exact z_zret rfl (by rfl) dX9_isFrom_15 (zo_i ho9 (by simp [zB, zFr, *])) (zo_h hh9 (by rfl)) (Nat.zero_le _) (Nat.zero_le _)
  · skip
    refine z_iload_n 1 dX9_isFrom_5 rfl rfl ?_
    refine z_iload_n 2 dX9_isFrom_6 rfl rfl ?_
    refine z_icmp_gt (tgt := 14) dX9_isFrom_7 (by decide) (fun c_7 => ?_) (fun c_7 => ?_)
    · skip
      refine z_iconst (v := 0) dX9_isFrom_14 (by decide) ?_
      exact z_zret rfl (by rfl) dX9_isFrom_15 (zo_i ho9 (by simp [zB, zFr, *])) (zo_h hh9 (by rfl)) (Nat.zero_le _) (Nat.zero_le _)
    · skip
      refine z_iconst (v := 1) dX9_isFrom_10 (by decide) ?_
      refine z_goto (tgt := 15) dX9_isFrom_11 (by decide) ?_
      exact z_zret rfl (by rfl) dX9_isFrom_15 (zo_i ho9 (by simp [zB, zFr, *])) (zo_h hh9 (by rfl)) (Nat.zero_le _) (Nat.zero_le _)

set_option maxHeartbeats 4000000 in
set_option maxRecDepth 100000 in
theorem c_isColor {G : zT} {h : zH} (hG : zAl G = false) (hlen : h.length < 1000) (v : Int32) : zRun G mX9_isColor 0 0 [.int v] h (.inr (some (.int (zB (zFr 0 v 7))))) h := by
  refine zRun_of (by decide +kernel) rfl rfl (Nat.le_of_ble_eq_true rfl) ?_
  suffices hs : ∀ (o9 : zO) (h9 : zH), (Sum.inr (some (.int (zB (zFr 0 v 7)))) : zO) = o9 → h = h9 → zPW G mX9_isColor 0 0 o9 h9 0 0 0 [(0, .int v)] [] h from hs _ _ rfl rfl
  intro o9 h9 ho9 hh9
  refine z_iconst (v := 0) dX9_isColor_0 (by decide) ?_
  refine z_iload_n 0 dX9_isColor_1 rfl rfl ?_
  refine z_bipush (v := 7) dX9_isColor_2 (by decide) ?_
  refine z_callS (N := mX9_isFrom) 3 [.int 0, .int v, .int 7] [] lX9_isFrom ⟨zw_660, zw_493⟩ rfl rfl rfl (Nat.le_of_ble_eq_true rfl) (by decide) ⟨hlen, hlen⟩ hG ⟨Nat.zero_le _, Nat.zero_le _⟩ (c_isFrom hG hlen 0 v 7) dX9_isColor_4 ?_
  exact z_zret rfl (by exact zB_n _) dX9_isColor_7 (zo_i ho9 (by rfl)) (zo_h hh9 (by rfl)) (Nat.zero_le _) (Nat.zero_le _)

set_option maxHeartbeats 4000000 in
set_option maxRecDepth 100000 in
theorem c_lHas {G : zT} {c r w lim cnt : Nat} {tol : Int32} {cart wov lot sew mis col len lef sbt : Nat → Int32} {shd : Nat → UInt32} {X : zXr} {Y : zYr} {out : Nat → Int64} (hG : zAl G = false) (hc : c ≤ 20) (hr : r ≤ 16) (hw : w ≤ r) (hn : cnt ≤ 16) (i : Int32) : zRun G mX5_has 0 0 [.ref 12, .int i] (zHp (c, r, w, lim, tol, cart, wov, lot, sew, mis, cnt, col, len, lef, sbt, shd) X Y out) (.inr (some (.int (zB (zIn i (nI cnt)))))) (zHp (c, r, w, lim, tol, cart, wov, lot, sew, mis, cnt, col, len, lef, sbt, shd) X Y out) := by
  refine zRun_of (by decide +kernel) rfl rfl (Nat.le_of_ble_eq_true rfl) ?_
  suffices hs : ∀ (o9 : zO) (h9 : zH), (Sum.inr (some (.int (zB (zIn i (nI cnt))))) : zO) = o9 → (zHp (c, r, w, lim, tol, cart, wov, lot, sew, mis, cnt, col, len, lef, sbt, shd) X Y out) = h9 → zPW G mX5_has 0 0 o9 h9 0 0 0 [(0, .ref 12), (1, .int i)] [] (zHp (c, r, w, lim, tol, cart, wov, lot, sew, mis, cnt, col, len, lef, sbt, shd) X Y out) from hs _ _ rfl rfl
  intro o9 h9 ho9 hh9
  refine z_iload_n 1 dX5_has_0 rfl rfl ?_
  refine z_if_lt (tgt := 16) dX5_has_1 (by decide) (fun c_1 => ?_) (fun c_1 => ?_)
  · skip
    refine z_iconst (v := 0) dX5_has_16 (by decide) ?_
    exact z_zret rfl (by rfl) dX5_has_17 (zo_i ho9 (by simp [zB, zIn, *])) (zo_h hh9 (by rfl)) (Nat.zero_le _) (Nat.zero_le _)
  · skip
    refine z_iload_n 1 dX5_has_4 rfl rfl ?_
    refine z_aload_n 0 dX5_has_5 rfl rfl ?_
    refine z_get (v := .int (nI cnt)) 0 rfl rfl inX5 (by decide) zw_100 rfl rfl dX5_has_6 ?_
    refine z_icmp_ge (tgt := 16) dX5_has_9 (by decide) (fun c_9 => ?_) (fun c_9 => ?_)
    · skip
      refine z_iconst (v := 0) dX5_has_16 (by decide) ?_
      exact z_zret rfl (by rfl) dX5_has_17 (zo_i ho9 (by simp [zB, zIn, *])) (zo_h hh9 (by rfl)) (Nat.zero_le _) (Nat.zero_le _)
    · skip
      refine z_iconst (v := 1) dX5_has_12 (by decide) ?_
      refine z_goto (tgt := 17) dX5_has_13 (by decide) ?_
      exact z_zret rfl (by rfl) dX5_has_17 (zo_i ho9 (by simp [zB, zIn, *])) (zo_h hh9 (by rfl)) (Nat.zero_le _) (Nat.zero_le _)

/-- the first lot of color v with something left, from k on -/
def zIu (col lef : Nat → Int32) (v : Int32) : Nat → Nat → Int32
  | _, 0 => -1
  | k, d + 1 => if zAtN 16 col (nI k) = v ∧ 0 < zAtN 16 lef (nI k) then nI k else zIu col lef v (k + 1) d
def zLf (col lef : Nat → Int32) (v : Int32) (n : Nat) : Int32 := zSm (fun k => if zAtN 16 col (nI k) = v then zAtN 16 lef (nI k) else 0) n
def zCo (col : Nat → Int32) (v : Int32) (n : Nat) : Nat := zCt (fun k => zAtN 16 col (nI k) == v) n

set_option maxHeartbeats 4000000 in
set_option maxRecDepth 100000 in
theorem c_lCount {G : zT} {c r w lim cnt : Nat} {tol : Int32} {cart wov lot sew mis col len lef sbt : Nat → Int32} {shd : Nat → UInt32} {X : zXr} {Y : zYr} {out : Nat → Int64} (hG : zAl G = false) (hc : c ≤ 20) (hr : r ≤ 16) (hw : w ≤ r) (hn : cnt ≤ 16) (v : Int32) : zRun G mX5_countOf 0 0 [.ref 12, .int v] (zHp (c, r, w, lim, tol, cart, wov, lot, sew, mis, cnt, col, len, lef, sbt, shd) X Y out) (.inr (some (.int (nI (zCo col v cnt))))) (zHp (c, r, w, lim, tol, cart, wov, lot, sew, mis, cnt, col, len, lef, sbt, shd) X Y out) := by
  refine zRun_of (by decide +kernel) rfl rfl (Nat.le_of_ble_eq_true rfl) ?_
  suffices hs : ∀ (o9 : zO) (h9 : zH), (Sum.inr (some (.int (nI (zCo col v cnt)))) : zO) = o9 → (zHp (c, r, w, lim, tol, cart, wov, lot, sew, mis, cnt, col, len, lef, sbt, shd) X Y out) = h9 → zPW G mX5_countOf 0 0 o9 h9 0 0 0 [(0, .ref 12), (1, .int v)] [] (zHp (c, r, w, lim, tol, cart, wov, lot, sew, mis, cnt, col, len, lef, sbt, shd) X Y out) from hs _ _ rfl rfl
  intro o9 h9 ho9 hh9
  refine z_iconst (v := 0) dX5_countOf_0 (by decide) ?_
  refine z_istore_n (lv' := [(2, .int 0), (0, .ref 12), (1, .int v)]) dX5_countOf_1 rfl (by decide) rfl ?_
  refine z_iconst (v := 0) dX5_countOf_2 (by decide) ?_
  refine z_istore_n (lv' := [(3, .int 0), (2, .int 0), (0, .ref 12), (1, .int v)]) dX5_countOf_3 rfl (by decide) rfl ?_
  have L4_1 : ∀ (d k : Nat), k ≤ cnt → cnt + 1 ≤ k + d → zPW G mX5_countOf 0 0 o9 h9 0 0 4 [(3, .int (nI k)), (2, .int (nI (zCt (fun k => zAtN 16 col (nI k) == v) k))), (0, .ref 12), (1, .int v)] [] (zHp (c, r, w, lim, tol, cart, wov, lot, sew, mis, cnt, col, len, lef, sbt, shd) X Y out) := by
    intro d
    induction d with
    | zero => intro k hk hd; exact absurd hd (by omega)
    | succ d ih =>
      intro k hk_k hd_k
      have ih4 := ih
      clear ih
      refine z_iload_n 0 dX5_countOf_4 rfl rfl ?_
      refine z_aload_n 2 dX5_countOf_5 rfl rfl ?_
      refine z_get (v := .int (nI cnt)) 0 rfl rfl inX5 (by decide) zw_100 rfl rfl dX5_countOf_6 ?_
      refine z_icmp_ge (tgt := 38) dX5_countOf_9 (by decide) (fun c_9 => ?_) (fun c_9 => ?_)
      · skip
        have hx_k := zge (by omega) hk_k c_9
        refine z_iload_n 1 dX5_countOf_38 rfl rfl ?_
        exact z_iret rfl dX5_countOf_39 (zo_i ho9 (by rw [zCo, hx_k])) (zo_h hh9 (by rfl)) (Nat.zero_le _) (Nat.zero_le _)
      · skip
        have hx_k := zlt' (by omega) hk_k c_9
        refine z_iload_n 1 dX5_countOf_12 rfl rfl ?_
        refine z_aload_n 2 dX5_countOf_13 rfl rfl ?_
        refine z_get (v := .ref 13) 1 rfl rfl inX5 (by decide) zw_103 rfl rfl dX5_countOf_14 ?_
        refine z_iload_n 0 dX5_countOf_17 rfl rfl ?_
        refine z_callV (N := mX6_at) 1 [.int (nI k)] [.int (nI (zCt (fun k => zAtN 16 col (nI k) == v) k))] lX6_at ⟨zw_423, zw_416, zw_417⟩ rfl rfl rfl rfl (Nat.le_of_ble_eq_true rfl) (by decide) ⟨zlt, zlt⟩ ⟨Nat.zero_le _, Nat.zero_le _⟩ (fun _ => rfl) (c_nAt (g := 13) (v := 14) (n := 16) (f := col) (by omega) zlt rfl rfl (nI k)) dX5_countOf_18 ?_
        refine z_iload_n 3 dX5_countOf_21 rfl rfl ?_
        refine z_icmp_ne (tgt := 29) dX5_countOf_22 (by decide) (fun c_22 => ?_) (fun c_22 => ?_)
        · skip
          refine z_iconst (v := 0) dX5_countOf_29 (by decide) ?_
          refine z_iadd dX5_countOf_30 ?_
          refine z_istore_n (lv' := [(2, .int ((nI (zCt (fun k => zAtN 16 col (nI k) == v) k)) + 0)), (3, .int (nI k)), (0, .ref 12), (1, .int v)]) dX5_countOf_31 rfl (by decide) rfl ?_
          refine z_iinc (v := nI (k + 1)) (lv' := [(3, .int (nI (k + 1))), (2, .int ((nI (zCt (fun k => zAtN 16 col (nI k) == v) k)) + 0)), (0, .ref 12), (1, .int v)]) 1 dX5_countOf_32 rfl (nI_1 k) (by decide) rfl ?_
          refine z_goto (tgt := 4) dX5_countOf_35 (by decide) ?_
          refine z_sub [0, 1, 2, 3] (lv' := [(3, .int (nI (k + 1))), (2, .int ((nI (zCt (fun k => zAtN 16 col (nI k) == v) k)) + 0)), (0, .ref 12), (1, .int v)]) rfl ?_
          refine z_eqs (lv2 := [(3, .int (nI (k + 1))), (2, .int (nI (zCt (fun k => zAtN 16 col (nI k) == v) (k + 1)))), (0, .ref 12), (1, .int v)]) (h2 := (zHp (c, r, w, lim, tol, cart, wov, lot, sew, mis, cnt, col, len, lef, sbt, shd) X Y out)) (by first | rw [zCt_t (p := fun k => zAtN 16 col (nI k) == v) (by simp [*])] | rw [zCt_f (p := fun k => zAtN 16 col (nI k) == v) (by simp [*])]) (by rfl) ?_
          exact ih4 (k + 1) (by omega) (by omega)
        · skip
          refine z_iconst (v := 1) dX5_countOf_25 (by decide) ?_
          refine z_goto (tgt := 30) dX5_countOf_26 (by decide) ?_
          refine z_iadd dX5_countOf_30 ?_
          refine z_istore_n (lv' := [(2, .int ((nI (zCt (fun k => zAtN 16 col (nI k) == v) k)) + 1)), (3, .int (nI k)), (0, .ref 12), (1, .int v)]) dX5_countOf_31 rfl (by decide) rfl ?_
          refine z_iinc (v := nI (k + 1)) (lv' := [(3, .int (nI (k + 1))), (2, .int ((nI (zCt (fun k => zAtN 16 col (nI k) == v) k)) + 1)), (0, .ref 12), (1, .int v)]) 1 dX5_countOf_32 rfl (nI_1 k) (by decide) rfl ?_
          refine z_goto (tgt := 4) dX5_countOf_35 (by decide) ?_
          refine z_sub [0, 1, 2, 3] (lv' := [(3, .int (nI (k + 1))), (2, .int ((nI (zCt (fun k => zAtN 16 col (nI k) == v) k)) + 1)), (0, .ref 12), (1, .int v)]) rfl ?_
          refine z_eqs (lv2 := [(3, .int (nI (k + 1))), (2, .int (nI (zCt (fun k => zAtN 16 col (nI k) == v) (k + 1)))), (0, .ref 12), (1, .int v)]) (h2 := (zHp (c, r, w, lim, tol, cart, wov, lot, sew, mis, cnt, col, len, lef, sbt, shd) X Y out)) (by first | rw [zCt_t (p := fun k => zAtN 16 col (nI k) == v) (by simp [*])] | rw [zCt_f (p := fun k => zAtN 16 col (nI k) == v) (by simp [*])]) (by rfl) ?_
          exact ih4 (k + 1) (by omega) (by omega)
  refine z_sub [0, 1, 2, 3] (lv' := [(3, .int 0), (2, .int 0), (0, .ref 12), (1, .int v)]) rfl ?_
  refine z_eqs (lv2 := [(3, .int (nI 0)), (2, .int (nI (zCt (fun k => zAtN 16 col (nI k) == v) 0))), (0, .ref 12), (1, .int v)]) (h2 := (zHp (c, r, w, lim, tol, cart, wov, lot, sew, mis, cnt, col, len, lef, sbt, shd) X Y out)) (by rfl) (by rfl) ?_
  exact L4_1 (cnt + 1) 0 (Nat.zero_le _) (by omega)

set_option maxHeartbeats 4000000 in
set_option maxRecDepth 100000 in
theorem c_lLeft {G : zT} {c r w lim cnt : Nat} {tol : Int32} {cart wov lot sew mis col len lef sbt : Nat → Int32} {shd : Nat → UInt32} {X : zXr} {Y : zYr} {out : Nat → Int64} (hG : zAl G = false) (hc : c ≤ 20) (hr : r ≤ 16) (hw : w ≤ r) (hn : cnt ≤ 16) (v : Int32) : zRun G mX5_leftOf 0 0 [.ref 12, .int v] (zHp (c, r, w, lim, tol, cart, wov, lot, sew, mis, cnt, col, len, lef, sbt, shd) X Y out) (.inr (some (.int (zLf col lef v cnt)))) (zHp (c, r, w, lim, tol, cart, wov, lot, sew, mis, cnt, col, len, lef, sbt, shd) X Y out) := by
  refine zRun_of (by decide +kernel) rfl rfl (Nat.le_of_ble_eq_true rfl) ?_
  suffices hs : ∀ (o9 : zO) (h9 : zH), (Sum.inr (some (.int (zLf col lef v cnt))) : zO) = o9 → (zHp (c, r, w, lim, tol, cart, wov, lot, sew, mis, cnt, col, len, lef, sbt, shd) X Y out) = h9 → zPW G mX5_leftOf 0 0 o9 h9 0 0 0 [(0, .ref 12), (1, .int v)] [] (zHp (c, r, w, lim, tol, cart, wov, lot, sew, mis, cnt, col, len, lef, sbt, shd) X Y out) from hs _ _ rfl rfl
  intro o9 h9 ho9 hh9
  refine z_iconst (v := 0) dX5_leftOf_0 (by decide) ?_
  refine z_istore_n (lv' := [(2, .int 0), (0, .ref 12), (1, .int v)]) dX5_leftOf_1 rfl (by decide) rfl ?_
  refine z_iconst (v := 0) dX5_leftOf_2 (by decide) ?_
  refine z_istore_n (lv' := [(3, .int 0), (2, .int 0), (0, .ref 12), (1, .int v)]) dX5_leftOf_3 rfl (by decide) rfl ?_
  have L4_1 : ∀ (d k : Nat), k ≤ cnt → cnt + 1 ≤ k + d → zPW G mX5_leftOf 0 0 o9 h9 0 0 4 [(3, .int (nI k)), (2, .int (zSm (fun k => if zAtN 16 col (nI k) = v then zAtN 16 lef (nI k) else 0) k)), (0, .ref 12), (1, .int v)] [] (zHp (c, r, w, lim, tol, cart, wov, lot, sew, mis, cnt, col, len, lef, sbt, shd) X Y out) := by
    intro d
    induction d with
    | zero => intro k hk hd; exact absurd hd (by omega)
    | succ d ih =>
      intro k hk_k hd_k
      have ih4 := ih
      clear ih
      refine z_iload_n 0 dX5_leftOf_4 rfl rfl ?_
      refine z_aload_n 2 dX5_leftOf_5 rfl rfl ?_
      refine z_get (v := .int (nI cnt)) 0 rfl rfl inX5 (by decide) zw_100 rfl rfl dX5_leftOf_6 ?_
      refine z_icmp_ge (tgt := 45) dX5_leftOf_9 (by decide) (fun c_9 => ?_) (fun c_9 => ?_)
      · skip
        have hx_k := zge (by omega) hk_k c_9
        refine z_iload_n 1 dX5_leftOf_45 rfl rfl ?_
        exact z_iret rfl dX5_leftOf_46 (zo_i ho9 (by rw [zLf, hx_k])) (zo_h hh9 (by rfl)) (Nat.zero_le _) (Nat.zero_le _)
      · skip
        have hx_k := zlt' (by omega) hk_k c_9
        refine z_iload_n 1 dX5_leftOf_12 rfl rfl ?_
        refine z_aload_n 2 dX5_leftOf_13 rfl rfl ?_
        refine z_get (v := .ref 13) 1 rfl rfl inX5 (by decide) zw_103 rfl rfl dX5_leftOf_14 ?_
        refine z_iload_n 0 dX5_leftOf_17 rfl rfl ?_
        refine z_callV (N := mX6_at) 1 [.int (nI k)] [.int (zSm (fun k => if zAtN 16 col (nI k) = v then zAtN 16 lef (nI k) else 0) k)] lX6_at ⟨zw_423, zw_416, zw_417⟩ rfl rfl rfl rfl (Nat.le_of_ble_eq_true rfl) (by decide) ⟨zlt, zlt⟩ ⟨Nat.zero_le _, Nat.zero_le _⟩ (fun _ => rfl) (c_nAt (g := 13) (v := 14) (n := 16) (f := col) (by omega) zlt rfl rfl (nI k)) dX5_leftOf_18 ?_
        refine z_iload_n 3 dX5_leftOf_21 rfl rfl ?_
        refine z_icmp_ne (tgt := 36) dX5_leftOf_22 (by decide) (fun c_22 => ?_) (fun c_22 => ?_)
        · skip
          refine z_iconst (v := 0) dX5_leftOf_36 (by decide) ?_
          refine z_iadd dX5_leftOf_37 ?_
          refine z_istore_n (lv' := [(2, .int ((zSm (fun k => if zAtN 16 col (nI k) = v then zAtN 16 lef (nI k) else 0) k) + 0)), (3, .int (nI k)), (0, .ref 12), (1, .int v)]) dX5_leftOf_38 rfl (by decide) rfl ?_
          refine z_iinc (v := nI (k + 1)) (lv' := [(3, .int (nI (k + 1))), (2, .int ((zSm (fun k => if zAtN 16 col (nI k) = v then zAtN 16 lef (nI k) else 0) k) + 0)), (0, .ref 12), (1, .int v)]) 1 dX5_leftOf_39 rfl (nI_1 k) (by decide) rfl ?_
          refine z_goto (tgt := 4) dX5_leftOf_42 (by decide) ?_
          refine z_sub [0, 1, 2, 3] (lv' := [(3, .int (nI (k + 1))), (2, .int ((zSm (fun k => if zAtN 16 col (nI k) = v then zAtN 16 lef (nI k) else 0) k) + 0)), (0, .ref 12), (1, .int v)]) rfl ?_
          refine z_eqs (lv2 := [(3, .int (nI (k + 1))), (2, .int (zSm (fun k => if zAtN 16 col (nI k) = v then zAtN 16 lef (nI k) else 0) (k + 1))), (0, .ref 12), (1, .int v)]) (h2 := (zHp (c, r, w, lim, tol, cart, wov, lot, sew, mis, cnt, col, len, lef, sbt, shd) X Y out)) (by rw [zSm_t (fun k => if zAtN 16 col (nI k) = v then zAtN 16 lef (nI k) else 0) k (by simp [*])]) (by rfl) ?_
          exact ih4 (k + 1) (by omega) (by omega)
        · skip
          refine z_aload_n 2 dX5_leftOf_25 rfl rfl ?_
          refine z_get (v := .ref 17) 3 rfl rfl inX5 (by decide) zw_107 rfl rfl dX5_leftOf_26 ?_
          refine z_iload_n 0 dX5_leftOf_29 rfl rfl ?_
          refine z_callV (N := mX6_at) 1 [.int (nI k)] [.int (zSm (fun k => if zAtN 16 col (nI k) = v then zAtN 16 lef (nI k) else 0) k)] lX6_at ⟨zw_423, zw_416, zw_417⟩ rfl rfl rfl rfl (Nat.le_of_ble_eq_true rfl) (by decide) ⟨zlt, zlt⟩ ⟨Nat.zero_le _, Nat.zero_le _⟩ (fun _ => rfl) (c_nAt (g := 17) (v := 18) (n := 16) (f := lef) (by omega) zlt rfl rfl (nI k)) dX5_leftOf_30 ?_
          refine z_goto (tgt := 37) dX5_leftOf_33 (by decide) ?_
          refine z_iadd dX5_leftOf_37 ?_
          refine z_istore_n (lv' := [(2, .int ((zSm (fun k => if zAtN 16 col (nI k) = v then zAtN 16 lef (nI k) else 0) k) + (zAtN 16 lef (nI k)))), (3, .int (nI k)), (0, .ref 12), (1, .int v)]) dX5_leftOf_38 rfl (by decide) rfl ?_
          refine z_iinc (v := nI (k + 1)) (lv' := [(3, .int (nI (k + 1))), (2, .int ((zSm (fun k => if zAtN 16 col (nI k) = v then zAtN 16 lef (nI k) else 0) k) + (zAtN 16 lef (nI k)))), (0, .ref 12), (1, .int v)]) 1 dX5_leftOf_39 rfl (nI_1 k) (by decide) rfl ?_
          refine z_goto (tgt := 4) dX5_leftOf_42 (by decide) ?_
          refine z_sub [0, 1, 2, 3] (lv' := [(3, .int (nI (k + 1))), (2, .int ((zSm (fun k => if zAtN 16 col (nI k) = v then zAtN 16 lef (nI k) else 0) k) + (zAtN 16 lef (nI k)))), (0, .ref 12), (1, .int v)]) rfl ?_
          refine z_eqs (lv2 := [(3, .int (nI (k + 1))), (2, .int (zSm (fun k => if zAtN 16 col (nI k) = v then zAtN 16 lef (nI k) else 0) (k + 1))), (0, .ref 12), (1, .int v)]) (h2 := (zHp (c, r, w, lim, tol, cart, wov, lot, sew, mis, cnt, col, len, lef, sbt, shd) X Y out)) (by rw [zSm_t (fun k => if zAtN 16 col (nI k) = v then zAtN 16 lef (nI k) else 0) k (by simp [*])]) (by rfl) ?_
          exact ih4 (k + 1) (by omega) (by omega)
  refine z_sub [0, 1, 2, 3] (lv' := [(3, .int 0), (2, .int 0), (0, .ref 12), (1, .int v)]) rfl ?_
  refine z_eqs (lv2 := [(3, .int (nI 0)), (2, .int (zSm (fun k => if zAtN 16 col (nI k) = v then zAtN 16 lef (nI k) else 0) 0)), (0, .ref 12), (1, .int v)]) (h2 := (zHp (c, r, w, lim, tol, cart, wov, lot, sew, mis, cnt, col, len, lef, sbt, shd) X Y out)) (by rfl) (by rfl) ?_
  exact L4_1 (cnt + 1) 0 (Nat.zero_le _) (by omega)

set_option maxHeartbeats 4000000 in
set_option maxRecDepth 100000 in
theorem c_lInUse {G : zT} {c r w lim cnt : Nat} {tol : Int32} {cart wov lot sew mis col len lef sbt : Nat → Int32} {shd : Nat → UInt32} {X : zXr} {Y : zYr} {out : Nat → Int64} (hG : zAl G = false) (hc : c ≤ 20) (hr : r ≤ 16) (hw : w ≤ r) (hn : cnt ≤ 16) (v : Int32) : zRun G mX5_inUse 0 0 [.ref 12, .int v] (zHp (c, r, w, lim, tol, cart, wov, lot, sew, mis, cnt, col, len, lef, sbt, shd) X Y out) (.inr (some (.int (zIu col lef v 0 cnt)))) (zHp (c, r, w, lim, tol, cart, wov, lot, sew, mis, cnt, col, len, lef, sbt, shd) X Y out) := by
  refine zRun_of (by decide +kernel) rfl rfl (Nat.le_of_ble_eq_true rfl) ?_
  suffices hs : ∀ (o9 : zO) (h9 : zH), (Sum.inr (some (.int (zIu col lef v 0 cnt))) : zO) = o9 → (zHp (c, r, w, lim, tol, cart, wov, lot, sew, mis, cnt, col, len, lef, sbt, shd) X Y out) = h9 → zPW G mX5_inUse 0 0 o9 h9 0 0 0 [(0, .ref 12), (1, .int v)] [] (zHp (c, r, w, lim, tol, cart, wov, lot, sew, mis, cnt, col, len, lef, sbt, shd) X Y out) from hs _ _ rfl rfl
  intro o9 h9 ho9 hh9
  refine z_iconst (v := 0) dX5_inUse_0 (by decide) ?_
  refine z_istore_n (lv' := [(2, .int 0), (0, .ref 12), (1, .int v)]) dX5_inUse_1 rfl (by decide) rfl ?_
  have L2_1 : ∀ (d k : Nat), k ≤ cnt → cnt + 1 ≤ k + d → zIu col lef v 0 cnt = zIu col lef v k (cnt - k) → zPW G mX5_inUse 0 0 o9 h9 0 0 2 [(2, .int (nI k)), (0, .ref 12), (1, .int v)] [] (zHp (c, r, w, lim, tol, cart, wov, lot, sew, mis, cnt, col, len, lef, sbt, shd) X Y out) := by
    intro d
    induction d with
    | zero => intro k hk hd; exact absurd hd (by omega)
    | succ d ih =>
      intro k hk_k hd_k he_k
      have ih2 := ih
      clear ih
      refine z_iload_n 0 dX5_inUse_2 rfl rfl ?_
      refine z_aload_n 1 dX5_inUse_3 rfl rfl ?_
      refine z_get (v := .int (nI cnt)) 0 rfl rfl inX5 (by decide) zw_100 rfl rfl dX5_inUse_4 ?_
      refine z_icmp_ge (tgt := 41) dX5_inUse_7 (by decide) (fun c_7 => ?_) (fun c_7 => ?_)
      · skip
        have hx_k := zge (by omega) hk_k c_7
        refine z_iconst (v := (-1)) dX5_inUse_41 (by decide) ?_
        exact z_iret rfl dX5_inUse_42 (zo_i ho9 (by rw [he_k]; first | rw [hx_k, Nat.sub_self, zIu] | rw [show cnt - k = (cnt - (k + 1)) + 1 by omega, zIu, if_pos ⟨by assumption, Int32.not_le.mp (by assumption)⟩])) (zo_h hh9 (by rfl)) (Nat.zero_le _) (Nat.zero_le _)
      · skip
        have hx_k := zlt' (by omega) hk_k c_7
        refine z_aload_n 1 dX5_inUse_10 rfl rfl ?_
        refine z_get (v := .ref 13) 1 rfl rfl inX5 (by decide) zw_103 rfl rfl dX5_inUse_11 ?_
        refine z_iload_n 0 dX5_inUse_14 rfl rfl ?_
        refine z_callV (N := mX6_at) 1 [.int (nI k)] [] lX6_at ⟨zw_423, zw_416, zw_417⟩ rfl rfl rfl rfl (Nat.le_of_ble_eq_true rfl) (by decide) ⟨zlt, zlt⟩ ⟨Nat.zero_le _, Nat.zero_le _⟩ (fun _ => rfl) (c_nAt (g := 13) (v := 14) (n := 16) (f := col) (by omega) zlt rfl rfl (nI k)) dX5_inUse_15 ?_
        refine z_iload_n 2 dX5_inUse_18 rfl rfl ?_
        refine z_icmp_ne (tgt := 35) dX5_inUse_19 (by decide) (fun c_19 => ?_) (fun c_19 => ?_)
        · skip
          refine z_iinc (v := nI (k + 1)) (lv' := [(2, .int (nI (k + 1))), (0, .ref 12), (1, .int v)]) 0 dX5_inUse_35 rfl (nI_1 k) (by decide) rfl ?_
          refine z_goto (tgt := 2) dX5_inUse_38 (by decide) ?_
          refine z_sub [0, 1, 2] (lv' := [(2, .int (nI (k + 1))), (0, .ref 12), (1, .int v)]) rfl ?_
          refine z_eqs (lv2 := [(2, .int (nI (k + 1))), (0, .ref 12), (1, .int v)]) (h2 := (zHp (c, r, w, lim, tol, cart, wov, lot, sew, mis, cnt, col, len, lef, sbt, shd) X Y out)) (by rfl) (by rfl) ?_
          exact ih2 (k + 1) (by omega) (by omega) (by rw [he_k, show cnt - k = (cnt - (k + 1)) + 1 by omega, zIu, if_neg (by simp [*])])
        · skip
          refine z_aload_n 1 dX5_inUse_22 rfl rfl ?_
          refine z_get (v := .ref 17) 3 rfl rfl inX5 (by decide) zw_107 rfl rfl dX5_inUse_23 ?_
          refine z_iload_n 0 dX5_inUse_26 rfl rfl ?_
          refine z_callV (N := mX6_at) 1 [.int (nI k)] [] lX6_at ⟨zw_423, zw_416, zw_417⟩ rfl rfl rfl rfl (Nat.le_of_ble_eq_true rfl) (by decide) ⟨zlt, zlt⟩ ⟨Nat.zero_le _, Nat.zero_le _⟩ (fun _ => rfl) (c_nAt (g := 17) (v := 18) (n := 16) (f := lef) (by omega) zlt rfl rfl (nI k)) dX5_inUse_27 ?_
          refine z_if_le (tgt := 35) dX5_inUse_30 (by decide) (fun c_30 => ?_) (fun c_30 => ?_)
          · skip
            refine z_iinc (v := nI (k + 1)) (lv' := [(2, .int (nI (k + 1))), (0, .ref 12), (1, .int v)]) 0 dX5_inUse_35 rfl (nI_1 k) (by decide) rfl ?_
            refine z_goto (tgt := 2) dX5_inUse_38 (by decide) ?_
            refine z_sub [0, 1, 2] (lv' := [(2, .int (nI (k + 1))), (0, .ref 12), (1, .int v)]) rfl ?_
            refine z_eqs (lv2 := [(2, .int (nI (k + 1))), (0, .ref 12), (1, .int v)]) (h2 := (zHp (c, r, w, lim, tol, cart, wov, lot, sew, mis, cnt, col, len, lef, sbt, shd) X Y out)) (by rfl) (by rfl) ?_
            exact ih2 (k + 1) (by omega) (by omega) (by rw [he_k, show cnt - k = (cnt - (k + 1)) + 1 by omega, zIu, if_neg (by simp [*])])
          · skip
            refine z_iload_n 0 dX5_inUse_33 rfl rfl ?_
            exact z_iret rfl dX5_inUse_34 (zo_i ho9 (by rw [he_k]; first | rw [hx_k, Nat.sub_self, zIu] | rw [show cnt - k = (cnt - (k + 1)) + 1 by omega, zIu, if_pos ⟨by assumption, Int32.not_le.mp (by assumption)⟩])) (zo_h hh9 (by rfl)) (Nat.zero_le _) (Nat.zero_le _)
  refine z_sub [0, 1, 2] (lv' := [(2, .int 0), (0, .ref 12), (1, .int v)]) rfl ?_
  refine z_eqs (lv2 := [(2, .int (nI 0)), (0, .ref 12), (1, .int v)]) (h2 := (zHp (c, r, w, lim, tol, cart, wov, lot, sew, mis, cnt, col, len, lef, sbt, shd) X Y out)) (by rfl) (by rfl) ?_
  exact L2_1 (cnt + 1) 0 (Nat.zero_le _) (by omega) rfl

