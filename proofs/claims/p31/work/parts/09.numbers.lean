theorem zs_len {h : zH} {v : Nat} {c : zE} (e : h.length < 1000) : (h.set v c).length < 1000 := by rw [List.length_set]; exact e
theorem zs_v {h : zH} {v : Nat} {c0 : zE} (e : h[v]? = some c0) (c : zE) : (h.set v c)[v]? = some c := List.getElem?_set_self (List.getElem?_eq_some_iff.mp e).1
theorem zs_n {h : zH} {v g : Nat} {c1 : zE} (e1 : h[g]? = some c1) (hne : v ≠ g) (c : zE) : (h.set v c)[g]? = some c1 := by rw [List.getElem?_set_ne hne]; exact e1
/-- a row is no object -/
theorem zs_g {h : zH} {v g : Nat} {a : Nat × vp_A} {b : Nat × List Value} (e : h[v]? = some (.inl a)) (e1 : h[g]? = some (.inr b)) (c : zE) : (h.set v c)[g]? = some (.inr b) := zs_n e1 (fun z => by subst z; rw [e] at e1; cases e1) c

set_option maxHeartbeats 4000000 in
set_option maxRecDepth 100000 in
theorem c_gPut {G : zT} {h h1 : zH} {g v : Nat} {f : Nat → Int32} (hlen : h.length < 1000) (hg : h[g]? = some (.inr (2, [.ref v]))) (hv : h[v]? = some (.inl (0, 320, .inl f))) (b y w : Int32) (he : h.set v (.inl (0, 320, .inl (zPutG f b y w))) = h1) : zRun G mX2_put 0 0 [.ref g, .int b, .int y, .int w] h (.inr none) h1 := by
  refine zRun_of (by decide +kernel) rfl rfl (Nat.le_of_ble_eq_true rfl) ?_
  suffices hs : ∀ (o9 : zO) (h9 : zH), (Sum.inr none : zO) = o9 → h1 = h9 → zPW G mX2_put 0 0 o9 h9 0 0 0 [(0, .ref g), (1, .int b), (2, .int y), (3, .int w)] [] h from hs _ _ rfl rfl
  intro o9 h9 ho9 hh9
  refine z_iload_n 2 dX2_put_0 rfl rfl ?_
  refine z_bipush (v := nI 20) dX2_put_1 (by decide) ?_
  refine z_imul dX2_put_3 ?_
  refine z_iload_n 1 dX2_put_4 rfl rfl ?_
  refine z_iadd dX2_put_5 ?_
  refine z_istore (lv' := [(4, .int ((y * (nI 20)) + b)), (0, .ref g), (1, .int b), (2, .int y), (3, .int w)]) dX2_put_6 (by decide) rfl ?_
  refine z_iload_n 2 dX2_put_8 rfl rfl ?_
  refine z_if_lt (tgt := 41) dX2_put_9 (by decide) (fun c_9 => ?_) (fun c_9 => ?_)
  · skip
    exact z_vret rfl dX2_put_41 ho9.symm (zo_h hh9 (by rw [← he]; first | (simp [zPutG, *]; done) | (rw [show zPutG f b y w = f by simp [zPutG, *]]; exact zset_self hv))) (Nat.zero_le _) (Nat.zero_le _)
  · skip
    refine z_iload_n 2 dX2_put_12 rfl rfl ?_
    refine z_bipush (v := nI 20) dX2_put_13 (by decide) ?_
    refine z_icmp_ge (tgt := 41) dX2_put_15 (by decide) (fun c_15 => ?_) (fun c_15 => ?_)
    · skip
      exact z_vret rfl dX2_put_41 ho9.symm (zo_h hh9 (by rw [← he]; first | (simp [zPutG, *]; done) | (rw [show zPutG f b y w = f by simp [zPutG, *]]; exact zset_self hv))) (Nat.zero_le _) (Nat.zero_le _)
    · skip
      refine z_iload 0 dX2_put_18 rfl ?_
      refine z_if_lt (tgt := 41) dX2_put_20 (by decide) (fun c_20 => ?_) (fun c_20 => ?_)
      · skip
        exact z_vret rfl dX2_put_41 ho9.symm (zo_h hh9 (by rw [← he]; first | (simp [zPutG, *]; done) | (rw [show zPutG f b y w = f by simp [zPutG, *]]; exact zset_self hv))) (Nat.zero_le _) (Nat.zero_le _)
      · skip
        refine z_iload 0 dX2_put_23 rfl ?_
        refine z_aload_n 1 dX2_put_25 rfl rfl ?_
        refine z_get (v := .ref v) 0 hg rfl inX2 (by decide) zw_74 rfl rfl dX2_put_26 ?_
        refine z_alen (v := nI 320) hv (by decide) rfl dX2_put_29 ?_
        refine z_icmp_ge (tgt := 41) dX2_put_30 (by decide) (fun c_30 => ?_) (fun c_30 => ?_)
        · skip
          exact z_vret rfl dX2_put_41 ho9.symm (zo_h hh9 (by rw [← he]; first | (simp [zPutG, *]; done) | (rw [show zPutG f b y w = f by simp [zPutG, *]]; exact zset_self hv))) (Nat.zero_le _) (Nat.zero_le _)
        · skip
          refine z_aload_n 1 dX2_put_33 rfl rfl ?_
          refine z_get (v := .ref v) 0 hg rfl inX2 (by decide) zw_74 rfl rfl dX2_put_34 ?_
          refine z_iload 0 dX2_put_37 rfl ?_
          refine z_iload_n 4 dX2_put_39 rfl rfl ?_
          refine z_iast (f := f) (n := 320) hv (by exact z_in (by decide) ‹_› ‹_›) dX2_put_40 ?_
          refine z_eqh (h2 := (h.set v (.inl (0, 320, .inl (upd f ((y * (nI 20)) + b).toNatClampNeg w))))) rfl ?_
          exact z_vret rfl dX2_put_41 ho9.symm (zo_h hh9 (by rw [← he]; first | (simp [zPutG, *]; done) | (rw [show zPutG f b y w = f by simp [zPutG, *]]; exact zset_self hv))) (Nat.zero_le _) (Nat.zero_le _)

set_option maxHeartbeats 4000000 in
set_option maxRecDepth 100000 in
theorem c_gPutAll {G : zT} {h h1 : zH} {g v : Nat} {f : Nat → Int32} (hlen : h.length < 1000) (hg : h[g]? = some (.inr (2, [.ref v]))) (hv : h[v]? = some (.inl (0, 320, .inl f))) (w : Int32) (he : h.set v (.inl (0, 320, .inl (zFl (fun _ => w) f 320))) = h1) : zRun G mX2_putAll 0 0 [.ref g, .int w] h (.inr none) h1 := by
  refine zRun_of (by decide +kernel) rfl rfl (Nat.le_of_ble_eq_true rfl) ?_
  suffices hs : ∀ (o9 : zO) (h9 : zH), (Sum.inr none : zO) = o9 → h1 = h9 → zPW G mX2_putAll 0 0 o9 h9 0 0 0 [(0, .ref g), (1, .int w)] [] h from hs _ _ rfl rfl
  intro o9 h9 ho9 hh9
  refine z_iconst (v := 0) dX2_putAll_0 (by decide) ?_
  refine z_istore_n (lv' := [(2, .int 0), (0, .ref g), (1, .int w)]) dX2_putAll_1 rfl (by decide) rfl ?_
  have L2_1 : ∀ (d k : Nat), k ≤ 320 → 320 + 1 ≤ k + d → zPW G mX2_putAll 0 0 o9 h9 0 0 2 [(2, .int (nI k)), (0, .ref g), (1, .int w)] [] (h.set v (.inl (0, 320, .inl (zFl (fun _ => w) f k)))) := by
    intro d
    induction d with
    | zero => intro k hk hd; exact absurd hd (by omega)
    | succ d ih =>
      intro k hk_k hd_k
      have ih2 := ih
      clear ih
      refine z_iload_n 0 dX2_putAll_2 rfl rfl ?_
      refine z_aload_n 1 dX2_putAll_3 rfl rfl ?_
      refine z_get (v := .ref v) 0 (zs_g hv hg _) rfl inX2 (by decide) zw_74 rfl rfl dX2_putAll_4 ?_
      refine z_alen (v := nI 320) (zs_v hv _) (by decide) rfl dX2_putAll_7 ?_
      refine z_icmp_ge (tgt := 24) dX2_putAll_8 (by decide) (fun c_8 => ?_) (fun c_8 => ?_)
      · skip
        have hx_k := zge (by omega) hk_k c_8
        exact z_vret rfl dX2_putAll_24 ho9.symm (zo_h hh9 (by rw [← he, hx_k])) (Nat.zero_le _) (Nat.zero_le _)
      · skip
        have hx_k := zlt' (by omega) hk_k c_8
        refine z_aload_n 1 dX2_putAll_11 rfl rfl ?_
        refine z_get (v := .ref v) 0 (zs_g hv hg _) rfl inX2 (by decide) zw_74 rfl rfl dX2_putAll_12 ?_
        refine z_iload_n 0 dX2_putAll_15 rfl rfl ?_
        refine z_iload_n 2 dX2_putAll_16 rfl rfl ?_
        refine z_iast (f := zFl (fun _ => w) f k) (n := 320) (zs_v hv _) (by exact vp_in_nI hx_k (by omega)) dX2_putAll_17 ?_
        refine z_eqh (h2 := (h.set v (.inl (0, 320, .inl (zFl (fun _ => w) f (k + 1)))))) (by rw [List.set_set, zFl_s _ _ (by omega) rfl]) ?_
        refine z_iinc (v := nI (k + 1)) (lv' := [(2, .int (nI (k + 1))), (0, .ref g), (1, .int w)]) 0 dX2_putAll_18 rfl (nI_1 k) (by decide) rfl ?_
        refine z_goto (tgt := 2) dX2_putAll_21 (by decide) ?_
        refine z_sub [0, 1, 2] (lv' := [(2, .int (nI (k + 1))), (0, .ref g), (1, .int w)]) rfl ?_
        refine z_eqs (lv2 := [(2, .int (nI (k + 1))), (0, .ref g), (1, .int w)]) (h2 := (h.set v (.inl (0, 320, .inl (zFl (fun _ => w) f (k + 1)))))) (by rfl) (by rfl) ?_
        exact ih2 (k + 1) (by omega) (by omega)
  refine z_sub [0, 1, 2] (lv' := [(2, .int 0), (0, .ref g), (1, .int w)]) rfl ?_
  refine z_eqs (lv2 := [(2, .int (nI 0)), (0, .ref g), (1, .int w)]) (h2 := (h.set v (.inl (0, 320, .inl (zFl (fun _ => w) f 0))))) (by rfl) (by rw [zFl_0]; exact (zset_self hv).symm) ?_
  exact L2_1 (320 + 1) 0 (Nat.zero_le _) (by omega)

set_option maxHeartbeats 4000000 in
set_option maxRecDepth 100000 in
theorem c_nAt {G : zT} {h : zH} {g v n : Nat} {f : Nat → Int32} (hn : n < 1000) (hlen : h.length < 1000) (hg : h[g]? = some (.inr (6, [.ref v]))) (hv : h[v]? = some (.inl (0, n, .inl f))) (i : Int32) : zRun G mX6_at 0 0 [.ref g, .int i] h (.inr (some (.int (zAtN n f i)))) h := by
  refine zRun_of (by decide +kernel) rfl rfl (Nat.le_of_ble_eq_true rfl) ?_
  suffices hs : ∀ (o9 : zO) (h9 : zH), (Sum.inr (some (.int (zAtN n f i))) : zO) = o9 → h = h9 → zPW G mX6_at 0 0 o9 h9 0 0 0 [(0, .ref g), (1, .int i)] [] h from hs _ _ rfl rfl
  intro o9 h9 ho9 hh9
  refine z_iload_n 1 dX6_at_0 rfl rfl ?_
  refine z_if_lt (tgt := 22) dX6_at_1 (by decide) (fun c_1 => ?_) (fun c_1 => ?_)
  · skip
    refine z_iconst (v := (-1)) dX6_at_22 (by decide) ?_
    exact z_iret rfl dX6_at_23 (zo_i ho9 (by simp [zAtN, *])) (zo_h hh9 (by rfl)) (Nat.zero_le _) (Nat.zero_le _)
  · skip
    refine z_iload_n 1 dX6_at_4 rfl rfl ?_
    refine z_aload_n 0 dX6_at_5 rfl rfl ?_
    refine z_get (v := .ref v) 0 hg rfl inX6 (by decide) zw_88 rfl rfl dX6_at_6 ?_
    refine z_alen (v := nI n) hv (by decide) rfl dX6_at_9 ?_
    refine z_icmp_ge (tgt := 22) dX6_at_10 (by decide) (fun c_10 => ?_) (fun c_10 => ?_)
    · skip
      refine z_iconst (v := (-1)) dX6_at_22 (by decide) ?_
      exact z_iret rfl dX6_at_23 (zo_i ho9 (by simp [zAtN, *])) (zo_h hh9 (by rfl)) (Nat.zero_le _) (Nat.zero_le _)
    · skip
      refine z_aload_n 0 dX6_at_13 rfl rfl ?_
      refine z_get (v := .ref v) 0 hg rfl inX6 (by decide) zw_88 rfl rfl dX6_at_14 ?_
      refine z_iload_n 1 dX6_at_17 rfl rfl ?_
      refine z_iald (f := f) (n := n) hv (by exact z_in (by omega) ‹_› ‹_›) dX6_at_18 ?_
      refine z_goto (tgt := 23) dX6_at_19 (by decide) ?_
      exact z_iret rfl dX6_at_23 (zo_i ho9 (by simp [zAtN, *])) (zo_h hh9 (by rfl)) (Nat.zero_le _) (Nat.zero_le _)

set_option maxHeartbeats 4000000 in
set_option maxRecDepth 100000 in
theorem c_nPut {G : zT} {h h1 : zH} {g v n : Nat} {f : Nat → Int32} (hn : n < 1000) (hlen : h.length < 1000) (hg : h[g]? = some (.inr (6, [.ref v]))) (hv : h[v]? = some (.inl (0, n, .inl f))) (i w : Int32) (he : h.set v (.inl (0, n, .inl (zPutN n f i w))) = h1) : zRun G mX6_put 0 0 [.ref g, .int i, .int w] h (.inr none) h1 := by
  refine zRun_of (by decide +kernel) rfl rfl (Nat.le_of_ble_eq_true rfl) ?_
  suffices hs : ∀ (o9 : zO) (h9 : zH), (Sum.inr none : zO) = o9 → h1 = h9 → zPW G mX6_put 0 0 o9 h9 0 0 0 [(0, .ref g), (1, .int i), (2, .int w)] [] h from hs _ _ rfl rfl
  intro o9 h9 ho9 hh9
  refine z_iload_n 1 dX6_put_0 rfl rfl ?_
  refine z_if_lt (tgt := 20) dX6_put_1 (by decide) (fun c_1 => ?_) (fun c_1 => ?_)
  · skip
    exact z_vret rfl dX6_put_20 ho9.symm (zo_h hh9 (by rw [← he]; first | (simp [zPutN, *]; done) | (rw [show zPutN n f i w = f by simp [zPutN, *]]; exact zset_self hv))) (Nat.zero_le _) (Nat.zero_le _)
  · skip
    refine z_iload_n 1 dX6_put_4 rfl rfl ?_
    refine z_aload_n 0 dX6_put_5 rfl rfl ?_
    refine z_get (v := .ref v) 0 hg rfl inX6 (by decide) zw_88 rfl rfl dX6_put_6 ?_
    refine z_alen (v := nI n) hv (by decide) rfl dX6_put_9 ?_
    refine z_icmp_ge (tgt := 20) dX6_put_10 (by decide) (fun c_10 => ?_) (fun c_10 => ?_)
    · skip
      exact z_vret rfl dX6_put_20 ho9.symm (zo_h hh9 (by rw [← he]; first | (simp [zPutN, *]; done) | (rw [show zPutN n f i w = f by simp [zPutN, *]]; exact zset_self hv))) (Nat.zero_le _) (Nat.zero_le _)
    · skip
      refine z_aload_n 0 dX6_put_13 rfl rfl ?_
      refine z_get (v := .ref v) 0 hg rfl inX6 (by decide) zw_88 rfl rfl dX6_put_14 ?_
      refine z_iload_n 1 dX6_put_17 rfl rfl ?_
      refine z_iload_n 2 dX6_put_18 rfl rfl ?_
      refine z_iast (f := f) (n := n) hv (by exact z_in (by omega) ‹_› ‹_›) dX6_put_19 ?_
      refine z_eqh (h2 := (h.set v (.inl (0, n, .inl (upd f i.toNatClampNeg w))))) rfl ?_
      exact z_vret rfl dX6_put_20 ho9.symm (zo_h hh9 (by rw [← he]; first | (simp [zPutN, *]; done) | (rw [show zPutN n f i w = f by simp [zPutN, *]]; exact zset_self hv))) (Nat.zero_le _) (Nat.zero_le _)

set_option maxHeartbeats 4000000 in
set_option maxRecDepth 100000 in
theorem c_nPutAll {G : zT} {h h1 : zH} {g v n : Nat} {f : Nat → Int32} (hn : n < 1000) (hlen : h.length < 1000) (hg : h[g]? = some (.inr (6, [.ref v]))) (hv : h[v]? = some (.inl (0, n, .inl f))) (w : Int32) (he : h.set v (.inl (0, n, .inl (zFl (fun _ => w) f n))) = h1) : zRun G mX6_putAll 0 0 [.ref g, .int w] h (.inr none) h1 := by
  refine zRun_of (by decide +kernel) rfl rfl (Nat.le_of_ble_eq_true rfl) ?_
  suffices hs : ∀ (o9 : zO) (h9 : zH), (Sum.inr none : zO) = o9 → h1 = h9 → zPW G mX6_putAll 0 0 o9 h9 0 0 0 [(0, .ref g), (1, .int w)] [] h from hs _ _ rfl rfl
  intro o9 h9 ho9 hh9
  refine z_iconst (v := 0) dX6_putAll_0 (by decide) ?_
  refine z_istore_n (lv' := [(2, .int 0), (0, .ref g), (1, .int w)]) dX6_putAll_1 rfl (by decide) rfl ?_
  have L2_1 : ∀ (d k : Nat), k ≤ n → n + 1 ≤ k + d → zPW G mX6_putAll 0 0 o9 h9 0 0 2 [(2, .int (nI k)), (0, .ref g), (1, .int w)] [] (h.set v (.inl (0, n, .inl (zFl (fun _ => w) f k)))) := by
    intro d
    induction d with
    | zero => intro k hk hd; exact absurd hd (by omega)
    | succ d ih =>
      intro k hk_k hd_k
      have ih2 := ih
      clear ih
      refine z_iload_n 0 dX6_putAll_2 rfl rfl ?_
      refine z_aload_n 1 dX6_putAll_3 rfl rfl ?_
      refine z_get (v := .ref v) 0 (zs_g hv hg _) rfl inX6 (by decide) zw_88 rfl rfl dX6_putAll_4 ?_
      refine z_alen (v := nI n) (zs_v hv _) (by decide) rfl dX6_putAll_7 ?_
      refine z_icmp_ge (tgt := 24) dX6_putAll_8 (by decide) (fun c_8 => ?_) (fun c_8 => ?_)
      · skip
        have hx_k := zge (by omega) hk_k c_8
        exact z_vret rfl dX6_putAll_24 ho9.symm (zo_h hh9 (by rw [← he, hx_k])) (Nat.zero_le _) (Nat.zero_le _)
      · skip
        have hx_k := zlt' (by omega) hk_k c_8
        refine z_aload_n 1 dX6_putAll_11 rfl rfl ?_
        refine z_get (v := .ref v) 0 (zs_g hv hg _) rfl inX6 (by decide) zw_88 rfl rfl dX6_putAll_12 ?_
        refine z_iload_n 0 dX6_putAll_15 rfl rfl ?_
        refine z_iload_n 2 dX6_putAll_16 rfl rfl ?_
        refine z_iast (f := zFl (fun _ => w) f k) (n := n) (zs_v hv _) (by exact vp_in_nI hx_k (by omega)) dX6_putAll_17 ?_
        refine z_eqh (h2 := (h.set v (.inl (0, n, .inl (zFl (fun _ => w) f (k + 1)))))) (by rw [List.set_set, zFl_s _ _ (by omega) rfl]) ?_
        refine z_iinc (v := nI (k + 1)) (lv' := [(2, .int (nI (k + 1))), (0, .ref g), (1, .int w)]) 0 dX6_putAll_18 rfl (nI_1 k) (by decide) rfl ?_
        refine z_goto (tgt := 2) dX6_putAll_21 (by decide) ?_
        refine z_sub [0, 1, 2] (lv' := [(2, .int (nI (k + 1))), (0, .ref g), (1, .int w)]) rfl ?_
        refine z_eqs (lv2 := [(2, .int (nI (k + 1))), (0, .ref g), (1, .int w)]) (h2 := (h.set v (.inl (0, n, .inl (zFl (fun _ => w) f (k + 1)))))) (by rfl) (by rfl) ?_
        exact ih2 (k + 1) (by omega) (by omega)
  refine z_sub [0, 1, 2] (lv' := [(2, .int 0), (0, .ref g), (1, .int w)]) rfl ?_
  refine z_eqs (lv2 := [(2, .int (nI 0)), (0, .ref g), (1, .int w)]) (h2 := (h.set v (.inl (0, n, .inl (zFl (fun _ => w) f 0))))) (by rfl) (by rw [zFl_0]; exact (zset_self hv).symm) ?_
  exact L2_1 (n + 1) 0 (Nat.zero_le _) (by omega)

/-- how many of the first n are others than w -/
def zOth (n : Nat) (f : Nat → Int32) (w : Int32) : Nat := zCt (fun j => !(f j == w)) n
set_option maxHeartbeats 4000000 in
set_option maxRecDepth 100000 in
theorem c_nOth {G : zT} {h : zH} {g v n : Nat} {f : Nat → Int32} (hn : n < 1000) (hlen : h.length < 1000) (hg : h[g]? = some (.inr (6, [.ref v]))) (hv : h[v]? = some (.inl (0, n, .inl f))) (w : Int32) : zRun G mX6_countOthersThan 0 0 [.ref g, .int w] h (.inr (some (.int (nI (zOth n f w))))) h := by
  refine zRun_of (by decide +kernel) rfl rfl (Nat.le_of_ble_eq_true rfl) ?_
  suffices hs : ∀ (o9 : zO) (h9 : zH), (Sum.inr (some (.int (nI (zOth n f w)))) : zO) = o9 → h = h9 → zPW G mX6_countOthersThan 0 0 o9 h9 0 0 0 [(0, .ref g), (1, .int w)] [] h from hs _ _ rfl rfl
  intro o9 h9 ho9 hh9
  refine z_iconst (v := 0) dX6_countOthersThan_0 (by decide) ?_
  refine z_istore_n (lv' := [(2, .int 0), (0, .ref g), (1, .int w)]) dX6_countOthersThan_1 rfl (by decide) rfl ?_
  refine z_iconst (v := 0) dX6_countOthersThan_2 (by decide) ?_
  refine z_istore_n (lv' := [(3, .int 0), (2, .int 0), (0, .ref g), (1, .int w)]) dX6_countOthersThan_3 rfl (by decide) rfl ?_
  have L4_1 : ∀ (d k : Nat), k ≤ n → n + 1 ≤ k + d → zPW G mX6_countOthersThan 0 0 o9 h9 0 0 4 [(3, .int (nI k)), (2, .int (nI (zCt (fun j => !(f j == w)) k))), (0, .ref g), (1, .int w)] [] h := by
    intro d
    induction d with
    | zero => intro k hk hd; exact absurd hd (by omega)
    | succ d ih =>
      intro k hk_k hd_k
      have ih4 := ih
      clear ih
      refine z_iload_n 0 dX6_countOthersThan_4 rfl rfl ?_
      refine z_aload_n 2 dX6_countOthersThan_5 rfl rfl ?_
      refine z_get (v := .ref v) 0 hg rfl inX6 (by decide) zw_88 rfl rfl dX6_countOthersThan_6 ?_
      refine z_alen (v := nI n) hv (by decide) rfl dX6_countOthersThan_9 ?_
      refine z_icmp_ge (tgt := 37) dX6_countOthersThan_10 (by decide) (fun c_10 => ?_) (fun c_10 => ?_)
      · skip
        have hx_k := zge (by omega) hk_k c_10
        refine z_iload_n 1 dX6_countOthersThan_37 rfl rfl ?_
        exact z_iret rfl dX6_countOthersThan_38 (zo_i ho9 (by rw [zOth, hx_k])) (zo_h hh9 (by rfl)) (Nat.zero_le _) (Nat.zero_le _)
      · skip
        have hx_k := zlt' (by omega) hk_k c_10
        refine z_iload_n 1 dX6_countOthersThan_13 rfl rfl ?_
        refine z_aload_n 2 dX6_countOthersThan_14 rfl rfl ?_
        refine z_get (v := .ref v) 0 hg rfl inX6 (by decide) zw_88 rfl rfl dX6_countOthersThan_15 ?_
        refine z_iload_n 0 dX6_countOthersThan_18 rfl rfl ?_
        refine z_iald (f := f) (n := n) hv (by exact vp_in_nI hx_k (by omega)) dX6_countOthersThan_19 ?_
        refine z_top (v2 := .int (f k)) (by rw [nI_clamp (by omega)]) ?_
        refine z_iload_n 3 dX6_countOthersThan_20 rfl rfl ?_
        refine z_icmp_eq (tgt := 28) dX6_countOthersThan_21 (by decide) (fun c_21 => ?_) (fun c_21 => ?_)
        · skip
          refine z_iconst (v := 0) dX6_countOthersThan_28 (by decide) ?_
          refine z_iadd dX6_countOthersThan_29 ?_
          refine z_istore_n (lv' := [(2, .int ((nI (zCt (fun j => !(f j == w)) k)) + 0)), (3, .int (nI k)), (0, .ref g), (1, .int w)]) dX6_countOthersThan_30 rfl (by decide) rfl ?_
          refine z_iinc (v := nI (k + 1)) (lv' := [(3, .int (nI (k + 1))), (2, .int ((nI (zCt (fun j => !(f j == w)) k)) + 0)), (0, .ref g), (1, .int w)]) 1 dX6_countOthersThan_31 rfl (nI_1 k) (by decide) rfl ?_
          refine z_goto (tgt := 4) dX6_countOthersThan_34 (by decide) ?_
          refine z_sub [0, 1, 2, 3] (lv' := [(3, .int (nI (k + 1))), (2, .int ((nI (zCt (fun j => !(f j == w)) k)) + 0)), (0, .ref g), (1, .int w)]) rfl ?_
          refine z_eqs (lv2 := [(3, .int (nI (k + 1))), (2, .int (nI (zCt (fun j => !(f j == w)) (k + 1)))), (0, .ref g), (1, .int w)]) (h2 := h) (by first | rw [zCt_t (p := fun j => !(f j == w)) (by simpa using c_21)] | rw [zCt_f (p := fun j => !(f j == w)) (by simpa using c_21)]) (by rfl) ?_
          exact ih4 (k + 1) (by omega) (by omega)
        · skip
          refine z_iconst (v := 1) dX6_countOthersThan_24 (by decide) ?_
          refine z_goto (tgt := 29) dX6_countOthersThan_25 (by decide) ?_
          refine z_iadd dX6_countOthersThan_29 ?_
          refine z_istore_n (lv' := [(2, .int ((nI (zCt (fun j => !(f j == w)) k)) + 1)), (3, .int (nI k)), (0, .ref g), (1, .int w)]) dX6_countOthersThan_30 rfl (by decide) rfl ?_
          refine z_iinc (v := nI (k + 1)) (lv' := [(3, .int (nI (k + 1))), (2, .int ((nI (zCt (fun j => !(f j == w)) k)) + 1)), (0, .ref g), (1, .int w)]) 1 dX6_countOthersThan_31 rfl (nI_1 k) (by decide) rfl ?_
          refine z_goto (tgt := 4) dX6_countOthersThan_34 (by decide) ?_
          refine z_sub [0, 1, 2, 3] (lv' := [(3, .int (nI (k + 1))), (2, .int ((nI (zCt (fun j => !(f j == w)) k)) + 1)), (0, .ref g), (1, .int w)]) rfl ?_
          refine z_eqs (lv2 := [(3, .int (nI (k + 1))), (2, .int (nI (zCt (fun j => !(f j == w)) (k + 1)))), (0, .ref g), (1, .int w)]) (h2 := h) (by first | rw [zCt_t (p := fun j => !(f j == w)) (by simpa using c_21)] | rw [zCt_f (p := fun j => !(f j == w)) (by simpa using c_21)]) (by rfl) ?_
          exact ih4 (k + 1) (by omega) (by omega)
  refine z_sub [0, 1, 2, 3] (lv' := [(3, .int 0), (2, .int 0), (0, .ref g), (1, .int w)]) rfl ?_
  refine z_eqs (lv2 := [(3, .int (nI 0)), (2, .int (nI (zCt (fun j => !(f j == w)) 0))), (0, .ref g), (1, .int w)]) (h2 := h) (by rfl) (by rfl) ?_
  exact L4_1 (n + 1) 0 (Nat.zero_le _) (by omega)

