theorem zFl_sS (g f : Nat → UInt32) {n : Nat} (hn : n < 16) : zPutS (zFl g f n) (nI n) (zSh g (nI n)) = zFl g f (n + 1) := by
  have h1 : ¬ nI n < 0 := nI_pos (by omega)
  have h2 : ¬ nI 16 ≤ nI n := nI_ge hn (by decide)
  unfold zPutS zSh
  rw [if_neg h1, if_neg h2, if_neg h1, if_neg h2, nI_clamp (by omega)]
  funext j
  unfold vf_upd zFl
  by_cases h : j = n
  · subst h; simp
  · rw [if_neg h]
    by_cases h3 : j < n
    · rw [if_pos h3, if_pos (by omega)]
    · rw [if_neg h3, if_neg (by omega)]
/-- the loom S1 as a copy of S leaves it -/
def zCp (S S1 : zS) : zS := (S.1, S.2.1, S.2.2.1, S.2.2.2.1, S.2.2.2.2.1, zFl S.2.2.2.2.2.1 S1.2.2.2.2.2.1 320, zFl S.2.2.2.2.2.2.1 S1.2.2.2.2.2.2.1 320, zFl S.2.2.2.2.2.2.2.1 S1.2.2.2.2.2.2.2.1 320, zFl S.2.2.2.2.2.2.2.2.1 S1.2.2.2.2.2.2.2.2.1 320, zFl S.2.2.2.2.2.2.2.2.2.1 S1.2.2.2.2.2.2.2.2.2.1 20, S.2.2.2.2.2.2.2.2.2.2.1, zFl S.2.2.2.2.2.2.2.2.2.2.2.1 S1.2.2.2.2.2.2.2.2.2.2.2.1 16, zFl S.2.2.2.2.2.2.2.2.2.2.2.2.1 S1.2.2.2.2.2.2.2.2.2.2.2.2.1 16, zFl S.2.2.2.2.2.2.2.2.2.2.2.2.2.1 S1.2.2.2.2.2.2.2.2.2.2.2.2.2.1 16, zFl S.2.2.2.2.2.2.2.2.2.2.2.2.2.2.1 S1.2.2.2.2.2.2.2.2.2.2.2.2.2.2.1 16, zFl S.2.2.2.2.2.2.2.2.2.2.2.2.2.2.2 S1.2.2.2.2.2.2.2.2.2.2.2.2.2.2.2 16)

set_option maxHeartbeats 4000000 in
set_option maxRecDepth 100000 in
theorem c_lcopy_24_1 {G : zT} {c : Nat} {r : Nat} {w : Nat} {lim : Nat} {tol : Int32} {cart : Nat → Int32} {wov : Nat → Int32} {lot : Nat → Int32} {sew : Nat → Int32} {mis : Nat → Int32} {cnt : Nat} {col : Nat → Int32} {len : Nat → Int32} {lef : Nat → Int32} {sbt : Nat → Int32} {shd : Nat → UInt32} {c1 : Nat} {r1 : Nat} {w1 : Nat} {lim1 : Nat} {tol1 : Int32} {cart1 : Nat → Int32} {wov1 : Nat → Int32} {lot1 : Nat → Int32} {sew1 : Nat → Int32} {mis1 : Nat → Int32} {cnt1 : Nat} {col1 : Nat → Int32} {len1 : Nat → Int32} {lef1 : Nat → Int32} {sbt1 : Nat → Int32} {shd1 : Nat → UInt32} {sa sb sc sd : zS} {hcn hnx tln wrd pos : Nat} {byt num : Nat → Int32} {flt : Int32} {Y : zYr} {out : Nat → Int64} (hG : zAl G = false) : zRun G mX5_copyFrom 0 0 [.ref 35, .ref 12] (zHp (c, r, w, lim, tol, cart, wov, lot, sew, mis, cnt, col, len, lef, sbt, shd) ((c1, r1, w1, lim1, tol1, cart1, wov1, lot1, sew1, mis1, cnt1, col1, len1, lef1, sbt1, shd1), sb, sc, sd, hcn, hnx, byt, tln, num, wrd, pos, flt) Y out) (.inr none) (zHp (c, r, w, lim, tol, cart, wov, lot, sew, mis, cnt, col, len, lef, sbt, shd) ((c1, r1, w1, lim1, tol1, cart1, wov1, lot1, sew1, mis1, cnt, (zFl col col1 16), (zFl len len1 16), (zFl lef lef1 16), (zFl sbt sbt1 16), (zFl shd shd1 16)), sb, sc, sd, hcn, hnx, byt, tln, num, wrd, pos, flt) Y out) := by
  refine zRun_of (by decide +kernel) rfl rfl (Nat.le_of_ble_eq_true rfl) ?_
  suffices hs : ∀ (o9 : zO) (h9 : zH), (Sum.inr none : zO) = o9 → (zHp (c, r, w, lim, tol, cart, wov, lot, sew, mis, cnt, col, len, lef, sbt, shd) ((c1, r1, w1, lim1, tol1, cart1, wov1, lot1, sew1, mis1, cnt, (zFl col col1 16), (zFl len len1 16), (zFl lef lef1 16), (zFl sbt sbt1 16), (zFl shd shd1 16)), sb, sc, sd, hcn, hnx, byt, tln, num, wrd, pos, flt) Y out) = h9 → zPW G mX5_copyFrom 0 0 o9 h9 0 0 0 [(0, .ref 35), (1, .ref 12)] [] (zHp (c, r, w, lim, tol, cart, wov, lot, sew, mis, cnt, col, len, lef, sbt, shd) ((c1, r1, w1, lim1, tol1, cart1, wov1, lot1, sew1, mis1, cnt1, col1, len1, lef1, sbt1, shd1), sb, sc, sd, hcn, hnx, byt, tln, num, wrd, pos, flt) Y out) from hs _ _ rfl rfl
  intro o9 h9 ho9 hh9
  refine z_aload_n 0 dX5_copyFrom_0 rfl rfl ?_
  refine z_aload_n 1 dX5_copyFrom_1 rfl rfl ?_
  refine z_get (v := .int (nI cnt)) 0 zgo_12 rfl inX5 (by decide) zw_100 rfl rfl dX5_copyFrom_2 ?_
  refine z_puti 0 tyX5 zgo_35 rfl inX5 tyX5_ok nmX5 (by decide) zw_100 rfl rfl (by decide +kernel) (Nat.le_of_ble_eq_true rfl) dX5_copyFrom_5 ?_
  refine z_eqh (h2 := (zHp (c, r, w, lim, tol, cart, wov, lot, sew, mis, cnt, col, len, lef, sbt, shd) ((c1, r1, w1, lim1, tol1, cart1, wov1, lot1, sew1, mis1, cnt, col1, len1, lef1, sbt1, shd1), sb, sc, sd, hcn, hnx, byt, tln, num, wrd, pos, flt) Y out)) zsf_35_0 ?_
  refine z_aload_n 0 dX5_copyFrom_8 rfl rfl ?_
  refine z_get (v := .ref 36) 1 zgo_35 rfl inX5 (by decide) zw_103 rfl rfl dX5_copyFrom_9 ?_
  refine z_aload_n 1 dX5_copyFrom_12 rfl rfl ?_
  refine z_get (v := .ref 13) 1 zgo_12 rfl inX5 (by decide) zw_103 rfl rfl dX5_copyFrom_13 ?_
  refine z_callV (N := mX6_copyFrom) 1 [.ref 13] [] lX6_copyFrom ⟨zw_623, zw_615, zw_616⟩ rfl zgo_36 rfl rfl (Nat.le_of_ble_eq_true rfl) (by decide) ⟨zlt, zlt⟩ ⟨Nat.zero_le _, Nat.zero_le _⟩ zal (c_nCopy (g := 36) (v := 37) (g2 := 13) (v2 := 14) (f := col1) (f2 := col) (h1 := (zHp (c, r, w, lim, tol, cart, wov, lot, sew, mis, cnt, col, len, lef, sbt, shd) ((c1, r1, w1, lim1, tol1, cart1, wov1, lot1, sew1, mis1, cnt, (zFl col col1 16), len1, lef1, sbt1, shd1), sb, sc, sd, hcn, hnx, byt, tln, num, wrd, pos, flt) Y out)) (n := 16) (by omega) zlt zgo_36 zga_37 zgo_13 zga_14 (by decide) zsa_37) dX5_copyFrom_16 ?_
  refine z_aload_n 0 dX5_copyFrom_19 rfl rfl ?_
  refine z_get (v := .ref 38) 2 zgo_35 rfl inX5 (by decide) zw_105 rfl rfl dX5_copyFrom_20 ?_
  refine z_aload_n 1 dX5_copyFrom_23 rfl rfl ?_
  refine z_get (v := .ref 15) 2 zgo_12 rfl inX5 (by decide) zw_105 rfl rfl dX5_copyFrom_24 ?_
  refine z_callV (N := mX6_copyFrom) 1 [.ref 15] [] lX6_copyFrom ⟨zw_623, zw_615, zw_616⟩ rfl zgo_38 rfl rfl (Nat.le_of_ble_eq_true rfl) (by decide) ⟨zlt, zlt⟩ ⟨Nat.zero_le _, Nat.zero_le _⟩ zal (c_nCopy (g := 38) (v := 39) (g2 := 15) (v2 := 16) (f := len1) (f2 := len) (h1 := (zHp (c, r, w, lim, tol, cart, wov, lot, sew, mis, cnt, col, len, lef, sbt, shd) ((c1, r1, w1, lim1, tol1, cart1, wov1, lot1, sew1, mis1, cnt, (zFl col col1 16), (zFl len len1 16), lef1, sbt1, shd1), sb, sc, sd, hcn, hnx, byt, tln, num, wrd, pos, flt) Y out)) (n := 16) (by omega) zlt zgo_38 zga_39 zgo_15 zga_16 (by decide) zsa_39) dX5_copyFrom_27 ?_
  refine z_aload_n 0 dX5_copyFrom_30 rfl rfl ?_
  refine z_get (v := .ref 40) 3 zgo_35 rfl inX5 (by decide) zw_107 rfl rfl dX5_copyFrom_31 ?_
  refine z_aload_n 1 dX5_copyFrom_34 rfl rfl ?_
  refine z_get (v := .ref 17) 3 zgo_12 rfl inX5 (by decide) zw_107 rfl rfl dX5_copyFrom_35 ?_
  refine z_callV (N := mX6_copyFrom) 1 [.ref 17] [] lX6_copyFrom ⟨zw_623, zw_615, zw_616⟩ rfl zgo_40 rfl rfl (Nat.le_of_ble_eq_true rfl) (by decide) ⟨zlt, zlt⟩ ⟨Nat.zero_le _, Nat.zero_le _⟩ zal (c_nCopy (g := 40) (v := 41) (g2 := 17) (v2 := 18) (f := lef1) (f2 := lef) (h1 := (zHp (c, r, w, lim, tol, cart, wov, lot, sew, mis, cnt, col, len, lef, sbt, shd) ((c1, r1, w1, lim1, tol1, cart1, wov1, lot1, sew1, mis1, cnt, (zFl col col1 16), (zFl len len1 16), (zFl lef lef1 16), sbt1, shd1), sb, sc, sd, hcn, hnx, byt, tln, num, wrd, pos, flt) Y out)) (n := 16) (by omega) zlt zgo_40 zga_41 zgo_17 zga_18 (by decide) zsa_41) dX5_copyFrom_38 ?_
  refine z_aload_n 0 dX5_copyFrom_41 rfl rfl ?_
  refine z_get (v := .ref 42) 4 zgo_35 rfl inX5 (by decide) zw_109 rfl rfl dX5_copyFrom_42 ?_
  refine z_aload_n 1 dX5_copyFrom_45 rfl rfl ?_
  refine z_get (v := .ref 19) 4 zgo_12 rfl inX5 (by decide) zw_109 rfl rfl dX5_copyFrom_46 ?_
  refine z_callV (N := mX6_copyFrom) 1 [.ref 19] [] lX6_copyFrom ⟨zw_623, zw_615, zw_616⟩ rfl zgo_42 rfl rfl (Nat.le_of_ble_eq_true rfl) (by decide) ⟨zlt, zlt⟩ ⟨Nat.zero_le _, Nat.zero_le _⟩ zal (c_nCopy (g := 42) (v := 43) (g2 := 19) (v2 := 20) (f := sbt1) (f2 := sbt) (h1 := (zHp (c, r, w, lim, tol, cart, wov, lot, sew, mis, cnt, col, len, lef, sbt, shd) ((c1, r1, w1, lim1, tol1, cart1, wov1, lot1, sew1, mis1, cnt, (zFl col col1 16), (zFl len len1 16), (zFl lef lef1 16), (zFl sbt sbt1 16), shd1), sb, sc, sd, hcn, hnx, byt, tln, num, wrd, pos, flt) Y out)) (n := 16) (by omega) zlt zgo_42 zga_43 zgo_19 zga_20 (by decide) zsa_43) dX5_copyFrom_49 ?_
  refine z_iconst (v := 0) dX5_copyFrom_52 (by decide) ?_
  refine z_istore_n (lv' := [(2, .int 0), (0, .ref 35), (1, .ref 12)]) dX5_copyFrom_53 rfl (by decide) rfl ?_
  have L54_1 : ∀ (d k : Nat), k ≤ 16 → 16 + 1 ≤ k + d → zPW G mX5_copyFrom 0 0 o9 h9 0 0 54 [(2, .int (nI k)), (0, .ref 35), (1, .ref 12)] [] (zHp (c, r, w, lim, tol, cart, wov, lot, sew, mis, cnt, col, len, lef, sbt, shd) ((c1, r1, w1, lim1, tol1, cart1, wov1, lot1, sew1, mis1, cnt, (zFl col col1 16), (zFl len len1 16), (zFl lef lef1 16), (zFl sbt sbt1 16), (zFl shd shd1 k)), sb, sc, sd, hcn, hnx, byt, tln, num, wrd, pos, flt) Y out) := by
    intro d
    induction d with
    | zero => intro k hk hd; exact absurd hd (by omega)
    | succ d ih =>
      intro k hk_k hd_k
      have ih54 := ih
      clear ih
      refine z_iload_n 0 dX5_copyFrom_54 rfl rfl ?_
      refine z_bipush (v := nI 16) dX5_copyFrom_55 (by decide) ?_
      refine z_icmp_ge (tgt := 76) dX5_copyFrom_57 (by decide) (fun c_57 => ?_) (fun c_57 => ?_)
      · skip
        have hx_k := zge (by omega) hk_k c_57
        exact z_vret rfl dX5_copyFrom_76 ho9.symm (zo_h hh9 (by rw [hx_k])) (Nat.zero_le _) (Nat.zero_le _)
      · skip
        have hx_k := zlt' (by omega) hk_k c_57
        refine z_aload_n 1 dX5_copyFrom_60 rfl rfl ?_
        refine z_iload_n 0 dX5_copyFrom_61 rfl rfl ?_
        refine z_aload_n 2 dX5_copyFrom_62 rfl rfl ?_
        refine z_iload_n 0 dX5_copyFrom_63 rfl rfl ?_
        refine z_callV (N := mX5_shadeOf) 1 [.int (nI k)] [.int (nI k), .ref 35] lX5_shadeOf ⟨zw_624, zw_335, zw_336⟩ rfl zgo_12 rfl rfl (Nat.le_of_ble_eq_true rfl) (by decide) ⟨zlt, zlt⟩ ⟨Nat.zero_le _, Nat.zero_le _⟩ (fun _ => rfl) (c_lShade (g := 12) (v := 21) (f := shd) zlt zgo_12 zga_21 (nI k)) dX5_copyFrom_64 ?_
        refine z_callV (N := mX5_putShade) 2 [.int (nI k), .float (zSh shd (nI k))] [] lX5_putShade ⟨zw_625, zw_627, zw_28⟩ rfl zgo_35 rfl rfl (Nat.le_of_ble_eq_true rfl) (by decide) ⟨zlt, zlt⟩ ⟨Nat.zero_le _, Nat.zero_le _⟩ zal (c_lPutShade (g := 35) (v := 44) (f := (zFl shd shd1 k)) (h1 := (zHp (c, r, w, lim, tol, cart, wov, lot, sew, mis, cnt, col, len, lef, sbt, shd) ((c1, r1, w1, lim1, tol1, cart1, wov1, lot1, sew1, mis1, cnt, (zFl col col1 16), (zFl len len1 16), (zFl lef lef1 16), (zFl sbt sbt1 16), (zPutS (zFl shd shd1 k) (nI k) (zSh shd (nI k)))), sb, sc, sd, hcn, hnx, byt, tln, num, wrd, pos, flt) Y out)) zlt zgo_35 zga_44 (nI k) (zSh shd (nI k)) zsa_44) dX5_copyFrom_67 ?_
        refine z_iinc (v := nI (k + 1)) (lv' := [(2, .int (nI (k + 1))), (0, .ref 35), (1, .ref 12)]) 0 dX5_copyFrom_70 rfl (nI_1 k) (by decide) rfl ?_
        refine z_goto (tgt := 54) dX5_copyFrom_73 (by decide) ?_
        refine z_sub [0, 1, 2] (lv' := [(2, .int (nI (k + 1))), (0, .ref 35), (1, .ref 12)]) rfl ?_
        refine z_eqs (lv2 := [(2, .int (nI (k + 1))), (0, .ref 35), (1, .ref 12)]) (h2 := (zHp (c, r, w, lim, tol, cart, wov, lot, sew, mis, cnt, col, len, lef, sbt, shd) ((c1, r1, w1, lim1, tol1, cart1, wov1, lot1, sew1, mis1, cnt, (zFl col col1 16), (zFl len len1 16), (zFl lef lef1 16), (zFl sbt sbt1 16), (zFl shd shd1 (k + 1))), sb, sc, sd, hcn, hnx, byt, tln, num, wrd, pos, flt) Y out)) (by rfl) (by rw [zFl_sS _ _ hx_k]) ?_
        exact ih54 (k + 1) (by omega) (by omega)
  refine z_sub [0, 1, 2] (lv' := [(2, .int 0), (0, .ref 35), (1, .ref 12)]) rfl ?_
  refine z_eqs (lv2 := [(2, .int (nI 0)), (0, .ref 35), (1, .ref 12)]) (h2 := (zHp (c, r, w, lim, tol, cart, wov, lot, sew, mis, cnt, col, len, lef, sbt, shd) ((c1, r1, w1, lim1, tol1, cart1, wov1, lot1, sew1, mis1, cnt, (zFl col col1 16), (zFl len len1 16), (zFl lef lef1 16), (zFl sbt sbt1 16), (zFl shd shd1 0)), sb, sc, sd, hcn, hnx, byt, tln, num, wrd, pos, flt) Y out)) (by rfl) (by rw [zFl_0]) ?_
  exact L54_1 (16 + 1) 0 (Nat.zero_le _) (by omega)

set_option maxHeartbeats 4000000 in
set_option maxRecDepth 100000 in
theorem c_copy_24_1 {G : zT} {c : Nat} {r : Nat} {w : Nat} {lim : Nat} {tol : Int32} {cart : Nat → Int32} {wov : Nat → Int32} {lot : Nat → Int32} {sew : Nat → Int32} {mis : Nat → Int32} {cnt : Nat} {col : Nat → Int32} {len : Nat → Int32} {lef : Nat → Int32} {sbt : Nat → Int32} {shd : Nat → UInt32} {c1 : Nat} {r1 : Nat} {w1 : Nat} {lim1 : Nat} {tol1 : Int32} {cart1 : Nat → Int32} {wov1 : Nat → Int32} {lot1 : Nat → Int32} {sew1 : Nat → Int32} {mis1 : Nat → Int32} {cnt1 : Nat} {col1 : Nat → Int32} {len1 : Nat → Int32} {lef1 : Nat → Int32} {sbt1 : Nat → Int32} {shd1 : Nat → UInt32} {sa sb sc sd : zS} {hcn hnx tln wrd pos : Nat} {byt num : Nat → Int32} {flt : Int32} {Y : zYr} {out : Nat → Int64} (hG : zAl G = false) : zRun G mX4_copyFrom 0 0 [.ref 24, .ref 1] (zHp (c, r, w, lim, tol, cart, wov, lot, sew, mis, cnt, col, len, lef, sbt, shd) ((c1, r1, w1, lim1, tol1, cart1, wov1, lot1, sew1, mis1, cnt1, col1, len1, lef1, sbt1, shd1), sb, sc, sd, hcn, hnx, byt, tln, num, wrd, pos, flt) Y out) (.inr none) (zHp (c, r, w, lim, tol, cart, wov, lot, sew, mis, cnt, col, len, lef, sbt, shd) ((c, r, w, lim, tol, (zFl cart cart1 320), (zFl wov wov1 320), (zFl lot lot1 320), (zFl sew sew1 320), (zFl mis mis1 20), cnt, (zFl col col1 16), (zFl len len1 16), (zFl lef lef1 16), (zFl sbt sbt1 16), (zFl shd shd1 16)), sb, sc, sd, hcn, hnx, byt, tln, num, wrd, pos, flt) Y out) := by
  refine zRun_of (by decide +kernel) rfl rfl (Nat.le_of_ble_eq_true rfl) ?_
  suffices hs : ∀ (o9 : zO) (h9 : zH), (Sum.inr none : zO) = o9 → (zHp (c, r, w, lim, tol, cart, wov, lot, sew, mis, cnt, col, len, lef, sbt, shd) ((c, r, w, lim, tol, (zFl cart cart1 320), (zFl wov wov1 320), (zFl lot lot1 320), (zFl sew sew1 320), (zFl mis mis1 20), cnt, (zFl col col1 16), (zFl len len1 16), (zFl lef lef1 16), (zFl sbt sbt1 16), (zFl shd shd1 16)), sb, sc, sd, hcn, hnx, byt, tln, num, wrd, pos, flt) Y out) = h9 → zPW G mX4_copyFrom 0 0 o9 h9 0 0 0 [(0, .ref 24), (1, .ref 1)] [] (zHp (c, r, w, lim, tol, cart, wov, lot, sew, mis, cnt, col, len, lef, sbt, shd) ((c1, r1, w1, lim1, tol1, cart1, wov1, lot1, sew1, mis1, cnt1, col1, len1, lef1, sbt1, shd1), sb, sc, sd, hcn, hnx, byt, tln, num, wrd, pos, flt) Y out) from hs _ _ rfl rfl
  intro o9 h9 ho9 hh9
  refine z_aload_n 0 dX4_copyFrom_0 rfl rfl ?_
  refine z_aload_n 1 dX4_copyFrom_1 rfl rfl ?_
  refine z_get (v := .int (nI c)) 0 zgo_1 rfl inX4 (by decide) zw_130 rfl rfl dX4_copyFrom_2 ?_
  refine z_puti 0 tyX4 zgo_24 rfl inX4 tyX4_ok nmX4 (by decide) zw_130 rfl rfl (by decide +kernel) (Nat.le_of_ble_eq_true rfl) dX4_copyFrom_5 ?_
  refine z_eqh (h2 := (zHp (c, r, w, lim, tol, cart, wov, lot, sew, mis, cnt, col, len, lef, sbt, shd) ((c, r1, w1, lim1, tol1, cart1, wov1, lot1, sew1, mis1, cnt1, col1, len1, lef1, sbt1, shd1), sb, sc, sd, hcn, hnx, byt, tln, num, wrd, pos, flt) Y out)) zsf_24_0 ?_
  refine z_aload_n 0 dX4_copyFrom_8 rfl rfl ?_
  refine z_aload_n 1 dX4_copyFrom_9 rfl rfl ?_
  refine z_get (v := .int (nI r)) 1 zgo_1 rfl inX4 (by decide) zw_132 rfl rfl dX4_copyFrom_10 ?_
  refine z_puti 1 tyX4 zgo_24 rfl inX4 tyX4_ok nmX4 (by decide) zw_132 rfl rfl (by decide +kernel) (Nat.le_of_ble_eq_true rfl) dX4_copyFrom_13 ?_
  refine z_eqh (h2 := (zHp (c, r, w, lim, tol, cart, wov, lot, sew, mis, cnt, col, len, lef, sbt, shd) ((c, r, w1, lim1, tol1, cart1, wov1, lot1, sew1, mis1, cnt1, col1, len1, lef1, sbt1, shd1), sb, sc, sd, hcn, hnx, byt, tln, num, wrd, pos, flt) Y out)) zsf_24_1 ?_
  refine z_aload_n 0 dX4_copyFrom_16 rfl rfl ?_
  refine z_aload_n 1 dX4_copyFrom_17 rfl rfl ?_
  refine z_get (v := .int (nI w)) 2 zgo_1 rfl inX4 (by decide) zw_134 rfl rfl dX4_copyFrom_18 ?_
  refine z_puti 2 tyX4 zgo_24 rfl inX4 tyX4_ok nmX4 (by decide) zw_134 rfl rfl (by decide +kernel) (Nat.le_of_ble_eq_true rfl) dX4_copyFrom_21 ?_
  refine z_eqh (h2 := (zHp (c, r, w, lim, tol, cart, wov, lot, sew, mis, cnt, col, len, lef, sbt, shd) ((c, r, w, lim1, tol1, cart1, wov1, lot1, sew1, mis1, cnt1, col1, len1, lef1, sbt1, shd1), sb, sc, sd, hcn, hnx, byt, tln, num, wrd, pos, flt) Y out)) zsf_24_2 ?_
  refine z_aload_n 0 dX4_copyFrom_24 rfl rfl ?_
  refine z_aload_n 1 dX4_copyFrom_25 rfl rfl ?_
  refine z_get (v := .int (nI lim)) 3 zgo_1 rfl inX4 (by decide) zw_136 rfl rfl dX4_copyFrom_26 ?_
  refine z_puti 3 tyX4 zgo_24 rfl inX4 tyX4_ok nmX4 (by decide) zw_136 rfl rfl (by decide +kernel) (Nat.le_of_ble_eq_true rfl) dX4_copyFrom_29 ?_
  refine z_eqh (h2 := (zHp (c, r, w, lim, tol, cart, wov, lot, sew, mis, cnt, col, len, lef, sbt, shd) ((c, r, w, lim, tol1, cart1, wov1, lot1, sew1, mis1, cnt1, col1, len1, lef1, sbt1, shd1), sb, sc, sd, hcn, hnx, byt, tln, num, wrd, pos, flt) Y out)) zsf_24_3 ?_
  refine z_aload_n 0 dX4_copyFrom_32 rfl rfl ?_
  refine z_aload_n 1 dX4_copyFrom_33 rfl rfl ?_
  refine z_get (v := .int tol) 4 zgo_1 rfl inX4 (by decide) zw_138 rfl rfl dX4_copyFrom_34 ?_
  refine z_puti 4 tyX4 zgo_24 rfl inX4 tyX4_ok nmX4 (by decide) zw_138 rfl rfl (by decide +kernel) (Nat.le_of_ble_eq_true rfl) dX4_copyFrom_37 ?_
  refine z_eqh (h2 := (zHp (c, r, w, lim, tol, cart, wov, lot, sew, mis, cnt, col, len, lef, sbt, shd) ((c, r, w, lim, tol, cart1, wov1, lot1, sew1, mis1, cnt1, col1, len1, lef1, sbt1, shd1), sb, sc, sd, hcn, hnx, byt, tln, num, wrd, pos, flt) Y out)) zsf_24_4 ?_
  refine z_aload_n 0 dX4_copyFrom_40 rfl rfl ?_
  refine z_get (v := .ref 25) 5 zgo_24 rfl inX4 (by decide) zw_139 rfl rfl dX4_copyFrom_41 ?_
  refine z_aload_n 1 dX4_copyFrom_44 rfl rfl ?_
  refine z_get (v := .ref 2) 5 zgo_1 rfl inX4 (by decide) zw_139 rfl rfl dX4_copyFrom_45 ?_
  refine z_callV (N := mX2_copyFrom) 1 [.ref 2] [] lX2_copyFrom ⟨zw_610, zw_611, zw_612⟩ rfl zgo_25 rfl rfl (Nat.le_of_ble_eq_true rfl) (by decide) ⟨zlt, zlt⟩ ⟨Nat.zero_le _, Nat.zero_le _⟩ zal (c_gCopy (g := 25) (v := 26) (g2 := 2) (v2 := 3) (f := cart1) (f2 := cart) (h1 := (zHp (c, r, w, lim, tol, cart, wov, lot, sew, mis, cnt, col, len, lef, sbt, shd) ((c, r, w, lim, tol, (zFl cart cart1 320), wov1, lot1, sew1, mis1, cnt1, col1, len1, lef1, sbt1, shd1), sb, sc, sd, hcn, hnx, byt, tln, num, wrd, pos, flt) Y out)) zlt zgo_25 zga_26 zgo_2 zga_3 (by decide) zsa_26) dX4_copyFrom_48 ?_
  refine z_aload_n 0 dX4_copyFrom_51 rfl rfl ?_
  refine z_get (v := .ref 27) 6 zgo_24 rfl inX4 (by decide) zw_141 rfl rfl dX4_copyFrom_52 ?_
  refine z_aload_n 1 dX4_copyFrom_55 rfl rfl ?_
  refine z_get (v := .ref 4) 6 zgo_1 rfl inX4 (by decide) zw_141 rfl rfl dX4_copyFrom_56 ?_
  refine z_callV (N := mX2_copyFrom) 1 [.ref 4] [] lX2_copyFrom ⟨zw_610, zw_611, zw_612⟩ rfl zgo_27 rfl rfl (Nat.le_of_ble_eq_true rfl) (by decide) ⟨zlt, zlt⟩ ⟨Nat.zero_le _, Nat.zero_le _⟩ zal (c_gCopy (g := 27) (v := 28) (g2 := 4) (v2 := 5) (f := wov1) (f2 := wov) (h1 := (zHp (c, r, w, lim, tol, cart, wov, lot, sew, mis, cnt, col, len, lef, sbt, shd) ((c, r, w, lim, tol, (zFl cart cart1 320), (zFl wov wov1 320), lot1, sew1, mis1, cnt1, col1, len1, lef1, sbt1, shd1), sb, sc, sd, hcn, hnx, byt, tln, num, wrd, pos, flt) Y out)) zlt zgo_27 zga_28 zgo_4 zga_5 (by decide) zsa_28) dX4_copyFrom_59 ?_
  refine z_aload_n 0 dX4_copyFrom_62 rfl rfl ?_
  refine z_get (v := .ref 29) 7 zgo_24 rfl inX4 (by decide) zw_142 rfl rfl dX4_copyFrom_63 ?_
  refine z_aload_n 1 dX4_copyFrom_66 rfl rfl ?_
  refine z_get (v := .ref 6) 7 zgo_1 rfl inX4 (by decide) zw_142 rfl rfl dX4_copyFrom_67 ?_
  refine z_callV (N := mX2_copyFrom) 1 [.ref 6] [] lX2_copyFrom ⟨zw_610, zw_611, zw_612⟩ rfl zgo_29 rfl rfl (Nat.le_of_ble_eq_true rfl) (by decide) ⟨zlt, zlt⟩ ⟨Nat.zero_le _, Nat.zero_le _⟩ zal (c_gCopy (g := 29) (v := 30) (g2 := 6) (v2 := 7) (f := lot1) (f2 := lot) (h1 := (zHp (c, r, w, lim, tol, cart, wov, lot, sew, mis, cnt, col, len, lef, sbt, shd) ((c, r, w, lim, tol, (zFl cart cart1 320), (zFl wov wov1 320), (zFl lot lot1 320), sew1, mis1, cnt1, col1, len1, lef1, sbt1, shd1), sb, sc, sd, hcn, hnx, byt, tln, num, wrd, pos, flt) Y out)) zlt zgo_29 zga_30 zgo_6 zga_7 (by decide) zsa_30) dX4_copyFrom_70 ?_
  refine z_aload_n 0 dX4_copyFrom_73 rfl rfl ?_
  refine z_get (v := .ref 31) 8 zgo_24 rfl inX4 (by decide) zw_143 rfl rfl dX4_copyFrom_74 ?_
  refine z_aload_n 1 dX4_copyFrom_77 rfl rfl ?_
  refine z_get (v := .ref 8) 8 zgo_1 rfl inX4 (by decide) zw_143 rfl rfl dX4_copyFrom_78 ?_
  refine z_callV (N := mX2_copyFrom) 1 [.ref 8] [] lX2_copyFrom ⟨zw_610, zw_611, zw_612⟩ rfl zgo_31 rfl rfl (Nat.le_of_ble_eq_true rfl) (by decide) ⟨zlt, zlt⟩ ⟨Nat.zero_le _, Nat.zero_le _⟩ zal (c_gCopy (g := 31) (v := 32) (g2 := 8) (v2 := 9) (f := sew1) (f2 := sew) (h1 := (zHp (c, r, w, lim, tol, cart, wov, lot, sew, mis, cnt, col, len, lef, sbt, shd) ((c, r, w, lim, tol, (zFl cart cart1 320), (zFl wov wov1 320), (zFl lot lot1 320), (zFl sew sew1 320), mis1, cnt1, col1, len1, lef1, sbt1, shd1), sb, sc, sd, hcn, hnx, byt, tln, num, wrd, pos, flt) Y out)) zlt zgo_31 zga_32 zgo_8 zga_9 (by decide) zsa_32) dX4_copyFrom_81 ?_
  refine z_aload_n 0 dX4_copyFrom_84 rfl rfl ?_
  refine z_get (v := .ref 33) 9 zgo_24 rfl inX4 (by decide) zw_144 rfl rfl dX4_copyFrom_85 ?_
  refine z_aload_n 1 dX4_copyFrom_88 rfl rfl ?_
  refine z_get (v := .ref 10) 9 zgo_1 rfl inX4 (by decide) zw_144 rfl rfl dX4_copyFrom_89 ?_
  refine z_callV (N := mX6_copyFrom) 1 [.ref 10] [] lX6_copyFrom ⟨zw_614, zw_615, zw_616⟩ rfl zgo_33 rfl rfl (Nat.le_of_ble_eq_true rfl) (by decide) ⟨zlt, zlt⟩ ⟨Nat.zero_le _, Nat.zero_le _⟩ zal (c_nCopy (g := 33) (v := 34) (g2 := 10) (v2 := 11) (f := mis1) (f2 := mis) (h1 := (zHp (c, r, w, lim, tol, cart, wov, lot, sew, mis, cnt, col, len, lef, sbt, shd) ((c, r, w, lim, tol, (zFl cart cart1 320), (zFl wov wov1 320), (zFl lot lot1 320), (zFl sew sew1 320), (zFl mis mis1 20), cnt1, col1, len1, lef1, sbt1, shd1), sb, sc, sd, hcn, hnx, byt, tln, num, wrd, pos, flt) Y out)) (n := 20) (by omega) zlt zgo_33 zga_34 zgo_10 zga_11 (by decide) zsa_34) dX4_copyFrom_92 ?_
  refine z_aload_n 0 dX4_copyFrom_95 rfl rfl ?_
  refine z_get (v := .ref 35) 10 zgo_24 rfl inX4 (by decide) zw_145 rfl rfl dX4_copyFrom_96 ?_
  refine z_aload_n 1 dX4_copyFrom_99 rfl rfl ?_
  refine z_get (v := .ref 12) 10 zgo_1 rfl inX4 (by decide) zw_145 rfl rfl dX4_copyFrom_100 ?_
  refine z_callV (N := mX5_copyFrom) 1 [.ref 12] [] lX5_copyFrom ⟨zw_619, zw_620, zw_621⟩ rfl zgo_35 rfl rfl (Nat.le_of_ble_eq_true rfl) (by decide) ⟨zlt, zlt⟩ ⟨Nat.zero_le _, Nat.zero_le _⟩ zal (c_lcopy_24_1 (sa := sa) (sb := sb) (sc := sc) (sd := sd) hG) dX4_copyFrom_103 ?_
  exact z_vret rfl dX4_copyFrom_106 ho9.symm (zo_h hh9 (by rfl)) (Nat.zero_le _) (Nat.zero_le _)

set_option maxHeartbeats 4000000 in
set_option maxRecDepth 100000 in
theorem c_lcopy_1_24 {G : zT} {c : Nat} {r : Nat} {w : Nat} {lim : Nat} {tol : Int32} {cart : Nat → Int32} {wov : Nat → Int32} {lot : Nat → Int32} {sew : Nat → Int32} {mis : Nat → Int32} {cnt : Nat} {col : Nat → Int32} {len : Nat → Int32} {lef : Nat → Int32} {sbt : Nat → Int32} {shd : Nat → UInt32} {c1 : Nat} {r1 : Nat} {w1 : Nat} {lim1 : Nat} {tol1 : Int32} {cart1 : Nat → Int32} {wov1 : Nat → Int32} {lot1 : Nat → Int32} {sew1 : Nat → Int32} {mis1 : Nat → Int32} {cnt1 : Nat} {col1 : Nat → Int32} {len1 : Nat → Int32} {lef1 : Nat → Int32} {sbt1 : Nat → Int32} {shd1 : Nat → UInt32} {sa sb sc sd : zS} {hcn hnx tln wrd pos : Nat} {byt num : Nat → Int32} {flt : Int32} {Y : zYr} {out : Nat → Int64} (hG : zAl G = false) : zRun G mX5_copyFrom 0 0 [.ref 12, .ref 35] (zHp (c, r, w, lim, tol, cart, wov, lot, sew, mis, cnt, col, len, lef, sbt, shd) ((c1, r1, w1, lim1, tol1, cart1, wov1, lot1, sew1, mis1, cnt1, col1, len1, lef1, sbt1, shd1), sb, sc, sd, hcn, hnx, byt, tln, num, wrd, pos, flt) Y out) (.inr none) (zHp (c, r, w, lim, tol, cart, wov, lot, sew, mis, cnt1, (zFl col1 col 16), (zFl len1 len 16), (zFl lef1 lef 16), (zFl sbt1 sbt 16), (zFl shd1 shd 16)) ((c1, r1, w1, lim1, tol1, cart1, wov1, lot1, sew1, mis1, cnt1, col1, len1, lef1, sbt1, shd1), sb, sc, sd, hcn, hnx, byt, tln, num, wrd, pos, flt) Y out) := by
  refine zRun_of (by decide +kernel) rfl rfl (Nat.le_of_ble_eq_true rfl) ?_
  suffices hs : ∀ (o9 : zO) (h9 : zH), (Sum.inr none : zO) = o9 → (zHp (c, r, w, lim, tol, cart, wov, lot, sew, mis, cnt1, (zFl col1 col 16), (zFl len1 len 16), (zFl lef1 lef 16), (zFl sbt1 sbt 16), (zFl shd1 shd 16)) ((c1, r1, w1, lim1, tol1, cart1, wov1, lot1, sew1, mis1, cnt1, col1, len1, lef1, sbt1, shd1), sb, sc, sd, hcn, hnx, byt, tln, num, wrd, pos, flt) Y out) = h9 → zPW G mX5_copyFrom 0 0 o9 h9 0 0 0 [(0, .ref 12), (1, .ref 35)] [] (zHp (c, r, w, lim, tol, cart, wov, lot, sew, mis, cnt, col, len, lef, sbt, shd) ((c1, r1, w1, lim1, tol1, cart1, wov1, lot1, sew1, mis1, cnt1, col1, len1, lef1, sbt1, shd1), sb, sc, sd, hcn, hnx, byt, tln, num, wrd, pos, flt) Y out) from hs _ _ rfl rfl
  intro o9 h9 ho9 hh9
  refine z_aload_n 0 dX5_copyFrom_0 rfl rfl ?_
  refine z_aload_n 1 dX5_copyFrom_1 rfl rfl ?_
  refine z_get (v := .int (nI cnt1)) 0 zgo_35 rfl inX5 (by decide) zw_100 rfl rfl dX5_copyFrom_2 ?_
  refine z_puti 0 tyX5 zgo_12 rfl inX5 tyX5_ok nmX5 (by decide) zw_100 rfl rfl (by decide +kernel) (Nat.le_of_ble_eq_true rfl) dX5_copyFrom_5 ?_
  refine z_eqh (h2 := (zHp (c, r, w, lim, tol, cart, wov, lot, sew, mis, cnt1, col, len, lef, sbt, shd) ((c1, r1, w1, lim1, tol1, cart1, wov1, lot1, sew1, mis1, cnt1, col1, len1, lef1, sbt1, shd1), sb, sc, sd, hcn, hnx, byt, tln, num, wrd, pos, flt) Y out)) zsf_12_0 ?_
  refine z_aload_n 0 dX5_copyFrom_8 rfl rfl ?_
  refine z_get (v := .ref 13) 1 zgo_12 rfl inX5 (by decide) zw_103 rfl rfl dX5_copyFrom_9 ?_
  refine z_aload_n 1 dX5_copyFrom_12 rfl rfl ?_
  refine z_get (v := .ref 36) 1 zgo_35 rfl inX5 (by decide) zw_103 rfl rfl dX5_copyFrom_13 ?_
  refine z_callV (N := mX6_copyFrom) 1 [.ref 36] [] lX6_copyFrom ⟨zw_623, zw_615, zw_616⟩ rfl zgo_13 rfl rfl (Nat.le_of_ble_eq_true rfl) (by decide) ⟨zlt, zlt⟩ ⟨Nat.zero_le _, Nat.zero_le _⟩ zal (c_nCopy (g := 13) (v := 14) (g2 := 36) (v2 := 37) (f := col) (f2 := col1) (h1 := (zHp (c, r, w, lim, tol, cart, wov, lot, sew, mis, cnt1, (zFl col1 col 16), len, lef, sbt, shd) ((c1, r1, w1, lim1, tol1, cart1, wov1, lot1, sew1, mis1, cnt1, col1, len1, lef1, sbt1, shd1), sb, sc, sd, hcn, hnx, byt, tln, num, wrd, pos, flt) Y out)) (n := 16) (by omega) zlt zgo_13 zga_14 zgo_36 zga_37 (by decide) zsa_14) dX5_copyFrom_16 ?_
  refine z_aload_n 0 dX5_copyFrom_19 rfl rfl ?_
  refine z_get (v := .ref 15) 2 zgo_12 rfl inX5 (by decide) zw_105 rfl rfl dX5_copyFrom_20 ?_
  refine z_aload_n 1 dX5_copyFrom_23 rfl rfl ?_
  refine z_get (v := .ref 38) 2 zgo_35 rfl inX5 (by decide) zw_105 rfl rfl dX5_copyFrom_24 ?_
  refine z_callV (N := mX6_copyFrom) 1 [.ref 38] [] lX6_copyFrom ⟨zw_623, zw_615, zw_616⟩ rfl zgo_15 rfl rfl (Nat.le_of_ble_eq_true rfl) (by decide) ⟨zlt, zlt⟩ ⟨Nat.zero_le _, Nat.zero_le _⟩ zal (c_nCopy (g := 15) (v := 16) (g2 := 38) (v2 := 39) (f := len) (f2 := len1) (h1 := (zHp (c, r, w, lim, tol, cart, wov, lot, sew, mis, cnt1, (zFl col1 col 16), (zFl len1 len 16), lef, sbt, shd) ((c1, r1, w1, lim1, tol1, cart1, wov1, lot1, sew1, mis1, cnt1, col1, len1, lef1, sbt1, shd1), sb, sc, sd, hcn, hnx, byt, tln, num, wrd, pos, flt) Y out)) (n := 16) (by omega) zlt zgo_15 zga_16 zgo_38 zga_39 (by decide) zsa_16) dX5_copyFrom_27 ?_
  refine z_aload_n 0 dX5_copyFrom_30 rfl rfl ?_
  refine z_get (v := .ref 17) 3 zgo_12 rfl inX5 (by decide) zw_107 rfl rfl dX5_copyFrom_31 ?_
  refine z_aload_n 1 dX5_copyFrom_34 rfl rfl ?_
  refine z_get (v := .ref 40) 3 zgo_35 rfl inX5 (by decide) zw_107 rfl rfl dX5_copyFrom_35 ?_
  refine z_callV (N := mX6_copyFrom) 1 [.ref 40] [] lX6_copyFrom ⟨zw_623, zw_615, zw_616⟩ rfl zgo_17 rfl rfl (Nat.le_of_ble_eq_true rfl) (by decide) ⟨zlt, zlt⟩ ⟨Nat.zero_le _, Nat.zero_le _⟩ zal (c_nCopy (g := 17) (v := 18) (g2 := 40) (v2 := 41) (f := lef) (f2 := lef1) (h1 := (zHp (c, r, w, lim, tol, cart, wov, lot, sew, mis, cnt1, (zFl col1 col 16), (zFl len1 len 16), (zFl lef1 lef 16), sbt, shd) ((c1, r1, w1, lim1, tol1, cart1, wov1, lot1, sew1, mis1, cnt1, col1, len1, lef1, sbt1, shd1), sb, sc, sd, hcn, hnx, byt, tln, num, wrd, pos, flt) Y out)) (n := 16) (by omega) zlt zgo_17 zga_18 zgo_40 zga_41 (by decide) zsa_18) dX5_copyFrom_38 ?_
  refine z_aload_n 0 dX5_copyFrom_41 rfl rfl ?_
  refine z_get (v := .ref 19) 4 zgo_12 rfl inX5 (by decide) zw_109 rfl rfl dX5_copyFrom_42 ?_
  refine z_aload_n 1 dX5_copyFrom_45 rfl rfl ?_
  refine z_get (v := .ref 42) 4 zgo_35 rfl inX5 (by decide) zw_109 rfl rfl dX5_copyFrom_46 ?_
  refine z_callV (N := mX6_copyFrom) 1 [.ref 42] [] lX6_copyFrom ⟨zw_623, zw_615, zw_616⟩ rfl zgo_19 rfl rfl (Nat.le_of_ble_eq_true rfl) (by decide) ⟨zlt, zlt⟩ ⟨Nat.zero_le _, Nat.zero_le _⟩ zal (c_nCopy (g := 19) (v := 20) (g2 := 42) (v2 := 43) (f := sbt) (f2 := sbt1) (h1 := (zHp (c, r, w, lim, tol, cart, wov, lot, sew, mis, cnt1, (zFl col1 col 16), (zFl len1 len 16), (zFl lef1 lef 16), (zFl sbt1 sbt 16), shd) ((c1, r1, w1, lim1, tol1, cart1, wov1, lot1, sew1, mis1, cnt1, col1, len1, lef1, sbt1, shd1), sb, sc, sd, hcn, hnx, byt, tln, num, wrd, pos, flt) Y out)) (n := 16) (by omega) zlt zgo_19 zga_20 zgo_42 zga_43 (by decide) zsa_20) dX5_copyFrom_49 ?_
  refine z_iconst (v := 0) dX5_copyFrom_52 (by decide) ?_
  refine z_istore_n (lv' := [(2, .int 0), (0, .ref 12), (1, .ref 35)]) dX5_copyFrom_53 rfl (by decide) rfl ?_
  have L54_1 : ∀ (d k : Nat), k ≤ 16 → 16 + 1 ≤ k + d → zPW G mX5_copyFrom 0 0 o9 h9 0 0 54 [(2, .int (nI k)), (0, .ref 12), (1, .ref 35)] [] (zHp (c, r, w, lim, tol, cart, wov, lot, sew, mis, cnt1, (zFl col1 col 16), (zFl len1 len 16), (zFl lef1 lef 16), (zFl sbt1 sbt 16), (zFl shd1 shd k)) ((c1, r1, w1, lim1, tol1, cart1, wov1, lot1, sew1, mis1, cnt1, col1, len1, lef1, sbt1, shd1), sb, sc, sd, hcn, hnx, byt, tln, num, wrd, pos, flt) Y out) := by
    intro d
    induction d with
    | zero => intro k hk hd; exact absurd hd (by omega)
    | succ d ih =>
      intro k hk_k hd_k
      have ih54 := ih
      clear ih
      refine z_iload_n 0 dX5_copyFrom_54 rfl rfl ?_
      refine z_bipush (v := nI 16) dX5_copyFrom_55 (by decide) ?_
      refine z_icmp_ge (tgt := 76) dX5_copyFrom_57 (by decide) (fun c_57 => ?_) (fun c_57 => ?_)
      · skip
        have hx_k := zge (by omega) hk_k c_57
        exact z_vret rfl dX5_copyFrom_76 ho9.symm (zo_h hh9 (by rw [hx_k])) (Nat.zero_le _) (Nat.zero_le _)
      · skip
        have hx_k := zlt' (by omega) hk_k c_57
        refine z_aload_n 1 dX5_copyFrom_60 rfl rfl ?_
        refine z_iload_n 0 dX5_copyFrom_61 rfl rfl ?_
        refine z_aload_n 2 dX5_copyFrom_62 rfl rfl ?_
        refine z_iload_n 0 dX5_copyFrom_63 rfl rfl ?_
        refine z_callV (N := mX5_shadeOf) 1 [.int (nI k)] [.int (nI k), .ref 12] lX5_shadeOf ⟨zw_624, zw_335, zw_336⟩ rfl zgo_35 rfl rfl (Nat.le_of_ble_eq_true rfl) (by decide) ⟨zlt, zlt⟩ ⟨Nat.zero_le _, Nat.zero_le _⟩ (fun _ => rfl) (c_lShade (g := 35) (v := 44) (f := shd1) zlt zgo_35 zga_44 (nI k)) dX5_copyFrom_64 ?_
        refine z_callV (N := mX5_putShade) 2 [.int (nI k), .float (zSh shd1 (nI k))] [] lX5_putShade ⟨zw_625, zw_627, zw_28⟩ rfl zgo_12 rfl rfl (Nat.le_of_ble_eq_true rfl) (by decide) ⟨zlt, zlt⟩ ⟨Nat.zero_le _, Nat.zero_le _⟩ zal (c_lPutShade (g := 12) (v := 21) (f := (zFl shd1 shd k)) (h1 := (zHp (c, r, w, lim, tol, cart, wov, lot, sew, mis, cnt1, (zFl col1 col 16), (zFl len1 len 16), (zFl lef1 lef 16), (zFl sbt1 sbt 16), (zPutS (zFl shd1 shd k) (nI k) (zSh shd1 (nI k)))) ((c1, r1, w1, lim1, tol1, cart1, wov1, lot1, sew1, mis1, cnt1, col1, len1, lef1, sbt1, shd1), sb, sc, sd, hcn, hnx, byt, tln, num, wrd, pos, flt) Y out)) zlt zgo_12 zga_21 (nI k) (zSh shd1 (nI k)) zsa_21) dX5_copyFrom_67 ?_
        refine z_iinc (v := nI (k + 1)) (lv' := [(2, .int (nI (k + 1))), (0, .ref 12), (1, .ref 35)]) 0 dX5_copyFrom_70 rfl (nI_1 k) (by decide) rfl ?_
        refine z_goto (tgt := 54) dX5_copyFrom_73 (by decide) ?_
        refine z_sub [0, 1, 2] (lv' := [(2, .int (nI (k + 1))), (0, .ref 12), (1, .ref 35)]) rfl ?_
        refine z_eqs (lv2 := [(2, .int (nI (k + 1))), (0, .ref 12), (1, .ref 35)]) (h2 := (zHp (c, r, w, lim, tol, cart, wov, lot, sew, mis, cnt1, (zFl col1 col 16), (zFl len1 len 16), (zFl lef1 lef 16), (zFl sbt1 sbt 16), (zFl shd1 shd (k + 1))) ((c1, r1, w1, lim1, tol1, cart1, wov1, lot1, sew1, mis1, cnt1, col1, len1, lef1, sbt1, shd1), sb, sc, sd, hcn, hnx, byt, tln, num, wrd, pos, flt) Y out)) (by rfl) (by rw [zFl_sS _ _ hx_k]) ?_
        exact ih54 (k + 1) (by omega) (by omega)
  refine z_sub [0, 1, 2] (lv' := [(2, .int 0), (0, .ref 12), (1, .ref 35)]) rfl ?_
  refine z_eqs (lv2 := [(2, .int (nI 0)), (0, .ref 12), (1, .ref 35)]) (h2 := (zHp (c, r, w, lim, tol, cart, wov, lot, sew, mis, cnt1, (zFl col1 col 16), (zFl len1 len 16), (zFl lef1 lef 16), (zFl sbt1 sbt 16), (zFl shd1 shd 0)) ((c1, r1, w1, lim1, tol1, cart1, wov1, lot1, sew1, mis1, cnt1, col1, len1, lef1, sbt1, shd1), sb, sc, sd, hcn, hnx, byt, tln, num, wrd, pos, flt) Y out)) (by rfl) (by rw [zFl_0]) ?_
  exact L54_1 (16 + 1) 0 (Nat.zero_le _) (by omega)

set_option maxHeartbeats 4000000 in
set_option maxRecDepth 100000 in
theorem c_copy_1_24 {G : zT} {c : Nat} {r : Nat} {w : Nat} {lim : Nat} {tol : Int32} {cart : Nat → Int32} {wov : Nat → Int32} {lot : Nat → Int32} {sew : Nat → Int32} {mis : Nat → Int32} {cnt : Nat} {col : Nat → Int32} {len : Nat → Int32} {lef : Nat → Int32} {sbt : Nat → Int32} {shd : Nat → UInt32} {c1 : Nat} {r1 : Nat} {w1 : Nat} {lim1 : Nat} {tol1 : Int32} {cart1 : Nat → Int32} {wov1 : Nat → Int32} {lot1 : Nat → Int32} {sew1 : Nat → Int32} {mis1 : Nat → Int32} {cnt1 : Nat} {col1 : Nat → Int32} {len1 : Nat → Int32} {lef1 : Nat → Int32} {sbt1 : Nat → Int32} {shd1 : Nat → UInt32} {sa sb sc sd : zS} {hcn hnx tln wrd pos : Nat} {byt num : Nat → Int32} {flt : Int32} {Y : zYr} {out : Nat → Int64} (hG : zAl G = false) : zRun G mX4_copyFrom 0 0 [.ref 1, .ref 24] (zHp (c, r, w, lim, tol, cart, wov, lot, sew, mis, cnt, col, len, lef, sbt, shd) ((c1, r1, w1, lim1, tol1, cart1, wov1, lot1, sew1, mis1, cnt1, col1, len1, lef1, sbt1, shd1), sb, sc, sd, hcn, hnx, byt, tln, num, wrd, pos, flt) Y out) (.inr none) (zHp (c1, r1, w1, lim1, tol1, (zFl cart1 cart 320), (zFl wov1 wov 320), (zFl lot1 lot 320), (zFl sew1 sew 320), (zFl mis1 mis 20), cnt1, (zFl col1 col 16), (zFl len1 len 16), (zFl lef1 lef 16), (zFl sbt1 sbt 16), (zFl shd1 shd 16)) ((c1, r1, w1, lim1, tol1, cart1, wov1, lot1, sew1, mis1, cnt1, col1, len1, lef1, sbt1, shd1), sb, sc, sd, hcn, hnx, byt, tln, num, wrd, pos, flt) Y out) := by
  refine zRun_of (by decide +kernel) rfl rfl (Nat.le_of_ble_eq_true rfl) ?_
  suffices hs : ∀ (o9 : zO) (h9 : zH), (Sum.inr none : zO) = o9 → (zHp (c1, r1, w1, lim1, tol1, (zFl cart1 cart 320), (zFl wov1 wov 320), (zFl lot1 lot 320), (zFl sew1 sew 320), (zFl mis1 mis 20), cnt1, (zFl col1 col 16), (zFl len1 len 16), (zFl lef1 lef 16), (zFl sbt1 sbt 16), (zFl shd1 shd 16)) ((c1, r1, w1, lim1, tol1, cart1, wov1, lot1, sew1, mis1, cnt1, col1, len1, lef1, sbt1, shd1), sb, sc, sd, hcn, hnx, byt, tln, num, wrd, pos, flt) Y out) = h9 → zPW G mX4_copyFrom 0 0 o9 h9 0 0 0 [(0, .ref 1), (1, .ref 24)] [] (zHp (c, r, w, lim, tol, cart, wov, lot, sew, mis, cnt, col, len, lef, sbt, shd) ((c1, r1, w1, lim1, tol1, cart1, wov1, lot1, sew1, mis1, cnt1, col1, len1, lef1, sbt1, shd1), sb, sc, sd, hcn, hnx, byt, tln, num, wrd, pos, flt) Y out) from hs _ _ rfl rfl
  intro o9 h9 ho9 hh9
  refine z_aload_n 0 dX4_copyFrom_0 rfl rfl ?_
  refine z_aload_n 1 dX4_copyFrom_1 rfl rfl ?_
  refine z_get (v := .int (nI c1)) 0 zgo_24 rfl inX4 (by decide) zw_130 rfl rfl dX4_copyFrom_2 ?_
  refine z_puti 0 tyX4 zgo_1 rfl inX4 tyX4_ok nmX4 (by decide) zw_130 rfl rfl (by decide +kernel) (Nat.le_of_ble_eq_true rfl) dX4_copyFrom_5 ?_
  refine z_eqh (h2 := (zHp (c1, r, w, lim, tol, cart, wov, lot, sew, mis, cnt, col, len, lef, sbt, shd) ((c1, r1, w1, lim1, tol1, cart1, wov1, lot1, sew1, mis1, cnt1, col1, len1, lef1, sbt1, shd1), sb, sc, sd, hcn, hnx, byt, tln, num, wrd, pos, flt) Y out)) zsf_1_0 ?_
  refine z_aload_n 0 dX4_copyFrom_8 rfl rfl ?_
  refine z_aload_n 1 dX4_copyFrom_9 rfl rfl ?_
  refine z_get (v := .int (nI r1)) 1 zgo_24 rfl inX4 (by decide) zw_132 rfl rfl dX4_copyFrom_10 ?_
  refine z_puti 1 tyX4 zgo_1 rfl inX4 tyX4_ok nmX4 (by decide) zw_132 rfl rfl (by decide +kernel) (Nat.le_of_ble_eq_true rfl) dX4_copyFrom_13 ?_
  refine z_eqh (h2 := (zHp (c1, r1, w, lim, tol, cart, wov, lot, sew, mis, cnt, col, len, lef, sbt, shd) ((c1, r1, w1, lim1, tol1, cart1, wov1, lot1, sew1, mis1, cnt1, col1, len1, lef1, sbt1, shd1), sb, sc, sd, hcn, hnx, byt, tln, num, wrd, pos, flt) Y out)) zsf_1_1 ?_
  refine z_aload_n 0 dX4_copyFrom_16 rfl rfl ?_
  refine z_aload_n 1 dX4_copyFrom_17 rfl rfl ?_
  refine z_get (v := .int (nI w1)) 2 zgo_24 rfl inX4 (by decide) zw_134 rfl rfl dX4_copyFrom_18 ?_
  refine z_puti 2 tyX4 zgo_1 rfl inX4 tyX4_ok nmX4 (by decide) zw_134 rfl rfl (by decide +kernel) (Nat.le_of_ble_eq_true rfl) dX4_copyFrom_21 ?_
  refine z_eqh (h2 := (zHp (c1, r1, w1, lim, tol, cart, wov, lot, sew, mis, cnt, col, len, lef, sbt, shd) ((c1, r1, w1, lim1, tol1, cart1, wov1, lot1, sew1, mis1, cnt1, col1, len1, lef1, sbt1, shd1), sb, sc, sd, hcn, hnx, byt, tln, num, wrd, pos, flt) Y out)) zsf_1_2 ?_
  refine z_aload_n 0 dX4_copyFrom_24 rfl rfl ?_
  refine z_aload_n 1 dX4_copyFrom_25 rfl rfl ?_
  refine z_get (v := .int (nI lim1)) 3 zgo_24 rfl inX4 (by decide) zw_136 rfl rfl dX4_copyFrom_26 ?_
  refine z_puti 3 tyX4 zgo_1 rfl inX4 tyX4_ok nmX4 (by decide) zw_136 rfl rfl (by decide +kernel) (Nat.le_of_ble_eq_true rfl) dX4_copyFrom_29 ?_
  refine z_eqh (h2 := (zHp (c1, r1, w1, lim1, tol, cart, wov, lot, sew, mis, cnt, col, len, lef, sbt, shd) ((c1, r1, w1, lim1, tol1, cart1, wov1, lot1, sew1, mis1, cnt1, col1, len1, lef1, sbt1, shd1), sb, sc, sd, hcn, hnx, byt, tln, num, wrd, pos, flt) Y out)) zsf_1_3 ?_
  refine z_aload_n 0 dX4_copyFrom_32 rfl rfl ?_
  refine z_aload_n 1 dX4_copyFrom_33 rfl rfl ?_
  refine z_get (v := .int tol1) 4 zgo_24 rfl inX4 (by decide) zw_138 rfl rfl dX4_copyFrom_34 ?_
  refine z_puti 4 tyX4 zgo_1 rfl inX4 tyX4_ok nmX4 (by decide) zw_138 rfl rfl (by decide +kernel) (Nat.le_of_ble_eq_true rfl) dX4_copyFrom_37 ?_
  refine z_eqh (h2 := (zHp (c1, r1, w1, lim1, tol1, cart, wov, lot, sew, mis, cnt, col, len, lef, sbt, shd) ((c1, r1, w1, lim1, tol1, cart1, wov1, lot1, sew1, mis1, cnt1, col1, len1, lef1, sbt1, shd1), sb, sc, sd, hcn, hnx, byt, tln, num, wrd, pos, flt) Y out)) zsf_1_4 ?_
  refine z_aload_n 0 dX4_copyFrom_40 rfl rfl ?_
  refine z_get (v := .ref 2) 5 zgo_1 rfl inX4 (by decide) zw_139 rfl rfl dX4_copyFrom_41 ?_
  refine z_aload_n 1 dX4_copyFrom_44 rfl rfl ?_
  refine z_get (v := .ref 25) 5 zgo_24 rfl inX4 (by decide) zw_139 rfl rfl dX4_copyFrom_45 ?_
  refine z_callV (N := mX2_copyFrom) 1 [.ref 25] [] lX2_copyFrom ⟨zw_610, zw_611, zw_612⟩ rfl zgo_2 rfl rfl (Nat.le_of_ble_eq_true rfl) (by decide) ⟨zlt, zlt⟩ ⟨Nat.zero_le _, Nat.zero_le _⟩ zal (c_gCopy (g := 2) (v := 3) (g2 := 25) (v2 := 26) (f := cart) (f2 := cart1) (h1 := (zHp (c1, r1, w1, lim1, tol1, (zFl cart1 cart 320), wov, lot, sew, mis, cnt, col, len, lef, sbt, shd) ((c1, r1, w1, lim1, tol1, cart1, wov1, lot1, sew1, mis1, cnt1, col1, len1, lef1, sbt1, shd1), sb, sc, sd, hcn, hnx, byt, tln, num, wrd, pos, flt) Y out)) zlt zgo_2 zga_3 zgo_25 zga_26 (by decide) zsa_3) dX4_copyFrom_48 ?_
  refine z_aload_n 0 dX4_copyFrom_51 rfl rfl ?_
  refine z_get (v := .ref 4) 6 zgo_1 rfl inX4 (by decide) zw_141 rfl rfl dX4_copyFrom_52 ?_
  refine z_aload_n 1 dX4_copyFrom_55 rfl rfl ?_
  refine z_get (v := .ref 27) 6 zgo_24 rfl inX4 (by decide) zw_141 rfl rfl dX4_copyFrom_56 ?_
  refine z_callV (N := mX2_copyFrom) 1 [.ref 27] [] lX2_copyFrom ⟨zw_610, zw_611, zw_612⟩ rfl zgo_4 rfl rfl (Nat.le_of_ble_eq_true rfl) (by decide) ⟨zlt, zlt⟩ ⟨Nat.zero_le _, Nat.zero_le _⟩ zal (c_gCopy (g := 4) (v := 5) (g2 := 27) (v2 := 28) (f := wov) (f2 := wov1) (h1 := (zHp (c1, r1, w1, lim1, tol1, (zFl cart1 cart 320), (zFl wov1 wov 320), lot, sew, mis, cnt, col, len, lef, sbt, shd) ((c1, r1, w1, lim1, tol1, cart1, wov1, lot1, sew1, mis1, cnt1, col1, len1, lef1, sbt1, shd1), sb, sc, sd, hcn, hnx, byt, tln, num, wrd, pos, flt) Y out)) zlt zgo_4 zga_5 zgo_27 zga_28 (by decide) zsa_5) dX4_copyFrom_59 ?_
  refine z_aload_n 0 dX4_copyFrom_62 rfl rfl ?_
  refine z_get (v := .ref 6) 7 zgo_1 rfl inX4 (by decide) zw_142 rfl rfl dX4_copyFrom_63 ?_
  refine z_aload_n 1 dX4_copyFrom_66 rfl rfl ?_
  refine z_get (v := .ref 29) 7 zgo_24 rfl inX4 (by decide) zw_142 rfl rfl dX4_copyFrom_67 ?_
  refine z_callV (N := mX2_copyFrom) 1 [.ref 29] [] lX2_copyFrom ⟨zw_610, zw_611, zw_612⟩ rfl zgo_6 rfl rfl (Nat.le_of_ble_eq_true rfl) (by decide) ⟨zlt, zlt⟩ ⟨Nat.zero_le _, Nat.zero_le _⟩ zal (c_gCopy (g := 6) (v := 7) (g2 := 29) (v2 := 30) (f := lot) (f2 := lot1) (h1 := (zHp (c1, r1, w1, lim1, tol1, (zFl cart1 cart 320), (zFl wov1 wov 320), (zFl lot1 lot 320), sew, mis, cnt, col, len, lef, sbt, shd) ((c1, r1, w1, lim1, tol1, cart1, wov1, lot1, sew1, mis1, cnt1, col1, len1, lef1, sbt1, shd1), sb, sc, sd, hcn, hnx, byt, tln, num, wrd, pos, flt) Y out)) zlt zgo_6 zga_7 zgo_29 zga_30 (by decide) zsa_7) dX4_copyFrom_70 ?_
  refine z_aload_n 0 dX4_copyFrom_73 rfl rfl ?_
  refine z_get (v := .ref 8) 8 zgo_1 rfl inX4 (by decide) zw_143 rfl rfl dX4_copyFrom_74 ?_
  refine z_aload_n 1 dX4_copyFrom_77 rfl rfl ?_
  refine z_get (v := .ref 31) 8 zgo_24 rfl inX4 (by decide) zw_143 rfl rfl dX4_copyFrom_78 ?_
  refine z_callV (N := mX2_copyFrom) 1 [.ref 31] [] lX2_copyFrom ⟨zw_610, zw_611, zw_612⟩ rfl zgo_8 rfl rfl (Nat.le_of_ble_eq_true rfl) (by decide) ⟨zlt, zlt⟩ ⟨Nat.zero_le _, Nat.zero_le _⟩ zal (c_gCopy (g := 8) (v := 9) (g2 := 31) (v2 := 32) (f := sew) (f2 := sew1) (h1 := (zHp (c1, r1, w1, lim1, tol1, (zFl cart1 cart 320), (zFl wov1 wov 320), (zFl lot1 lot 320), (zFl sew1 sew 320), mis, cnt, col, len, lef, sbt, shd) ((c1, r1, w1, lim1, tol1, cart1, wov1, lot1, sew1, mis1, cnt1, col1, len1, lef1, sbt1, shd1), sb, sc, sd, hcn, hnx, byt, tln, num, wrd, pos, flt) Y out)) zlt zgo_8 zga_9 zgo_31 zga_32 (by decide) zsa_9) dX4_copyFrom_81 ?_
  refine z_aload_n 0 dX4_copyFrom_84 rfl rfl ?_
  refine z_get (v := .ref 10) 9 zgo_1 rfl inX4 (by decide) zw_144 rfl rfl dX4_copyFrom_85 ?_
  refine z_aload_n 1 dX4_copyFrom_88 rfl rfl ?_
  refine z_get (v := .ref 33) 9 zgo_24 rfl inX4 (by decide) zw_144 rfl rfl dX4_copyFrom_89 ?_
  refine z_callV (N := mX6_copyFrom) 1 [.ref 33] [] lX6_copyFrom ⟨zw_614, zw_615, zw_616⟩ rfl zgo_10 rfl rfl (Nat.le_of_ble_eq_true rfl) (by decide) ⟨zlt, zlt⟩ ⟨Nat.zero_le _, Nat.zero_le _⟩ zal (c_nCopy (g := 10) (v := 11) (g2 := 33) (v2 := 34) (f := mis) (f2 := mis1) (h1 := (zHp (c1, r1, w1, lim1, tol1, (zFl cart1 cart 320), (zFl wov1 wov 320), (zFl lot1 lot 320), (zFl sew1 sew 320), (zFl mis1 mis 20), cnt, col, len, lef, sbt, shd) ((c1, r1, w1, lim1, tol1, cart1, wov1, lot1, sew1, mis1, cnt1, col1, len1, lef1, sbt1, shd1), sb, sc, sd, hcn, hnx, byt, tln, num, wrd, pos, flt) Y out)) (n := 20) (by omega) zlt zgo_10 zga_11 zgo_33 zga_34 (by decide) zsa_11) dX4_copyFrom_92 ?_
  refine z_aload_n 0 dX4_copyFrom_95 rfl rfl ?_
  refine z_get (v := .ref 12) 10 zgo_1 rfl inX4 (by decide) zw_145 rfl rfl dX4_copyFrom_96 ?_
  refine z_aload_n 1 dX4_copyFrom_99 rfl rfl ?_
  refine z_get (v := .ref 35) 10 zgo_24 rfl inX4 (by decide) zw_145 rfl rfl dX4_copyFrom_100 ?_
  refine z_callV (N := mX5_copyFrom) 1 [.ref 35] [] lX5_copyFrom ⟨zw_619, zw_620, zw_621⟩ rfl zgo_12 rfl rfl (Nat.le_of_ble_eq_true rfl) (by decide) ⟨zlt, zlt⟩ ⟨Nat.zero_le _, Nat.zero_le _⟩ zal (c_lcopy_1_24 (sa := sa) (sb := sb) (sc := sc) (sd := sd) hG) dX4_copyFrom_103 ?_
  exact z_vret rfl dX4_copyFrom_106 ho9.symm (zo_h hh9 (by rfl)) (Nat.zero_le _) (Nat.zero_le _)

set_option maxHeartbeats 4000000 in
set_option maxRecDepth 100000 in
theorem c_lcopy_45_1 {G : zT} {c : Nat} {r : Nat} {w : Nat} {lim : Nat} {tol : Int32} {cart : Nat → Int32} {wov : Nat → Int32} {lot : Nat → Int32} {sew : Nat → Int32} {mis : Nat → Int32} {cnt : Nat} {col : Nat → Int32} {len : Nat → Int32} {lef : Nat → Int32} {sbt : Nat → Int32} {shd : Nat → UInt32} {c1 : Nat} {r1 : Nat} {w1 : Nat} {lim1 : Nat} {tol1 : Int32} {cart1 : Nat → Int32} {wov1 : Nat → Int32} {lot1 : Nat → Int32} {sew1 : Nat → Int32} {mis1 : Nat → Int32} {cnt1 : Nat} {col1 : Nat → Int32} {len1 : Nat → Int32} {lef1 : Nat → Int32} {sbt1 : Nat → Int32} {shd1 : Nat → UInt32} {sa sb sc sd : zS} {hcn hnx tln wrd pos : Nat} {byt num : Nat → Int32} {flt : Int32} {Y : zYr} {out : Nat → Int64} (hG : zAl G = false) : zRun G mX5_copyFrom 0 0 [.ref 56, .ref 12] (zHp (c, r, w, lim, tol, cart, wov, lot, sew, mis, cnt, col, len, lef, sbt, shd) (sa, (c1, r1, w1, lim1, tol1, cart1, wov1, lot1, sew1, mis1, cnt1, col1, len1, lef1, sbt1, shd1), sc, sd, hcn, hnx, byt, tln, num, wrd, pos, flt) Y out) (.inr none) (zHp (c, r, w, lim, tol, cart, wov, lot, sew, mis, cnt, col, len, lef, sbt, shd) (sa, (c1, r1, w1, lim1, tol1, cart1, wov1, lot1, sew1, mis1, cnt, (zFl col col1 16), (zFl len len1 16), (zFl lef lef1 16), (zFl sbt sbt1 16), (zFl shd shd1 16)), sc, sd, hcn, hnx, byt, tln, num, wrd, pos, flt) Y out) := by
  refine zRun_of (by decide +kernel) rfl rfl (Nat.le_of_ble_eq_true rfl) ?_
  suffices hs : ∀ (o9 : zO) (h9 : zH), (Sum.inr none : zO) = o9 → (zHp (c, r, w, lim, tol, cart, wov, lot, sew, mis, cnt, col, len, lef, sbt, shd) (sa, (c1, r1, w1, lim1, tol1, cart1, wov1, lot1, sew1, mis1, cnt, (zFl col col1 16), (zFl len len1 16), (zFl lef lef1 16), (zFl sbt sbt1 16), (zFl shd shd1 16)), sc, sd, hcn, hnx, byt, tln, num, wrd, pos, flt) Y out) = h9 → zPW G mX5_copyFrom 0 0 o9 h9 0 0 0 [(0, .ref 56), (1, .ref 12)] [] (zHp (c, r, w, lim, tol, cart, wov, lot, sew, mis, cnt, col, len, lef, sbt, shd) (sa, (c1, r1, w1, lim1, tol1, cart1, wov1, lot1, sew1, mis1, cnt1, col1, len1, lef1, sbt1, shd1), sc, sd, hcn, hnx, byt, tln, num, wrd, pos, flt) Y out) from hs _ _ rfl rfl
  intro o9 h9 ho9 hh9
  refine z_aload_n 0 dX5_copyFrom_0 rfl rfl ?_
  refine z_aload_n 1 dX5_copyFrom_1 rfl rfl ?_
  refine z_get (v := .int (nI cnt)) 0 zgo_12 rfl inX5 (by decide) zw_100 rfl rfl dX5_copyFrom_2 ?_
  refine z_puti 0 tyX5 zgo_56 rfl inX5 tyX5_ok nmX5 (by decide) zw_100 rfl rfl (by decide +kernel) (Nat.le_of_ble_eq_true rfl) dX5_copyFrom_5 ?_
  refine z_eqh (h2 := (zHp (c, r, w, lim, tol, cart, wov, lot, sew, mis, cnt, col, len, lef, sbt, shd) (sa, (c1, r1, w1, lim1, tol1, cart1, wov1, lot1, sew1, mis1, cnt, col1, len1, lef1, sbt1, shd1), sc, sd, hcn, hnx, byt, tln, num, wrd, pos, flt) Y out)) zsf_56_0 ?_
  refine z_aload_n 0 dX5_copyFrom_8 rfl rfl ?_
  refine z_get (v := .ref 57) 1 zgo_56 rfl inX5 (by decide) zw_103 rfl rfl dX5_copyFrom_9 ?_
  refine z_aload_n 1 dX5_copyFrom_12 rfl rfl ?_
  refine z_get (v := .ref 13) 1 zgo_12 rfl inX5 (by decide) zw_103 rfl rfl dX5_copyFrom_13 ?_
  refine z_callV (N := mX6_copyFrom) 1 [.ref 13] [] lX6_copyFrom ⟨zw_623, zw_615, zw_616⟩ rfl zgo_57 rfl rfl (Nat.le_of_ble_eq_true rfl) (by decide) ⟨zlt, zlt⟩ ⟨Nat.zero_le _, Nat.zero_le _⟩ zal (c_nCopy (g := 57) (v := 58) (g2 := 13) (v2 := 14) (f := col1) (f2 := col) (h1 := (zHp (c, r, w, lim, tol, cart, wov, lot, sew, mis, cnt, col, len, lef, sbt, shd) (sa, (c1, r1, w1, lim1, tol1, cart1, wov1, lot1, sew1, mis1, cnt, (zFl col col1 16), len1, lef1, sbt1, shd1), sc, sd, hcn, hnx, byt, tln, num, wrd, pos, flt) Y out)) (n := 16) (by omega) zlt zgo_57 zga_58 zgo_13 zga_14 (by decide) zsa_58) dX5_copyFrom_16 ?_
  refine z_aload_n 0 dX5_copyFrom_19 rfl rfl ?_
  refine z_get (v := .ref 59) 2 zgo_56 rfl inX5 (by decide) zw_105 rfl rfl dX5_copyFrom_20 ?_
  refine z_aload_n 1 dX5_copyFrom_23 rfl rfl ?_
  refine z_get (v := .ref 15) 2 zgo_12 rfl inX5 (by decide) zw_105 rfl rfl dX5_copyFrom_24 ?_
  refine z_callV (N := mX6_copyFrom) 1 [.ref 15] [] lX6_copyFrom ⟨zw_623, zw_615, zw_616⟩ rfl zgo_59 rfl rfl (Nat.le_of_ble_eq_true rfl) (by decide) ⟨zlt, zlt⟩ ⟨Nat.zero_le _, Nat.zero_le _⟩ zal (c_nCopy (g := 59) (v := 60) (g2 := 15) (v2 := 16) (f := len1) (f2 := len) (h1 := (zHp (c, r, w, lim, tol, cart, wov, lot, sew, mis, cnt, col, len, lef, sbt, shd) (sa, (c1, r1, w1, lim1, tol1, cart1, wov1, lot1, sew1, mis1, cnt, (zFl col col1 16), (zFl len len1 16), lef1, sbt1, shd1), sc, sd, hcn, hnx, byt, tln, num, wrd, pos, flt) Y out)) (n := 16) (by omega) zlt zgo_59 zga_60 zgo_15 zga_16 (by decide) zsa_60) dX5_copyFrom_27 ?_
  refine z_aload_n 0 dX5_copyFrom_30 rfl rfl ?_
  refine z_get (v := .ref 61) 3 zgo_56 rfl inX5 (by decide) zw_107 rfl rfl dX5_copyFrom_31 ?_
  refine z_aload_n 1 dX5_copyFrom_34 rfl rfl ?_
  refine z_get (v := .ref 17) 3 zgo_12 rfl inX5 (by decide) zw_107 rfl rfl dX5_copyFrom_35 ?_
  refine z_callV (N := mX6_copyFrom) 1 [.ref 17] [] lX6_copyFrom ⟨zw_623, zw_615, zw_616⟩ rfl zgo_61 rfl rfl (Nat.le_of_ble_eq_true rfl) (by decide) ⟨zlt, zlt⟩ ⟨Nat.zero_le _, Nat.zero_le _⟩ zal (c_nCopy (g := 61) (v := 62) (g2 := 17) (v2 := 18) (f := lef1) (f2 := lef) (h1 := (zHp (c, r, w, lim, tol, cart, wov, lot, sew, mis, cnt, col, len, lef, sbt, shd) (sa, (c1, r1, w1, lim1, tol1, cart1, wov1, lot1, sew1, mis1, cnt, (zFl col col1 16), (zFl len len1 16), (zFl lef lef1 16), sbt1, shd1), sc, sd, hcn, hnx, byt, tln, num, wrd, pos, flt) Y out)) (n := 16) (by omega) zlt zgo_61 zga_62 zgo_17 zga_18 (by decide) zsa_62) dX5_copyFrom_38 ?_
  refine z_aload_n 0 dX5_copyFrom_41 rfl rfl ?_
  refine z_get (v := .ref 63) 4 zgo_56 rfl inX5 (by decide) zw_109 rfl rfl dX5_copyFrom_42 ?_
  refine z_aload_n 1 dX5_copyFrom_45 rfl rfl ?_
  refine z_get (v := .ref 19) 4 zgo_12 rfl inX5 (by decide) zw_109 rfl rfl dX5_copyFrom_46 ?_
  refine z_callV (N := mX6_copyFrom) 1 [.ref 19] [] lX6_copyFrom ⟨zw_623, zw_615, zw_616⟩ rfl zgo_63 rfl rfl (Nat.le_of_ble_eq_true rfl) (by decide) ⟨zlt, zlt⟩ ⟨Nat.zero_le _, Nat.zero_le _⟩ zal (c_nCopy (g := 63) (v := 64) (g2 := 19) (v2 := 20) (f := sbt1) (f2 := sbt) (h1 := (zHp (c, r, w, lim, tol, cart, wov, lot, sew, mis, cnt, col, len, lef, sbt, shd) (sa, (c1, r1, w1, lim1, tol1, cart1, wov1, lot1, sew1, mis1, cnt, (zFl col col1 16), (zFl len len1 16), (zFl lef lef1 16), (zFl sbt sbt1 16), shd1), sc, sd, hcn, hnx, byt, tln, num, wrd, pos, flt) Y out)) (n := 16) (by omega) zlt zgo_63 zga_64 zgo_19 zga_20 (by decide) zsa_64) dX5_copyFrom_49 ?_
  refine z_iconst (v := 0) dX5_copyFrom_52 (by decide) ?_
  refine z_istore_n (lv' := [(2, .int 0), (0, .ref 56), (1, .ref 12)]) dX5_copyFrom_53 rfl (by decide) rfl ?_
  have L54_1 : ∀ (d k : Nat), k ≤ 16 → 16 + 1 ≤ k + d → zPW G mX5_copyFrom 0 0 o9 h9 0 0 54 [(2, .int (nI k)), (0, .ref 56), (1, .ref 12)] [] (zHp (c, r, w, lim, tol, cart, wov, lot, sew, mis, cnt, col, len, lef, sbt, shd) (sa, (c1, r1, w1, lim1, tol1, cart1, wov1, lot1, sew1, mis1, cnt, (zFl col col1 16), (zFl len len1 16), (zFl lef lef1 16), (zFl sbt sbt1 16), (zFl shd shd1 k)), sc, sd, hcn, hnx, byt, tln, num, wrd, pos, flt) Y out) := by
    intro d
    induction d with
    | zero => intro k hk hd; exact absurd hd (by omega)
    | succ d ih =>
      intro k hk_k hd_k
      have ih54 := ih
      clear ih
      refine z_iload_n 0 dX5_copyFrom_54 rfl rfl ?_
      refine z_bipush (v := nI 16) dX5_copyFrom_55 (by decide) ?_
      refine z_icmp_ge (tgt := 76) dX5_copyFrom_57 (by decide) (fun c_57 => ?_) (fun c_57 => ?_)
      · skip
        have hx_k := zge (by omega) hk_k c_57
        exact z_vret rfl dX5_copyFrom_76 ho9.symm (zo_h hh9 (by rw [hx_k])) (Nat.zero_le _) (Nat.zero_le _)
      · skip
        have hx_k := zlt' (by omega) hk_k c_57
        refine z_aload_n 1 dX5_copyFrom_60 rfl rfl ?_
        refine z_iload_n 0 dX5_copyFrom_61 rfl rfl ?_
        refine z_aload_n 2 dX5_copyFrom_62 rfl rfl ?_
        refine z_iload_n 0 dX5_copyFrom_63 rfl rfl ?_
        refine z_callV (N := mX5_shadeOf) 1 [.int (nI k)] [.int (nI k), .ref 56] lX5_shadeOf ⟨zw_624, zw_335, zw_336⟩ rfl zgo_12 rfl rfl (Nat.le_of_ble_eq_true rfl) (by decide) ⟨zlt, zlt⟩ ⟨Nat.zero_le _, Nat.zero_le _⟩ (fun _ => rfl) (c_lShade (g := 12) (v := 21) (f := shd) zlt zgo_12 zga_21 (nI k)) dX5_copyFrom_64 ?_
        refine z_callV (N := mX5_putShade) 2 [.int (nI k), .float (zSh shd (nI k))] [] lX5_putShade ⟨zw_625, zw_627, zw_28⟩ rfl zgo_56 rfl rfl (Nat.le_of_ble_eq_true rfl) (by decide) ⟨zlt, zlt⟩ ⟨Nat.zero_le _, Nat.zero_le _⟩ zal (c_lPutShade (g := 56) (v := 65) (f := (zFl shd shd1 k)) (h1 := (zHp (c, r, w, lim, tol, cart, wov, lot, sew, mis, cnt, col, len, lef, sbt, shd) (sa, (c1, r1, w1, lim1, tol1, cart1, wov1, lot1, sew1, mis1, cnt, (zFl col col1 16), (zFl len len1 16), (zFl lef lef1 16), (zFl sbt sbt1 16), (zPutS (zFl shd shd1 k) (nI k) (zSh shd (nI k)))), sc, sd, hcn, hnx, byt, tln, num, wrd, pos, flt) Y out)) zlt zgo_56 zga_65 (nI k) (zSh shd (nI k)) zsa_65) dX5_copyFrom_67 ?_
        refine z_iinc (v := nI (k + 1)) (lv' := [(2, .int (nI (k + 1))), (0, .ref 56), (1, .ref 12)]) 0 dX5_copyFrom_70 rfl (nI_1 k) (by decide) rfl ?_
        refine z_goto (tgt := 54) dX5_copyFrom_73 (by decide) ?_
        refine z_sub [0, 1, 2] (lv' := [(2, .int (nI (k + 1))), (0, .ref 56), (1, .ref 12)]) rfl ?_
        refine z_eqs (lv2 := [(2, .int (nI (k + 1))), (0, .ref 56), (1, .ref 12)]) (h2 := (zHp (c, r, w, lim, tol, cart, wov, lot, sew, mis, cnt, col, len, lef, sbt, shd) (sa, (c1, r1, w1, lim1, tol1, cart1, wov1, lot1, sew1, mis1, cnt, (zFl col col1 16), (zFl len len1 16), (zFl lef lef1 16), (zFl sbt sbt1 16), (zFl shd shd1 (k + 1))), sc, sd, hcn, hnx, byt, tln, num, wrd, pos, flt) Y out)) (by rfl) (by rw [zFl_sS _ _ hx_k]) ?_
        exact ih54 (k + 1) (by omega) (by omega)
  refine z_sub [0, 1, 2] (lv' := [(2, .int 0), (0, .ref 56), (1, .ref 12)]) rfl ?_
  refine z_eqs (lv2 := [(2, .int (nI 0)), (0, .ref 56), (1, .ref 12)]) (h2 := (zHp (c, r, w, lim, tol, cart, wov, lot, sew, mis, cnt, col, len, lef, sbt, shd) (sa, (c1, r1, w1, lim1, tol1, cart1, wov1, lot1, sew1, mis1, cnt, (zFl col col1 16), (zFl len len1 16), (zFl lef lef1 16), (zFl sbt sbt1 16), (zFl shd shd1 0)), sc, sd, hcn, hnx, byt, tln, num, wrd, pos, flt) Y out)) (by rfl) (by rw [zFl_0]) ?_
  exact L54_1 (16 + 1) 0 (Nat.zero_le _) (by omega)

set_option maxHeartbeats 4000000 in
set_option maxRecDepth 100000 in
theorem c_copy_45_1 {G : zT} {c : Nat} {r : Nat} {w : Nat} {lim : Nat} {tol : Int32} {cart : Nat → Int32} {wov : Nat → Int32} {lot : Nat → Int32} {sew : Nat → Int32} {mis : Nat → Int32} {cnt : Nat} {col : Nat → Int32} {len : Nat → Int32} {lef : Nat → Int32} {sbt : Nat → Int32} {shd : Nat → UInt32} {c1 : Nat} {r1 : Nat} {w1 : Nat} {lim1 : Nat} {tol1 : Int32} {cart1 : Nat → Int32} {wov1 : Nat → Int32} {lot1 : Nat → Int32} {sew1 : Nat → Int32} {mis1 : Nat → Int32} {cnt1 : Nat} {col1 : Nat → Int32} {len1 : Nat → Int32} {lef1 : Nat → Int32} {sbt1 : Nat → Int32} {shd1 : Nat → UInt32} {sa sb sc sd : zS} {hcn hnx tln wrd pos : Nat} {byt num : Nat → Int32} {flt : Int32} {Y : zYr} {out : Nat → Int64} (hG : zAl G = false) : zRun G mX4_copyFrom 0 0 [.ref 45, .ref 1] (zHp (c, r, w, lim, tol, cart, wov, lot, sew, mis, cnt, col, len, lef, sbt, shd) (sa, (c1, r1, w1, lim1, tol1, cart1, wov1, lot1, sew1, mis1, cnt1, col1, len1, lef1, sbt1, shd1), sc, sd, hcn, hnx, byt, tln, num, wrd, pos, flt) Y out) (.inr none) (zHp (c, r, w, lim, tol, cart, wov, lot, sew, mis, cnt, col, len, lef, sbt, shd) (sa, (c, r, w, lim, tol, (zFl cart cart1 320), (zFl wov wov1 320), (zFl lot lot1 320), (zFl sew sew1 320), (zFl mis mis1 20), cnt, (zFl col col1 16), (zFl len len1 16), (zFl lef lef1 16), (zFl sbt sbt1 16), (zFl shd shd1 16)), sc, sd, hcn, hnx, byt, tln, num, wrd, pos, flt) Y out) := by
  refine zRun_of (by decide +kernel) rfl rfl (Nat.le_of_ble_eq_true rfl) ?_
  suffices hs : ∀ (o9 : zO) (h9 : zH), (Sum.inr none : zO) = o9 → (zHp (c, r, w, lim, tol, cart, wov, lot, sew, mis, cnt, col, len, lef, sbt, shd) (sa, (c, r, w, lim, tol, (zFl cart cart1 320), (zFl wov wov1 320), (zFl lot lot1 320), (zFl sew sew1 320), (zFl mis mis1 20), cnt, (zFl col col1 16), (zFl len len1 16), (zFl lef lef1 16), (zFl sbt sbt1 16), (zFl shd shd1 16)), sc, sd, hcn, hnx, byt, tln, num, wrd, pos, flt) Y out) = h9 → zPW G mX4_copyFrom 0 0 o9 h9 0 0 0 [(0, .ref 45), (1, .ref 1)] [] (zHp (c, r, w, lim, tol, cart, wov, lot, sew, mis, cnt, col, len, lef, sbt, shd) (sa, (c1, r1, w1, lim1, tol1, cart1, wov1, lot1, sew1, mis1, cnt1, col1, len1, lef1, sbt1, shd1), sc, sd, hcn, hnx, byt, tln, num, wrd, pos, flt) Y out) from hs _ _ rfl rfl
  intro o9 h9 ho9 hh9
  refine z_aload_n 0 dX4_copyFrom_0 rfl rfl ?_
  refine z_aload_n 1 dX4_copyFrom_1 rfl rfl ?_
  refine z_get (v := .int (nI c)) 0 zgo_1 rfl inX4 (by decide) zw_130 rfl rfl dX4_copyFrom_2 ?_
  refine z_puti 0 tyX4 zgo_45 rfl inX4 tyX4_ok nmX4 (by decide) zw_130 rfl rfl (by decide +kernel) (Nat.le_of_ble_eq_true rfl) dX4_copyFrom_5 ?_
  refine z_eqh (h2 := (zHp (c, r, w, lim, tol, cart, wov, lot, sew, mis, cnt, col, len, lef, sbt, shd) (sa, (c, r1, w1, lim1, tol1, cart1, wov1, lot1, sew1, mis1, cnt1, col1, len1, lef1, sbt1, shd1), sc, sd, hcn, hnx, byt, tln, num, wrd, pos, flt) Y out)) zsf_45_0 ?_
  refine z_aload_n 0 dX4_copyFrom_8 rfl rfl ?_
  refine z_aload_n 1 dX4_copyFrom_9 rfl rfl ?_
  refine z_get (v := .int (nI r)) 1 zgo_1 rfl inX4 (by decide) zw_132 rfl rfl dX4_copyFrom_10 ?_
  refine z_puti 1 tyX4 zgo_45 rfl inX4 tyX4_ok nmX4 (by decide) zw_132 rfl rfl (by decide +kernel) (Nat.le_of_ble_eq_true rfl) dX4_copyFrom_13 ?_
  refine z_eqh (h2 := (zHp (c, r, w, lim, tol, cart, wov, lot, sew, mis, cnt, col, len, lef, sbt, shd) (sa, (c, r, w1, lim1, tol1, cart1, wov1, lot1, sew1, mis1, cnt1, col1, len1, lef1, sbt1, shd1), sc, sd, hcn, hnx, byt, tln, num, wrd, pos, flt) Y out)) zsf_45_1 ?_
  refine z_aload_n 0 dX4_copyFrom_16 rfl rfl ?_
  refine z_aload_n 1 dX4_copyFrom_17 rfl rfl ?_
  refine z_get (v := .int (nI w)) 2 zgo_1 rfl inX4 (by decide) zw_134 rfl rfl dX4_copyFrom_18 ?_
  refine z_puti 2 tyX4 zgo_45 rfl inX4 tyX4_ok nmX4 (by decide) zw_134 rfl rfl (by decide +kernel) (Nat.le_of_ble_eq_true rfl) dX4_copyFrom_21 ?_
  refine z_eqh (h2 := (zHp (c, r, w, lim, tol, cart, wov, lot, sew, mis, cnt, col, len, lef, sbt, shd) (sa, (c, r, w, lim1, tol1, cart1, wov1, lot1, sew1, mis1, cnt1, col1, len1, lef1, sbt1, shd1), sc, sd, hcn, hnx, byt, tln, num, wrd, pos, flt) Y out)) zsf_45_2 ?_
  refine z_aload_n 0 dX4_copyFrom_24 rfl rfl ?_
  refine z_aload_n 1 dX4_copyFrom_25 rfl rfl ?_
  refine z_get (v := .int (nI lim)) 3 zgo_1 rfl inX4 (by decide) zw_136 rfl rfl dX4_copyFrom_26 ?_
  refine z_puti 3 tyX4 zgo_45 rfl inX4 tyX4_ok nmX4 (by decide) zw_136 rfl rfl (by decide +kernel) (Nat.le_of_ble_eq_true rfl) dX4_copyFrom_29 ?_
  refine z_eqh (h2 := (zHp (c, r, w, lim, tol, cart, wov, lot, sew, mis, cnt, col, len, lef, sbt, shd) (sa, (c, r, w, lim, tol1, cart1, wov1, lot1, sew1, mis1, cnt1, col1, len1, lef1, sbt1, shd1), sc, sd, hcn, hnx, byt, tln, num, wrd, pos, flt) Y out)) zsf_45_3 ?_
  refine z_aload_n 0 dX4_copyFrom_32 rfl rfl ?_
  refine z_aload_n 1 dX4_copyFrom_33 rfl rfl ?_
  refine z_get (v := .int tol) 4 zgo_1 rfl inX4 (by decide) zw_138 rfl rfl dX4_copyFrom_34 ?_
  refine z_puti 4 tyX4 zgo_45 rfl inX4 tyX4_ok nmX4 (by decide) zw_138 rfl rfl (by decide +kernel) (Nat.le_of_ble_eq_true rfl) dX4_copyFrom_37 ?_
  refine z_eqh (h2 := (zHp (c, r, w, lim, tol, cart, wov, lot, sew, mis, cnt, col, len, lef, sbt, shd) (sa, (c, r, w, lim, tol, cart1, wov1, lot1, sew1, mis1, cnt1, col1, len1, lef1, sbt1, shd1), sc, sd, hcn, hnx, byt, tln, num, wrd, pos, flt) Y out)) zsf_45_4 ?_
  refine z_aload_n 0 dX4_copyFrom_40 rfl rfl ?_
  refine z_get (v := .ref 46) 5 zgo_45 rfl inX4 (by decide) zw_139 rfl rfl dX4_copyFrom_41 ?_
  refine z_aload_n 1 dX4_copyFrom_44 rfl rfl ?_
  refine z_get (v := .ref 2) 5 zgo_1 rfl inX4 (by decide) zw_139 rfl rfl dX4_copyFrom_45 ?_
  refine z_callV (N := mX2_copyFrom) 1 [.ref 2] [] lX2_copyFrom ⟨zw_610, zw_611, zw_612⟩ rfl zgo_46 rfl rfl (Nat.le_of_ble_eq_true rfl) (by decide) ⟨zlt, zlt⟩ ⟨Nat.zero_le _, Nat.zero_le _⟩ zal (c_gCopy (g := 46) (v := 47) (g2 := 2) (v2 := 3) (f := cart1) (f2 := cart) (h1 := (zHp (c, r, w, lim, tol, cart, wov, lot, sew, mis, cnt, col, len, lef, sbt, shd) (sa, (c, r, w, lim, tol, (zFl cart cart1 320), wov1, lot1, sew1, mis1, cnt1, col1, len1, lef1, sbt1, shd1), sc, sd, hcn, hnx, byt, tln, num, wrd, pos, flt) Y out)) zlt zgo_46 zga_47 zgo_2 zga_3 (by decide) zsa_47) dX4_copyFrom_48 ?_
  refine z_aload_n 0 dX4_copyFrom_51 rfl rfl ?_
  refine z_get (v := .ref 48) 6 zgo_45 rfl inX4 (by decide) zw_141 rfl rfl dX4_copyFrom_52 ?_
  refine z_aload_n 1 dX4_copyFrom_55 rfl rfl ?_
  refine z_get (v := .ref 4) 6 zgo_1 rfl inX4 (by decide) zw_141 rfl rfl dX4_copyFrom_56 ?_
  refine z_callV (N := mX2_copyFrom) 1 [.ref 4] [] lX2_copyFrom ⟨zw_610, zw_611, zw_612⟩ rfl zgo_48 rfl rfl (Nat.le_of_ble_eq_true rfl) (by decide) ⟨zlt, zlt⟩ ⟨Nat.zero_le _, Nat.zero_le _⟩ zal (c_gCopy (g := 48) (v := 49) (g2 := 4) (v2 := 5) (f := wov1) (f2 := wov) (h1 := (zHp (c, r, w, lim, tol, cart, wov, lot, sew, mis, cnt, col, len, lef, sbt, shd) (sa, (c, r, w, lim, tol, (zFl cart cart1 320), (zFl wov wov1 320), lot1, sew1, mis1, cnt1, col1, len1, lef1, sbt1, shd1), sc, sd, hcn, hnx, byt, tln, num, wrd, pos, flt) Y out)) zlt zgo_48 zga_49 zgo_4 zga_5 (by decide) zsa_49) dX4_copyFrom_59 ?_
  refine z_aload_n 0 dX4_copyFrom_62 rfl rfl ?_
  refine z_get (v := .ref 50) 7 zgo_45 rfl inX4 (by decide) zw_142 rfl rfl dX4_copyFrom_63 ?_
  refine z_aload_n 1 dX4_copyFrom_66 rfl rfl ?_
  refine z_get (v := .ref 6) 7 zgo_1 rfl inX4 (by decide) zw_142 rfl rfl dX4_copyFrom_67 ?_
  refine z_callV (N := mX2_copyFrom) 1 [.ref 6] [] lX2_copyFrom ⟨zw_610, zw_611, zw_612⟩ rfl zgo_50 rfl rfl (Nat.le_of_ble_eq_true rfl) (by decide) ⟨zlt, zlt⟩ ⟨Nat.zero_le _, Nat.zero_le _⟩ zal (c_gCopy (g := 50) (v := 51) (g2 := 6) (v2 := 7) (f := lot1) (f2 := lot) (h1 := (zHp (c, r, w, lim, tol, cart, wov, lot, sew, mis, cnt, col, len, lef, sbt, shd) (sa, (c, r, w, lim, tol, (zFl cart cart1 320), (zFl wov wov1 320), (zFl lot lot1 320), sew1, mis1, cnt1, col1, len1, lef1, sbt1, shd1), sc, sd, hcn, hnx, byt, tln, num, wrd, pos, flt) Y out)) zlt zgo_50 zga_51 zgo_6 zga_7 (by decide) zsa_51) dX4_copyFrom_70 ?_
  refine z_aload_n 0 dX4_copyFrom_73 rfl rfl ?_
  refine z_get (v := .ref 52) 8 zgo_45 rfl inX4 (by decide) zw_143 rfl rfl dX4_copyFrom_74 ?_
  refine z_aload_n 1 dX4_copyFrom_77 rfl rfl ?_
  refine z_get (v := .ref 8) 8 zgo_1 rfl inX4 (by decide) zw_143 rfl rfl dX4_copyFrom_78 ?_
  refine z_callV (N := mX2_copyFrom) 1 [.ref 8] [] lX2_copyFrom ⟨zw_610, zw_611, zw_612⟩ rfl zgo_52 rfl rfl (Nat.le_of_ble_eq_true rfl) (by decide) ⟨zlt, zlt⟩ ⟨Nat.zero_le _, Nat.zero_le _⟩ zal (c_gCopy (g := 52) (v := 53) (g2 := 8) (v2 := 9) (f := sew1) (f2 := sew) (h1 := (zHp (c, r, w, lim, tol, cart, wov, lot, sew, mis, cnt, col, len, lef, sbt, shd) (sa, (c, r, w, lim, tol, (zFl cart cart1 320), (zFl wov wov1 320), (zFl lot lot1 320), (zFl sew sew1 320), mis1, cnt1, col1, len1, lef1, sbt1, shd1), sc, sd, hcn, hnx, byt, tln, num, wrd, pos, flt) Y out)) zlt zgo_52 zga_53 zgo_8 zga_9 (by decide) zsa_53) dX4_copyFrom_81 ?_
  refine z_aload_n 0 dX4_copyFrom_84 rfl rfl ?_
  refine z_get (v := .ref 54) 9 zgo_45 rfl inX4 (by decide) zw_144 rfl rfl dX4_copyFrom_85 ?_
  refine z_aload_n 1 dX4_copyFrom_88 rfl rfl ?_
  refine z_get (v := .ref 10) 9 zgo_1 rfl inX4 (by decide) zw_144 rfl rfl dX4_copyFrom_89 ?_
  refine z_callV (N := mX6_copyFrom) 1 [.ref 10] [] lX6_copyFrom ⟨zw_614, zw_615, zw_616⟩ rfl zgo_54 rfl rfl (Nat.le_of_ble_eq_true rfl) (by decide) ⟨zlt, zlt⟩ ⟨Nat.zero_le _, Nat.zero_le _⟩ zal (c_nCopy (g := 54) (v := 55) (g2 := 10) (v2 := 11) (f := mis1) (f2 := mis) (h1 := (zHp (c, r, w, lim, tol, cart, wov, lot, sew, mis, cnt, col, len, lef, sbt, shd) (sa, (c, r, w, lim, tol, (zFl cart cart1 320), (zFl wov wov1 320), (zFl lot lot1 320), (zFl sew sew1 320), (zFl mis mis1 20), cnt1, col1, len1, lef1, sbt1, shd1), sc, sd, hcn, hnx, byt, tln, num, wrd, pos, flt) Y out)) (n := 20) (by omega) zlt zgo_54 zga_55 zgo_10 zga_11 (by decide) zsa_55) dX4_copyFrom_92 ?_
  refine z_aload_n 0 dX4_copyFrom_95 rfl rfl ?_
  refine z_get (v := .ref 56) 10 zgo_45 rfl inX4 (by decide) zw_145 rfl rfl dX4_copyFrom_96 ?_
  refine z_aload_n 1 dX4_copyFrom_99 rfl rfl ?_
  refine z_get (v := .ref 12) 10 zgo_1 rfl inX4 (by decide) zw_145 rfl rfl dX4_copyFrom_100 ?_
  refine z_callV (N := mX5_copyFrom) 1 [.ref 12] [] lX5_copyFrom ⟨zw_619, zw_620, zw_621⟩ rfl zgo_56 rfl rfl (Nat.le_of_ble_eq_true rfl) (by decide) ⟨zlt, zlt⟩ ⟨Nat.zero_le _, Nat.zero_le _⟩ zal (c_lcopy_45_1 (sa := sa) (sb := sb) (sc := sc) (sd := sd) hG) dX4_copyFrom_103 ?_
  exact z_vret rfl dX4_copyFrom_106 ho9.symm (zo_h hh9 (by rfl)) (Nat.zero_le _) (Nat.zero_le _)

set_option maxHeartbeats 4000000 in
set_option maxRecDepth 100000 in
theorem c_lcopy_1_45 {G : zT} {c : Nat} {r : Nat} {w : Nat} {lim : Nat} {tol : Int32} {cart : Nat → Int32} {wov : Nat → Int32} {lot : Nat → Int32} {sew : Nat → Int32} {mis : Nat → Int32} {cnt : Nat} {col : Nat → Int32} {len : Nat → Int32} {lef : Nat → Int32} {sbt : Nat → Int32} {shd : Nat → UInt32} {c1 : Nat} {r1 : Nat} {w1 : Nat} {lim1 : Nat} {tol1 : Int32} {cart1 : Nat → Int32} {wov1 : Nat → Int32} {lot1 : Nat → Int32} {sew1 : Nat → Int32} {mis1 : Nat → Int32} {cnt1 : Nat} {col1 : Nat → Int32} {len1 : Nat → Int32} {lef1 : Nat → Int32} {sbt1 : Nat → Int32} {shd1 : Nat → UInt32} {sa sb sc sd : zS} {hcn hnx tln wrd pos : Nat} {byt num : Nat → Int32} {flt : Int32} {Y : zYr} {out : Nat → Int64} (hG : zAl G = false) : zRun G mX5_copyFrom 0 0 [.ref 12, .ref 56] (zHp (c, r, w, lim, tol, cart, wov, lot, sew, mis, cnt, col, len, lef, sbt, shd) (sa, (c1, r1, w1, lim1, tol1, cart1, wov1, lot1, sew1, mis1, cnt1, col1, len1, lef1, sbt1, shd1), sc, sd, hcn, hnx, byt, tln, num, wrd, pos, flt) Y out) (.inr none) (zHp (c, r, w, lim, tol, cart, wov, lot, sew, mis, cnt1, (zFl col1 col 16), (zFl len1 len 16), (zFl lef1 lef 16), (zFl sbt1 sbt 16), (zFl shd1 shd 16)) (sa, (c1, r1, w1, lim1, tol1, cart1, wov1, lot1, sew1, mis1, cnt1, col1, len1, lef1, sbt1, shd1), sc, sd, hcn, hnx, byt, tln, num, wrd, pos, flt) Y out) := by
  refine zRun_of (by decide +kernel) rfl rfl (Nat.le_of_ble_eq_true rfl) ?_
  suffices hs : ∀ (o9 : zO) (h9 : zH), (Sum.inr none : zO) = o9 → (zHp (c, r, w, lim, tol, cart, wov, lot, sew, mis, cnt1, (zFl col1 col 16), (zFl len1 len 16), (zFl lef1 lef 16), (zFl sbt1 sbt 16), (zFl shd1 shd 16)) (sa, (c1, r1, w1, lim1, tol1, cart1, wov1, lot1, sew1, mis1, cnt1, col1, len1, lef1, sbt1, shd1), sc, sd, hcn, hnx, byt, tln, num, wrd, pos, flt) Y out) = h9 → zPW G mX5_copyFrom 0 0 o9 h9 0 0 0 [(0, .ref 12), (1, .ref 56)] [] (zHp (c, r, w, lim, tol, cart, wov, lot, sew, mis, cnt, col, len, lef, sbt, shd) (sa, (c1, r1, w1, lim1, tol1, cart1, wov1, lot1, sew1, mis1, cnt1, col1, len1, lef1, sbt1, shd1), sc, sd, hcn, hnx, byt, tln, num, wrd, pos, flt) Y out) from hs _ _ rfl rfl
  intro o9 h9 ho9 hh9
  refine z_aload_n 0 dX5_copyFrom_0 rfl rfl ?_
  refine z_aload_n 1 dX5_copyFrom_1 rfl rfl ?_
  refine z_get (v := .int (nI cnt1)) 0 zgo_56 rfl inX5 (by decide) zw_100 rfl rfl dX5_copyFrom_2 ?_
  refine z_puti 0 tyX5 zgo_12 rfl inX5 tyX5_ok nmX5 (by decide) zw_100 rfl rfl (by decide +kernel) (Nat.le_of_ble_eq_true rfl) dX5_copyFrom_5 ?_
  refine z_eqh (h2 := (zHp (c, r, w, lim, tol, cart, wov, lot, sew, mis, cnt1, col, len, lef, sbt, shd) (sa, (c1, r1, w1, lim1, tol1, cart1, wov1, lot1, sew1, mis1, cnt1, col1, len1, lef1, sbt1, shd1), sc, sd, hcn, hnx, byt, tln, num, wrd, pos, flt) Y out)) zsf_12_0 ?_
  refine z_aload_n 0 dX5_copyFrom_8 rfl rfl ?_
  refine z_get (v := .ref 13) 1 zgo_12 rfl inX5 (by decide) zw_103 rfl rfl dX5_copyFrom_9 ?_
  refine z_aload_n 1 dX5_copyFrom_12 rfl rfl ?_
  refine z_get (v := .ref 57) 1 zgo_56 rfl inX5 (by decide) zw_103 rfl rfl dX5_copyFrom_13 ?_
  refine z_callV (N := mX6_copyFrom) 1 [.ref 57] [] lX6_copyFrom ⟨zw_623, zw_615, zw_616⟩ rfl zgo_13 rfl rfl (Nat.le_of_ble_eq_true rfl) (by decide) ⟨zlt, zlt⟩ ⟨Nat.zero_le _, Nat.zero_le _⟩ zal (c_nCopy (g := 13) (v := 14) (g2 := 57) (v2 := 58) (f := col) (f2 := col1) (h1 := (zHp (c, r, w, lim, tol, cart, wov, lot, sew, mis, cnt1, (zFl col1 col 16), len, lef, sbt, shd) (sa, (c1, r1, w1, lim1, tol1, cart1, wov1, lot1, sew1, mis1, cnt1, col1, len1, lef1, sbt1, shd1), sc, sd, hcn, hnx, byt, tln, num, wrd, pos, flt) Y out)) (n := 16) (by omega) zlt zgo_13 zga_14 zgo_57 zga_58 (by decide) zsa_14) dX5_copyFrom_16 ?_
  refine z_aload_n 0 dX5_copyFrom_19 rfl rfl ?_
  refine z_get (v := .ref 15) 2 zgo_12 rfl inX5 (by decide) zw_105 rfl rfl dX5_copyFrom_20 ?_
  refine z_aload_n 1 dX5_copyFrom_23 rfl rfl ?_
  refine z_get (v := .ref 59) 2 zgo_56 rfl inX5 (by decide) zw_105 rfl rfl dX5_copyFrom_24 ?_
  refine z_callV (N := mX6_copyFrom) 1 [.ref 59] [] lX6_copyFrom ⟨zw_623, zw_615, zw_616⟩ rfl zgo_15 rfl rfl (Nat.le_of_ble_eq_true rfl) (by decide) ⟨zlt, zlt⟩ ⟨Nat.zero_le _, Nat.zero_le _⟩ zal (c_nCopy (g := 15) (v := 16) (g2 := 59) (v2 := 60) (f := len) (f2 := len1) (h1 := (zHp (c, r, w, lim, tol, cart, wov, lot, sew, mis, cnt1, (zFl col1 col 16), (zFl len1 len 16), lef, sbt, shd) (sa, (c1, r1, w1, lim1, tol1, cart1, wov1, lot1, sew1, mis1, cnt1, col1, len1, lef1, sbt1, shd1), sc, sd, hcn, hnx, byt, tln, num, wrd, pos, flt) Y out)) (n := 16) (by omega) zlt zgo_15 zga_16 zgo_59 zga_60 (by decide) zsa_16) dX5_copyFrom_27 ?_
  refine z_aload_n 0 dX5_copyFrom_30 rfl rfl ?_
  refine z_get (v := .ref 17) 3 zgo_12 rfl inX5 (by decide) zw_107 rfl rfl dX5_copyFrom_31 ?_
  refine z_aload_n 1 dX5_copyFrom_34 rfl rfl ?_
  refine z_get (v := .ref 61) 3 zgo_56 rfl inX5 (by decide) zw_107 rfl rfl dX5_copyFrom_35 ?_
  refine z_callV (N := mX6_copyFrom) 1 [.ref 61] [] lX6_copyFrom ⟨zw_623, zw_615, zw_616⟩ rfl zgo_17 rfl rfl (Nat.le_of_ble_eq_true rfl) (by decide) ⟨zlt, zlt⟩ ⟨Nat.zero_le _, Nat.zero_le _⟩ zal (c_nCopy (g := 17) (v := 18) (g2 := 61) (v2 := 62) (f := lef) (f2 := lef1) (h1 := (zHp (c, r, w, lim, tol, cart, wov, lot, sew, mis, cnt1, (zFl col1 col 16), (zFl len1 len 16), (zFl lef1 lef 16), sbt, shd) (sa, (c1, r1, w1, lim1, tol1, cart1, wov1, lot1, sew1, mis1, cnt1, col1, len1, lef1, sbt1, shd1), sc, sd, hcn, hnx, byt, tln, num, wrd, pos, flt) Y out)) (n := 16) (by omega) zlt zgo_17 zga_18 zgo_61 zga_62 (by decide) zsa_18) dX5_copyFrom_38 ?_
  refine z_aload_n 0 dX5_copyFrom_41 rfl rfl ?_
  refine z_get (v := .ref 19) 4 zgo_12 rfl inX5 (by decide) zw_109 rfl rfl dX5_copyFrom_42 ?_
  refine z_aload_n 1 dX5_copyFrom_45 rfl rfl ?_
  refine z_get (v := .ref 63) 4 zgo_56 rfl inX5 (by decide) zw_109 rfl rfl dX5_copyFrom_46 ?_
  refine z_callV (N := mX6_copyFrom) 1 [.ref 63] [] lX6_copyFrom ⟨zw_623, zw_615, zw_616⟩ rfl zgo_19 rfl rfl (Nat.le_of_ble_eq_true rfl) (by decide) ⟨zlt, zlt⟩ ⟨Nat.zero_le _, Nat.zero_le _⟩ zal (c_nCopy (g := 19) (v := 20) (g2 := 63) (v2 := 64) (f := sbt) (f2 := sbt1) (h1 := (zHp (c, r, w, lim, tol, cart, wov, lot, sew, mis, cnt1, (zFl col1 col 16), (zFl len1 len 16), (zFl lef1 lef 16), (zFl sbt1 sbt 16), shd) (sa, (c1, r1, w1, lim1, tol1, cart1, wov1, lot1, sew1, mis1, cnt1, col1, len1, lef1, sbt1, shd1), sc, sd, hcn, hnx, byt, tln, num, wrd, pos, flt) Y out)) (n := 16) (by omega) zlt zgo_19 zga_20 zgo_63 zga_64 (by decide) zsa_20) dX5_copyFrom_49 ?_
  refine z_iconst (v := 0) dX5_copyFrom_52 (by decide) ?_
  refine z_istore_n (lv' := [(2, .int 0), (0, .ref 12), (1, .ref 56)]) dX5_copyFrom_53 rfl (by decide) rfl ?_
  have L54_1 : ∀ (d k : Nat), k ≤ 16 → 16 + 1 ≤ k + d → zPW G mX5_copyFrom 0 0 o9 h9 0 0 54 [(2, .int (nI k)), (0, .ref 12), (1, .ref 56)] [] (zHp (c, r, w, lim, tol, cart, wov, lot, sew, mis, cnt1, (zFl col1 col 16), (zFl len1 len 16), (zFl lef1 lef 16), (zFl sbt1 sbt 16), (zFl shd1 shd k)) (sa, (c1, r1, w1, lim1, tol1, cart1, wov1, lot1, sew1, mis1, cnt1, col1, len1, lef1, sbt1, shd1), sc, sd, hcn, hnx, byt, tln, num, wrd, pos, flt) Y out) := by
    intro d
    induction d with
    | zero => intro k hk hd; exact absurd hd (by omega)
    | succ d ih =>
      intro k hk_k hd_k
      have ih54 := ih
      clear ih
      refine z_iload_n 0 dX5_copyFrom_54 rfl rfl ?_
      refine z_bipush (v := nI 16) dX5_copyFrom_55 (by decide) ?_
      refine z_icmp_ge (tgt := 76) dX5_copyFrom_57 (by decide) (fun c_57 => ?_) (fun c_57 => ?_)
      · skip
        have hx_k := zge (by omega) hk_k c_57
        exact z_vret rfl dX5_copyFrom_76 ho9.symm (zo_h hh9 (by rw [hx_k])) (Nat.zero_le _) (Nat.zero_le _)
      · skip
        have hx_k := zlt' (by omega) hk_k c_57
        refine z_aload_n 1 dX5_copyFrom_60 rfl rfl ?_
        refine z_iload_n 0 dX5_copyFrom_61 rfl rfl ?_
        refine z_aload_n 2 dX5_copyFrom_62 rfl rfl ?_
        refine z_iload_n 0 dX5_copyFrom_63 rfl rfl ?_
        refine z_callV (N := mX5_shadeOf) 1 [.int (nI k)] [.int (nI k), .ref 12] lX5_shadeOf ⟨zw_624, zw_335, zw_336⟩ rfl zgo_56 rfl rfl (Nat.le_of_ble_eq_true rfl) (by decide) ⟨zlt, zlt⟩ ⟨Nat.zero_le _, Nat.zero_le _⟩ (fun _ => rfl) (c_lShade (g := 56) (v := 65) (f := shd1) zlt zgo_56 zga_65 (nI k)) dX5_copyFrom_64 ?_
        refine z_callV (N := mX5_putShade) 2 [.int (nI k), .float (zSh shd1 (nI k))] [] lX5_putShade ⟨zw_625, zw_627, zw_28⟩ rfl zgo_12 rfl rfl (Nat.le_of_ble_eq_true rfl) (by decide) ⟨zlt, zlt⟩ ⟨Nat.zero_le _, Nat.zero_le _⟩ zal (c_lPutShade (g := 12) (v := 21) (f := (zFl shd1 shd k)) (h1 := (zHp (c, r, w, lim, tol, cart, wov, lot, sew, mis, cnt1, (zFl col1 col 16), (zFl len1 len 16), (zFl lef1 lef 16), (zFl sbt1 sbt 16), (zPutS (zFl shd1 shd k) (nI k) (zSh shd1 (nI k)))) (sa, (c1, r1, w1, lim1, tol1, cart1, wov1, lot1, sew1, mis1, cnt1, col1, len1, lef1, sbt1, shd1), sc, sd, hcn, hnx, byt, tln, num, wrd, pos, flt) Y out)) zlt zgo_12 zga_21 (nI k) (zSh shd1 (nI k)) zsa_21) dX5_copyFrom_67 ?_
        refine z_iinc (v := nI (k + 1)) (lv' := [(2, .int (nI (k + 1))), (0, .ref 12), (1, .ref 56)]) 0 dX5_copyFrom_70 rfl (nI_1 k) (by decide) rfl ?_
        refine z_goto (tgt := 54) dX5_copyFrom_73 (by decide) ?_
        refine z_sub [0, 1, 2] (lv' := [(2, .int (nI (k + 1))), (0, .ref 12), (1, .ref 56)]) rfl ?_
        refine z_eqs (lv2 := [(2, .int (nI (k + 1))), (0, .ref 12), (1, .ref 56)]) (h2 := (zHp (c, r, w, lim, tol, cart, wov, lot, sew, mis, cnt1, (zFl col1 col 16), (zFl len1 len 16), (zFl lef1 lef 16), (zFl sbt1 sbt 16), (zFl shd1 shd (k + 1))) (sa, (c1, r1, w1, lim1, tol1, cart1, wov1, lot1, sew1, mis1, cnt1, col1, len1, lef1, sbt1, shd1), sc, sd, hcn, hnx, byt, tln, num, wrd, pos, flt) Y out)) (by rfl) (by rw [zFl_sS _ _ hx_k]) ?_
        exact ih54 (k + 1) (by omega) (by omega)
  refine z_sub [0, 1, 2] (lv' := [(2, .int 0), (0, .ref 12), (1, .ref 56)]) rfl ?_
  refine z_eqs (lv2 := [(2, .int (nI 0)), (0, .ref 12), (1, .ref 56)]) (h2 := (zHp (c, r, w, lim, tol, cart, wov, lot, sew, mis, cnt1, (zFl col1 col 16), (zFl len1 len 16), (zFl lef1 lef 16), (zFl sbt1 sbt 16), (zFl shd1 shd 0)) (sa, (c1, r1, w1, lim1, tol1, cart1, wov1, lot1, sew1, mis1, cnt1, col1, len1, lef1, sbt1, shd1), sc, sd, hcn, hnx, byt, tln, num, wrd, pos, flt) Y out)) (by rfl) (by rw [zFl_0]) ?_
  exact L54_1 (16 + 1) 0 (Nat.zero_le _) (by omega)

set_option maxHeartbeats 4000000 in
set_option maxRecDepth 100000 in
theorem c_copy_1_45 {G : zT} {c : Nat} {r : Nat} {w : Nat} {lim : Nat} {tol : Int32} {cart : Nat → Int32} {wov : Nat → Int32} {lot : Nat → Int32} {sew : Nat → Int32} {mis : Nat → Int32} {cnt : Nat} {col : Nat → Int32} {len : Nat → Int32} {lef : Nat → Int32} {sbt : Nat → Int32} {shd : Nat → UInt32} {c1 : Nat} {r1 : Nat} {w1 : Nat} {lim1 : Nat} {tol1 : Int32} {cart1 : Nat → Int32} {wov1 : Nat → Int32} {lot1 : Nat → Int32} {sew1 : Nat → Int32} {mis1 : Nat → Int32} {cnt1 : Nat} {col1 : Nat → Int32} {len1 : Nat → Int32} {lef1 : Nat → Int32} {sbt1 : Nat → Int32} {shd1 : Nat → UInt32} {sa sb sc sd : zS} {hcn hnx tln wrd pos : Nat} {byt num : Nat → Int32} {flt : Int32} {Y : zYr} {out : Nat → Int64} (hG : zAl G = false) : zRun G mX4_copyFrom 0 0 [.ref 1, .ref 45] (zHp (c, r, w, lim, tol, cart, wov, lot, sew, mis, cnt, col, len, lef, sbt, shd) (sa, (c1, r1, w1, lim1, tol1, cart1, wov1, lot1, sew1, mis1, cnt1, col1, len1, lef1, sbt1, shd1), sc, sd, hcn, hnx, byt, tln, num, wrd, pos, flt) Y out) (.inr none) (zHp (c1, r1, w1, lim1, tol1, (zFl cart1 cart 320), (zFl wov1 wov 320), (zFl lot1 lot 320), (zFl sew1 sew 320), (zFl mis1 mis 20), cnt1, (zFl col1 col 16), (zFl len1 len 16), (zFl lef1 lef 16), (zFl sbt1 sbt 16), (zFl shd1 shd 16)) (sa, (c1, r1, w1, lim1, tol1, cart1, wov1, lot1, sew1, mis1, cnt1, col1, len1, lef1, sbt1, shd1), sc, sd, hcn, hnx, byt, tln, num, wrd, pos, flt) Y out) := by
  refine zRun_of (by decide +kernel) rfl rfl (Nat.le_of_ble_eq_true rfl) ?_
  suffices hs : ∀ (o9 : zO) (h9 : zH), (Sum.inr none : zO) = o9 → (zHp (c1, r1, w1, lim1, tol1, (zFl cart1 cart 320), (zFl wov1 wov 320), (zFl lot1 lot 320), (zFl sew1 sew 320), (zFl mis1 mis 20), cnt1, (zFl col1 col 16), (zFl len1 len 16), (zFl lef1 lef 16), (zFl sbt1 sbt 16), (zFl shd1 shd 16)) (sa, (c1, r1, w1, lim1, tol1, cart1, wov1, lot1, sew1, mis1, cnt1, col1, len1, lef1, sbt1, shd1), sc, sd, hcn, hnx, byt, tln, num, wrd, pos, flt) Y out) = h9 → zPW G mX4_copyFrom 0 0 o9 h9 0 0 0 [(0, .ref 1), (1, .ref 45)] [] (zHp (c, r, w, lim, tol, cart, wov, lot, sew, mis, cnt, col, len, lef, sbt, shd) (sa, (c1, r1, w1, lim1, tol1, cart1, wov1, lot1, sew1, mis1, cnt1, col1, len1, lef1, sbt1, shd1), sc, sd, hcn, hnx, byt, tln, num, wrd, pos, flt) Y out) from hs _ _ rfl rfl
  intro o9 h9 ho9 hh9
  refine z_aload_n 0 dX4_copyFrom_0 rfl rfl ?_
  refine z_aload_n 1 dX4_copyFrom_1 rfl rfl ?_
  refine z_get (v := .int (nI c1)) 0 zgo_45 rfl inX4 (by decide) zw_130 rfl rfl dX4_copyFrom_2 ?_
  refine z_puti 0 tyX4 zgo_1 rfl inX4 tyX4_ok nmX4 (by decide) zw_130 rfl rfl (by decide +kernel) (Nat.le_of_ble_eq_true rfl) dX4_copyFrom_5 ?_
  refine z_eqh (h2 := (zHp (c1, r, w, lim, tol, cart, wov, lot, sew, mis, cnt, col, len, lef, sbt, shd) (sa, (c1, r1, w1, lim1, tol1, cart1, wov1, lot1, sew1, mis1, cnt1, col1, len1, lef1, sbt1, shd1), sc, sd, hcn, hnx, byt, tln, num, wrd, pos, flt) Y out)) zsf_1_0 ?_
  refine z_aload_n 0 dX4_copyFrom_8 rfl rfl ?_
  refine z_aload_n 1 dX4_copyFrom_9 rfl rfl ?_
  refine z_get (v := .int (nI r1)) 1 zgo_45 rfl inX4 (by decide) zw_132 rfl rfl dX4_copyFrom_10 ?_
  refine z_puti 1 tyX4 zgo_1 rfl inX4 tyX4_ok nmX4 (by decide) zw_132 rfl rfl (by decide +kernel) (Nat.le_of_ble_eq_true rfl) dX4_copyFrom_13 ?_
  refine z_eqh (h2 := (zHp (c1, r1, w, lim, tol, cart, wov, lot, sew, mis, cnt, col, len, lef, sbt, shd) (sa, (c1, r1, w1, lim1, tol1, cart1, wov1, lot1, sew1, mis1, cnt1, col1, len1, lef1, sbt1, shd1), sc, sd, hcn, hnx, byt, tln, num, wrd, pos, flt) Y out)) zsf_1_1 ?_
  refine z_aload_n 0 dX4_copyFrom_16 rfl rfl ?_
  refine z_aload_n 1 dX4_copyFrom_17 rfl rfl ?_
  refine z_get (v := .int (nI w1)) 2 zgo_45 rfl inX4 (by decide) zw_134 rfl rfl dX4_copyFrom_18 ?_
  refine z_puti 2 tyX4 zgo_1 rfl inX4 tyX4_ok nmX4 (by decide) zw_134 rfl rfl (by decide +kernel) (Nat.le_of_ble_eq_true rfl) dX4_copyFrom_21 ?_
  refine z_eqh (h2 := (zHp (c1, r1, w1, lim, tol, cart, wov, lot, sew, mis, cnt, col, len, lef, sbt, shd) (sa, (c1, r1, w1, lim1, tol1, cart1, wov1, lot1, sew1, mis1, cnt1, col1, len1, lef1, sbt1, shd1), sc, sd, hcn, hnx, byt, tln, num, wrd, pos, flt) Y out)) zsf_1_2 ?_
  refine z_aload_n 0 dX4_copyFrom_24 rfl rfl ?_
  refine z_aload_n 1 dX4_copyFrom_25 rfl rfl ?_
  refine z_get (v := .int (nI lim1)) 3 zgo_45 rfl inX4 (by decide) zw_136 rfl rfl dX4_copyFrom_26 ?_
  refine z_puti 3 tyX4 zgo_1 rfl inX4 tyX4_ok nmX4 (by decide) zw_136 rfl rfl (by decide +kernel) (Nat.le_of_ble_eq_true rfl) dX4_copyFrom_29 ?_
  refine z_eqh (h2 := (zHp (c1, r1, w1, lim1, tol, cart, wov, lot, sew, mis, cnt, col, len, lef, sbt, shd) (sa, (c1, r1, w1, lim1, tol1, cart1, wov1, lot1, sew1, mis1, cnt1, col1, len1, lef1, sbt1, shd1), sc, sd, hcn, hnx, byt, tln, num, wrd, pos, flt) Y out)) zsf_1_3 ?_
  refine z_aload_n 0 dX4_copyFrom_32 rfl rfl ?_
  refine z_aload_n 1 dX4_copyFrom_33 rfl rfl ?_
  refine z_get (v := .int tol1) 4 zgo_45 rfl inX4 (by decide) zw_138 rfl rfl dX4_copyFrom_34 ?_
  refine z_puti 4 tyX4 zgo_1 rfl inX4 tyX4_ok nmX4 (by decide) zw_138 rfl rfl (by decide +kernel) (Nat.le_of_ble_eq_true rfl) dX4_copyFrom_37 ?_
  refine z_eqh (h2 := (zHp (c1, r1, w1, lim1, tol1, cart, wov, lot, sew, mis, cnt, col, len, lef, sbt, shd) (sa, (c1, r1, w1, lim1, tol1, cart1, wov1, lot1, sew1, mis1, cnt1, col1, len1, lef1, sbt1, shd1), sc, sd, hcn, hnx, byt, tln, num, wrd, pos, flt) Y out)) zsf_1_4 ?_
  refine z_aload_n 0 dX4_copyFrom_40 rfl rfl ?_
  refine z_get (v := .ref 2) 5 zgo_1 rfl inX4 (by decide) zw_139 rfl rfl dX4_copyFrom_41 ?_
  refine z_aload_n 1 dX4_copyFrom_44 rfl rfl ?_
  refine z_get (v := .ref 46) 5 zgo_45 rfl inX4 (by decide) zw_139 rfl rfl dX4_copyFrom_45 ?_
  refine z_callV (N := mX2_copyFrom) 1 [.ref 46] [] lX2_copyFrom ⟨zw_610, zw_611, zw_612⟩ rfl zgo_2 rfl rfl (Nat.le_of_ble_eq_true rfl) (by decide) ⟨zlt, zlt⟩ ⟨Nat.zero_le _, Nat.zero_le _⟩ zal (c_gCopy (g := 2) (v := 3) (g2 := 46) (v2 := 47) (f := cart) (f2 := cart1) (h1 := (zHp (c1, r1, w1, lim1, tol1, (zFl cart1 cart 320), wov, lot, sew, mis, cnt, col, len, lef, sbt, shd) (sa, (c1, r1, w1, lim1, tol1, cart1, wov1, lot1, sew1, mis1, cnt1, col1, len1, lef1, sbt1, shd1), sc, sd, hcn, hnx, byt, tln, num, wrd, pos, flt) Y out)) zlt zgo_2 zga_3 zgo_46 zga_47 (by decide) zsa_3) dX4_copyFrom_48 ?_
  refine z_aload_n 0 dX4_copyFrom_51 rfl rfl ?_
  refine z_get (v := .ref 4) 6 zgo_1 rfl inX4 (by decide) zw_141 rfl rfl dX4_copyFrom_52 ?_
  refine z_aload_n 1 dX4_copyFrom_55 rfl rfl ?_
  refine z_get (v := .ref 48) 6 zgo_45 rfl inX4 (by decide) zw_141 rfl rfl dX4_copyFrom_56 ?_
  refine z_callV (N := mX2_copyFrom) 1 [.ref 48] [] lX2_copyFrom ⟨zw_610, zw_611, zw_612⟩ rfl zgo_4 rfl rfl (Nat.le_of_ble_eq_true rfl) (by decide) ⟨zlt, zlt⟩ ⟨Nat.zero_le _, Nat.zero_le _⟩ zal (c_gCopy (g := 4) (v := 5) (g2 := 48) (v2 := 49) (f := wov) (f2 := wov1) (h1 := (zHp (c1, r1, w1, lim1, tol1, (zFl cart1 cart 320), (zFl wov1 wov 320), lot, sew, mis, cnt, col, len, lef, sbt, shd) (sa, (c1, r1, w1, lim1, tol1, cart1, wov1, lot1, sew1, mis1, cnt1, col1, len1, lef1, sbt1, shd1), sc, sd, hcn, hnx, byt, tln, num, wrd, pos, flt) Y out)) zlt zgo_4 zga_5 zgo_48 zga_49 (by decide) zsa_5) dX4_copyFrom_59 ?_
  refine z_aload_n 0 dX4_copyFrom_62 rfl rfl ?_
  refine z_get (v := .ref 6) 7 zgo_1 rfl inX4 (by decide) zw_142 rfl rfl dX4_copyFrom_63 ?_
  refine z_aload_n 1 dX4_copyFrom_66 rfl rfl ?_
  refine z_get (v := .ref 50) 7 zgo_45 rfl inX4 (by decide) zw_142 rfl rfl dX4_copyFrom_67 ?_
  refine z_callV (N := mX2_copyFrom) 1 [.ref 50] [] lX2_copyFrom ⟨zw_610, zw_611, zw_612⟩ rfl zgo_6 rfl rfl (Nat.le_of_ble_eq_true rfl) (by decide) ⟨zlt, zlt⟩ ⟨Nat.zero_le _, Nat.zero_le _⟩ zal (c_gCopy (g := 6) (v := 7) (g2 := 50) (v2 := 51) (f := lot) (f2 := lot1) (h1 := (zHp (c1, r1, w1, lim1, tol1, (zFl cart1 cart 320), (zFl wov1 wov 320), (zFl lot1 lot 320), sew, mis, cnt, col, len, lef, sbt, shd) (sa, (c1, r1, w1, lim1, tol1, cart1, wov1, lot1, sew1, mis1, cnt1, col1, len1, lef1, sbt1, shd1), sc, sd, hcn, hnx, byt, tln, num, wrd, pos, flt) Y out)) zlt zgo_6 zga_7 zgo_50 zga_51 (by decide) zsa_7) dX4_copyFrom_70 ?_
  refine z_aload_n 0 dX4_copyFrom_73 rfl rfl ?_
  refine z_get (v := .ref 8) 8 zgo_1 rfl inX4 (by decide) zw_143 rfl rfl dX4_copyFrom_74 ?_
  refine z_aload_n 1 dX4_copyFrom_77 rfl rfl ?_
  refine z_get (v := .ref 52) 8 zgo_45 rfl inX4 (by decide) zw_143 rfl rfl dX4_copyFrom_78 ?_
  refine z_callV (N := mX2_copyFrom) 1 [.ref 52] [] lX2_copyFrom ⟨zw_610, zw_611, zw_612⟩ rfl zgo_8 rfl rfl (Nat.le_of_ble_eq_true rfl) (by decide) ⟨zlt, zlt⟩ ⟨Nat.zero_le _, Nat.zero_le _⟩ zal (c_gCopy (g := 8) (v := 9) (g2 := 52) (v2 := 53) (f := sew) (f2 := sew1) (h1 := (zHp (c1, r1, w1, lim1, tol1, (zFl cart1 cart 320), (zFl wov1 wov 320), (zFl lot1 lot 320), (zFl sew1 sew 320), mis, cnt, col, len, lef, sbt, shd) (sa, (c1, r1, w1, lim1, tol1, cart1, wov1, lot1, sew1, mis1, cnt1, col1, len1, lef1, sbt1, shd1), sc, sd, hcn, hnx, byt, tln, num, wrd, pos, flt) Y out)) zlt zgo_8 zga_9 zgo_52 zga_53 (by decide) zsa_9) dX4_copyFrom_81 ?_
  refine z_aload_n 0 dX4_copyFrom_84 rfl rfl ?_
  refine z_get (v := .ref 10) 9 zgo_1 rfl inX4 (by decide) zw_144 rfl rfl dX4_copyFrom_85 ?_
  refine z_aload_n 1 dX4_copyFrom_88 rfl rfl ?_
  refine z_get (v := .ref 54) 9 zgo_45 rfl inX4 (by decide) zw_144 rfl rfl dX4_copyFrom_89 ?_
  refine z_callV (N := mX6_copyFrom) 1 [.ref 54] [] lX6_copyFrom ⟨zw_614, zw_615, zw_616⟩ rfl zgo_10 rfl rfl (Nat.le_of_ble_eq_true rfl) (by decide) ⟨zlt, zlt⟩ ⟨Nat.zero_le _, Nat.zero_le _⟩ zal (c_nCopy (g := 10) (v := 11) (g2 := 54) (v2 := 55) (f := mis) (f2 := mis1) (h1 := (zHp (c1, r1, w1, lim1, tol1, (zFl cart1 cart 320), (zFl wov1 wov 320), (zFl lot1 lot 320), (zFl sew1 sew 320), (zFl mis1 mis 20), cnt, col, len, lef, sbt, shd) (sa, (c1, r1, w1, lim1, tol1, cart1, wov1, lot1, sew1, mis1, cnt1, col1, len1, lef1, sbt1, shd1), sc, sd, hcn, hnx, byt, tln, num, wrd, pos, flt) Y out)) (n := 20) (by omega) zlt zgo_10 zga_11 zgo_54 zga_55 (by decide) zsa_11) dX4_copyFrom_92 ?_
  refine z_aload_n 0 dX4_copyFrom_95 rfl rfl ?_
  refine z_get (v := .ref 12) 10 zgo_1 rfl inX4 (by decide) zw_145 rfl rfl dX4_copyFrom_96 ?_
  refine z_aload_n 1 dX4_copyFrom_99 rfl rfl ?_
  refine z_get (v := .ref 56) 10 zgo_45 rfl inX4 (by decide) zw_145 rfl rfl dX4_copyFrom_100 ?_
  refine z_callV (N := mX5_copyFrom) 1 [.ref 56] [] lX5_copyFrom ⟨zw_619, zw_620, zw_621⟩ rfl zgo_12 rfl rfl (Nat.le_of_ble_eq_true rfl) (by decide) ⟨zlt, zlt⟩ ⟨Nat.zero_le _, Nat.zero_le _⟩ zal (c_lcopy_1_45 (sa := sa) (sb := sb) (sc := sc) (sd := sd) hG) dX4_copyFrom_103 ?_
  exact z_vret rfl dX4_copyFrom_106 ho9.symm (zo_h hh9 (by rfl)) (Nat.zero_le _) (Nat.zero_le _)

set_option maxHeartbeats 4000000 in
set_option maxRecDepth 100000 in
theorem c_lcopy_66_1 {G : zT} {c : Nat} {r : Nat} {w : Nat} {lim : Nat} {tol : Int32} {cart : Nat → Int32} {wov : Nat → Int32} {lot : Nat → Int32} {sew : Nat → Int32} {mis : Nat → Int32} {cnt : Nat} {col : Nat → Int32} {len : Nat → Int32} {lef : Nat → Int32} {sbt : Nat → Int32} {shd : Nat → UInt32} {c1 : Nat} {r1 : Nat} {w1 : Nat} {lim1 : Nat} {tol1 : Int32} {cart1 : Nat → Int32} {wov1 : Nat → Int32} {lot1 : Nat → Int32} {sew1 : Nat → Int32} {mis1 : Nat → Int32} {cnt1 : Nat} {col1 : Nat → Int32} {len1 : Nat → Int32} {lef1 : Nat → Int32} {sbt1 : Nat → Int32} {shd1 : Nat → UInt32} {sa sb sc sd : zS} {hcn hnx tln wrd pos : Nat} {byt num : Nat → Int32} {flt : Int32} {Y : zYr} {out : Nat → Int64} (hG : zAl G = false) : zRun G mX5_copyFrom 0 0 [.ref 77, .ref 12] (zHp (c, r, w, lim, tol, cart, wov, lot, sew, mis, cnt, col, len, lef, sbt, shd) (sa, sb, (c1, r1, w1, lim1, tol1, cart1, wov1, lot1, sew1, mis1, cnt1, col1, len1, lef1, sbt1, shd1), sd, hcn, hnx, byt, tln, num, wrd, pos, flt) Y out) (.inr none) (zHp (c, r, w, lim, tol, cart, wov, lot, sew, mis, cnt, col, len, lef, sbt, shd) (sa, sb, (c1, r1, w1, lim1, tol1, cart1, wov1, lot1, sew1, mis1, cnt, (zFl col col1 16), (zFl len len1 16), (zFl lef lef1 16), (zFl sbt sbt1 16), (zFl shd shd1 16)), sd, hcn, hnx, byt, tln, num, wrd, pos, flt) Y out) := by
  refine zRun_of (by decide +kernel) rfl rfl (Nat.le_of_ble_eq_true rfl) ?_
  suffices hs : ∀ (o9 : zO) (h9 : zH), (Sum.inr none : zO) = o9 → (zHp (c, r, w, lim, tol, cart, wov, lot, sew, mis, cnt, col, len, lef, sbt, shd) (sa, sb, (c1, r1, w1, lim1, tol1, cart1, wov1, lot1, sew1, mis1, cnt, (zFl col col1 16), (zFl len len1 16), (zFl lef lef1 16), (zFl sbt sbt1 16), (zFl shd shd1 16)), sd, hcn, hnx, byt, tln, num, wrd, pos, flt) Y out) = h9 → zPW G mX5_copyFrom 0 0 o9 h9 0 0 0 [(0, .ref 77), (1, .ref 12)] [] (zHp (c, r, w, lim, tol, cart, wov, lot, sew, mis, cnt, col, len, lef, sbt, shd) (sa, sb, (c1, r1, w1, lim1, tol1, cart1, wov1, lot1, sew1, mis1, cnt1, col1, len1, lef1, sbt1, shd1), sd, hcn, hnx, byt, tln, num, wrd, pos, flt) Y out) from hs _ _ rfl rfl
  intro o9 h9 ho9 hh9
  refine z_aload_n 0 dX5_copyFrom_0 rfl rfl ?_
  refine z_aload_n 1 dX5_copyFrom_1 rfl rfl ?_
  refine z_get (v := .int (nI cnt)) 0 zgo_12 rfl inX5 (by decide) zw_100 rfl rfl dX5_copyFrom_2 ?_
  refine z_puti 0 tyX5 zgo_77 rfl inX5 tyX5_ok nmX5 (by decide) zw_100 rfl rfl (by decide +kernel) (Nat.le_of_ble_eq_true rfl) dX5_copyFrom_5 ?_
  refine z_eqh (h2 := (zHp (c, r, w, lim, tol, cart, wov, lot, sew, mis, cnt, col, len, lef, sbt, shd) (sa, sb, (c1, r1, w1, lim1, tol1, cart1, wov1, lot1, sew1, mis1, cnt, col1, len1, lef1, sbt1, shd1), sd, hcn, hnx, byt, tln, num, wrd, pos, flt) Y out)) zsf_77_0 ?_
  refine z_aload_n 0 dX5_copyFrom_8 rfl rfl ?_
  refine z_get (v := .ref 78) 1 zgo_77 rfl inX5 (by decide) zw_103 rfl rfl dX5_copyFrom_9 ?_
  refine z_aload_n 1 dX5_copyFrom_12 rfl rfl ?_
  refine z_get (v := .ref 13) 1 zgo_12 rfl inX5 (by decide) zw_103 rfl rfl dX5_copyFrom_13 ?_
  refine z_callV (N := mX6_copyFrom) 1 [.ref 13] [] lX6_copyFrom ⟨zw_623, zw_615, zw_616⟩ rfl zgo_78 rfl rfl (Nat.le_of_ble_eq_true rfl) (by decide) ⟨zlt, zlt⟩ ⟨Nat.zero_le _, Nat.zero_le _⟩ zal (c_nCopy (g := 78) (v := 79) (g2 := 13) (v2 := 14) (f := col1) (f2 := col) (h1 := (zHp (c, r, w, lim, tol, cart, wov, lot, sew, mis, cnt, col, len, lef, sbt, shd) (sa, sb, (c1, r1, w1, lim1, tol1, cart1, wov1, lot1, sew1, mis1, cnt, (zFl col col1 16), len1, lef1, sbt1, shd1), sd, hcn, hnx, byt, tln, num, wrd, pos, flt) Y out)) (n := 16) (by omega) zlt zgo_78 zga_79 zgo_13 zga_14 (by decide) zsa_79) dX5_copyFrom_16 ?_
  refine z_aload_n 0 dX5_copyFrom_19 rfl rfl ?_
  refine z_get (v := .ref 80) 2 zgo_77 rfl inX5 (by decide) zw_105 rfl rfl dX5_copyFrom_20 ?_
  refine z_aload_n 1 dX5_copyFrom_23 rfl rfl ?_
  refine z_get (v := .ref 15) 2 zgo_12 rfl inX5 (by decide) zw_105 rfl rfl dX5_copyFrom_24 ?_
  refine z_callV (N := mX6_copyFrom) 1 [.ref 15] [] lX6_copyFrom ⟨zw_623, zw_615, zw_616⟩ rfl zgo_80 rfl rfl (Nat.le_of_ble_eq_true rfl) (by decide) ⟨zlt, zlt⟩ ⟨Nat.zero_le _, Nat.zero_le _⟩ zal (c_nCopy (g := 80) (v := 81) (g2 := 15) (v2 := 16) (f := len1) (f2 := len) (h1 := (zHp (c, r, w, lim, tol, cart, wov, lot, sew, mis, cnt, col, len, lef, sbt, shd) (sa, sb, (c1, r1, w1, lim1, tol1, cart1, wov1, lot1, sew1, mis1, cnt, (zFl col col1 16), (zFl len len1 16), lef1, sbt1, shd1), sd, hcn, hnx, byt, tln, num, wrd, pos, flt) Y out)) (n := 16) (by omega) zlt zgo_80 zga_81 zgo_15 zga_16 (by decide) zsa_81) dX5_copyFrom_27 ?_
  refine z_aload_n 0 dX5_copyFrom_30 rfl rfl ?_
  refine z_get (v := .ref 82) 3 zgo_77 rfl inX5 (by decide) zw_107 rfl rfl dX5_copyFrom_31 ?_
  refine z_aload_n 1 dX5_copyFrom_34 rfl rfl ?_
  refine z_get (v := .ref 17) 3 zgo_12 rfl inX5 (by decide) zw_107 rfl rfl dX5_copyFrom_35 ?_
  refine z_callV (N := mX6_copyFrom) 1 [.ref 17] [] lX6_copyFrom ⟨zw_623, zw_615, zw_616⟩ rfl zgo_82 rfl rfl (Nat.le_of_ble_eq_true rfl) (by decide) ⟨zlt, zlt⟩ ⟨Nat.zero_le _, Nat.zero_le _⟩ zal (c_nCopy (g := 82) (v := 83) (g2 := 17) (v2 := 18) (f := lef1) (f2 := lef) (h1 := (zHp (c, r, w, lim, tol, cart, wov, lot, sew, mis, cnt, col, len, lef, sbt, shd) (sa, sb, (c1, r1, w1, lim1, tol1, cart1, wov1, lot1, sew1, mis1, cnt, (zFl col col1 16), (zFl len len1 16), (zFl lef lef1 16), sbt1, shd1), sd, hcn, hnx, byt, tln, num, wrd, pos, flt) Y out)) (n := 16) (by omega) zlt zgo_82 zga_83 zgo_17 zga_18 (by decide) zsa_83) dX5_copyFrom_38 ?_
  refine z_aload_n 0 dX5_copyFrom_41 rfl rfl ?_
  refine z_get (v := .ref 84) 4 zgo_77 rfl inX5 (by decide) zw_109 rfl rfl dX5_copyFrom_42 ?_
  refine z_aload_n 1 dX5_copyFrom_45 rfl rfl ?_
  refine z_get (v := .ref 19) 4 zgo_12 rfl inX5 (by decide) zw_109 rfl rfl dX5_copyFrom_46 ?_
  refine z_callV (N := mX6_copyFrom) 1 [.ref 19] [] lX6_copyFrom ⟨zw_623, zw_615, zw_616⟩ rfl zgo_84 rfl rfl (Nat.le_of_ble_eq_true rfl) (by decide) ⟨zlt, zlt⟩ ⟨Nat.zero_le _, Nat.zero_le _⟩ zal (c_nCopy (g := 84) (v := 85) (g2 := 19) (v2 := 20) (f := sbt1) (f2 := sbt) (h1 := (zHp (c, r, w, lim, tol, cart, wov, lot, sew, mis, cnt, col, len, lef, sbt, shd) (sa, sb, (c1, r1, w1, lim1, tol1, cart1, wov1, lot1, sew1, mis1, cnt, (zFl col col1 16), (zFl len len1 16), (zFl lef lef1 16), (zFl sbt sbt1 16), shd1), sd, hcn, hnx, byt, tln, num, wrd, pos, flt) Y out)) (n := 16) (by omega) zlt zgo_84 zga_85 zgo_19 zga_20 (by decide) zsa_85) dX5_copyFrom_49 ?_
  refine z_iconst (v := 0) dX5_copyFrom_52 (by decide) ?_
  refine z_istore_n (lv' := [(2, .int 0), (0, .ref 77), (1, .ref 12)]) dX5_copyFrom_53 rfl (by decide) rfl ?_
  have L54_1 : ∀ (d k : Nat), k ≤ 16 → 16 + 1 ≤ k + d → zPW G mX5_copyFrom 0 0 o9 h9 0 0 54 [(2, .int (nI k)), (0, .ref 77), (1, .ref 12)] [] (zHp (c, r, w, lim, tol, cart, wov, lot, sew, mis, cnt, col, len, lef, sbt, shd) (sa, sb, (c1, r1, w1, lim1, tol1, cart1, wov1, lot1, sew1, mis1, cnt, (zFl col col1 16), (zFl len len1 16), (zFl lef lef1 16), (zFl sbt sbt1 16), (zFl shd shd1 k)), sd, hcn, hnx, byt, tln, num, wrd, pos, flt) Y out) := by
    intro d
    induction d with
    | zero => intro k hk hd; exact absurd hd (by omega)
    | succ d ih =>
      intro k hk_k hd_k
      have ih54 := ih
      clear ih
      refine z_iload_n 0 dX5_copyFrom_54 rfl rfl ?_
      refine z_bipush (v := nI 16) dX5_copyFrom_55 (by decide) ?_
      refine z_icmp_ge (tgt := 76) dX5_copyFrom_57 (by decide) (fun c_57 => ?_) (fun c_57 => ?_)
      · skip
        have hx_k := zge (by omega) hk_k c_57
        exact z_vret rfl dX5_copyFrom_76 ho9.symm (zo_h hh9 (by rw [hx_k])) (Nat.zero_le _) (Nat.zero_le _)
      · skip
        have hx_k := zlt' (by omega) hk_k c_57
        refine z_aload_n 1 dX5_copyFrom_60 rfl rfl ?_
        refine z_iload_n 0 dX5_copyFrom_61 rfl rfl ?_
        refine z_aload_n 2 dX5_copyFrom_62 rfl rfl ?_
        refine z_iload_n 0 dX5_copyFrom_63 rfl rfl ?_
        refine z_callV (N := mX5_shadeOf) 1 [.int (nI k)] [.int (nI k), .ref 77] lX5_shadeOf ⟨zw_624, zw_335, zw_336⟩ rfl zgo_12 rfl rfl (Nat.le_of_ble_eq_true rfl) (by decide) ⟨zlt, zlt⟩ ⟨Nat.zero_le _, Nat.zero_le _⟩ (fun _ => rfl) (c_lShade (g := 12) (v := 21) (f := shd) zlt zgo_12 zga_21 (nI k)) dX5_copyFrom_64 ?_
        refine z_callV (N := mX5_putShade) 2 [.int (nI k), .float (zSh shd (nI k))] [] lX5_putShade ⟨zw_625, zw_627, zw_28⟩ rfl zgo_77 rfl rfl (Nat.le_of_ble_eq_true rfl) (by decide) ⟨zlt, zlt⟩ ⟨Nat.zero_le _, Nat.zero_le _⟩ zal (c_lPutShade (g := 77) (v := 86) (f := (zFl shd shd1 k)) (h1 := (zHp (c, r, w, lim, tol, cart, wov, lot, sew, mis, cnt, col, len, lef, sbt, shd) (sa, sb, (c1, r1, w1, lim1, tol1, cart1, wov1, lot1, sew1, mis1, cnt, (zFl col col1 16), (zFl len len1 16), (zFl lef lef1 16), (zFl sbt sbt1 16), (zPutS (zFl shd shd1 k) (nI k) (zSh shd (nI k)))), sd, hcn, hnx, byt, tln, num, wrd, pos, flt) Y out)) zlt zgo_77 zga_86 (nI k) (zSh shd (nI k)) zsa_86) dX5_copyFrom_67 ?_
        refine z_iinc (v := nI (k + 1)) (lv' := [(2, .int (nI (k + 1))), (0, .ref 77), (1, .ref 12)]) 0 dX5_copyFrom_70 rfl (nI_1 k) (by decide) rfl ?_
        refine z_goto (tgt := 54) dX5_copyFrom_73 (by decide) ?_
        refine z_sub [0, 1, 2] (lv' := [(2, .int (nI (k + 1))), (0, .ref 77), (1, .ref 12)]) rfl ?_
        refine z_eqs (lv2 := [(2, .int (nI (k + 1))), (0, .ref 77), (1, .ref 12)]) (h2 := (zHp (c, r, w, lim, tol, cart, wov, lot, sew, mis, cnt, col, len, lef, sbt, shd) (sa, sb, (c1, r1, w1, lim1, tol1, cart1, wov1, lot1, sew1, mis1, cnt, (zFl col col1 16), (zFl len len1 16), (zFl lef lef1 16), (zFl sbt sbt1 16), (zFl shd shd1 (k + 1))), sd, hcn, hnx, byt, tln, num, wrd, pos, flt) Y out)) (by rfl) (by rw [zFl_sS _ _ hx_k]) ?_
        exact ih54 (k + 1) (by omega) (by omega)
  refine z_sub [0, 1, 2] (lv' := [(2, .int 0), (0, .ref 77), (1, .ref 12)]) rfl ?_
  refine z_eqs (lv2 := [(2, .int (nI 0)), (0, .ref 77), (1, .ref 12)]) (h2 := (zHp (c, r, w, lim, tol, cart, wov, lot, sew, mis, cnt, col, len, lef, sbt, shd) (sa, sb, (c1, r1, w1, lim1, tol1, cart1, wov1, lot1, sew1, mis1, cnt, (zFl col col1 16), (zFl len len1 16), (zFl lef lef1 16), (zFl sbt sbt1 16), (zFl shd shd1 0)), sd, hcn, hnx, byt, tln, num, wrd, pos, flt) Y out)) (by rfl) (by rw [zFl_0]) ?_
  exact L54_1 (16 + 1) 0 (Nat.zero_le _) (by omega)

set_option maxHeartbeats 4000000 in
set_option maxRecDepth 100000 in
theorem c_copy_66_1 {G : zT} {c : Nat} {r : Nat} {w : Nat} {lim : Nat} {tol : Int32} {cart : Nat → Int32} {wov : Nat → Int32} {lot : Nat → Int32} {sew : Nat → Int32} {mis : Nat → Int32} {cnt : Nat} {col : Nat → Int32} {len : Nat → Int32} {lef : Nat → Int32} {sbt : Nat → Int32} {shd : Nat → UInt32} {c1 : Nat} {r1 : Nat} {w1 : Nat} {lim1 : Nat} {tol1 : Int32} {cart1 : Nat → Int32} {wov1 : Nat → Int32} {lot1 : Nat → Int32} {sew1 : Nat → Int32} {mis1 : Nat → Int32} {cnt1 : Nat} {col1 : Nat → Int32} {len1 : Nat → Int32} {lef1 : Nat → Int32} {sbt1 : Nat → Int32} {shd1 : Nat → UInt32} {sa sb sc sd : zS} {hcn hnx tln wrd pos : Nat} {byt num : Nat → Int32} {flt : Int32} {Y : zYr} {out : Nat → Int64} (hG : zAl G = false) : zRun G mX4_copyFrom 0 0 [.ref 66, .ref 1] (zHp (c, r, w, lim, tol, cart, wov, lot, sew, mis, cnt, col, len, lef, sbt, shd) (sa, sb, (c1, r1, w1, lim1, tol1, cart1, wov1, lot1, sew1, mis1, cnt1, col1, len1, lef1, sbt1, shd1), sd, hcn, hnx, byt, tln, num, wrd, pos, flt) Y out) (.inr none) (zHp (c, r, w, lim, tol, cart, wov, lot, sew, mis, cnt, col, len, lef, sbt, shd) (sa, sb, (c, r, w, lim, tol, (zFl cart cart1 320), (zFl wov wov1 320), (zFl lot lot1 320), (zFl sew sew1 320), (zFl mis mis1 20), cnt, (zFl col col1 16), (zFl len len1 16), (zFl lef lef1 16), (zFl sbt sbt1 16), (zFl shd shd1 16)), sd, hcn, hnx, byt, tln, num, wrd, pos, flt) Y out) := by
  refine zRun_of (by decide +kernel) rfl rfl (Nat.le_of_ble_eq_true rfl) ?_
  suffices hs : ∀ (o9 : zO) (h9 : zH), (Sum.inr none : zO) = o9 → (zHp (c, r, w, lim, tol, cart, wov, lot, sew, mis, cnt, col, len, lef, sbt, shd) (sa, sb, (c, r, w, lim, tol, (zFl cart cart1 320), (zFl wov wov1 320), (zFl lot lot1 320), (zFl sew sew1 320), (zFl mis mis1 20), cnt, (zFl col col1 16), (zFl len len1 16), (zFl lef lef1 16), (zFl sbt sbt1 16), (zFl shd shd1 16)), sd, hcn, hnx, byt, tln, num, wrd, pos, flt) Y out) = h9 → zPW G mX4_copyFrom 0 0 o9 h9 0 0 0 [(0, .ref 66), (1, .ref 1)] [] (zHp (c, r, w, lim, tol, cart, wov, lot, sew, mis, cnt, col, len, lef, sbt, shd) (sa, sb, (c1, r1, w1, lim1, tol1, cart1, wov1, lot1, sew1, mis1, cnt1, col1, len1, lef1, sbt1, shd1), sd, hcn, hnx, byt, tln, num, wrd, pos, flt) Y out) from hs _ _ rfl rfl
  intro o9 h9 ho9 hh9
  refine z_aload_n 0 dX4_copyFrom_0 rfl rfl ?_
  refine z_aload_n 1 dX4_copyFrom_1 rfl rfl ?_
  refine z_get (v := .int (nI c)) 0 zgo_1 rfl inX4 (by decide) zw_130 rfl rfl dX4_copyFrom_2 ?_
  refine z_puti 0 tyX4 zgo_66 rfl inX4 tyX4_ok nmX4 (by decide) zw_130 rfl rfl (by decide +kernel) (Nat.le_of_ble_eq_true rfl) dX4_copyFrom_5 ?_
  refine z_eqh (h2 := (zHp (c, r, w, lim, tol, cart, wov, lot, sew, mis, cnt, col, len, lef, sbt, shd) (sa, sb, (c, r1, w1, lim1, tol1, cart1, wov1, lot1, sew1, mis1, cnt1, col1, len1, lef1, sbt1, shd1), sd, hcn, hnx, byt, tln, num, wrd, pos, flt) Y out)) zsf_66_0 ?_
  refine z_aload_n 0 dX4_copyFrom_8 rfl rfl ?_
  refine z_aload_n 1 dX4_copyFrom_9 rfl rfl ?_
  refine z_get (v := .int (nI r)) 1 zgo_1 rfl inX4 (by decide) zw_132 rfl rfl dX4_copyFrom_10 ?_
  refine z_puti 1 tyX4 zgo_66 rfl inX4 tyX4_ok nmX4 (by decide) zw_132 rfl rfl (by decide +kernel) (Nat.le_of_ble_eq_true rfl) dX4_copyFrom_13 ?_
  refine z_eqh (h2 := (zHp (c, r, w, lim, tol, cart, wov, lot, sew, mis, cnt, col, len, lef, sbt, shd) (sa, sb, (c, r, w1, lim1, tol1, cart1, wov1, lot1, sew1, mis1, cnt1, col1, len1, lef1, sbt1, shd1), sd, hcn, hnx, byt, tln, num, wrd, pos, flt) Y out)) zsf_66_1 ?_
  refine z_aload_n 0 dX4_copyFrom_16 rfl rfl ?_
  refine z_aload_n 1 dX4_copyFrom_17 rfl rfl ?_
  refine z_get (v := .int (nI w)) 2 zgo_1 rfl inX4 (by decide) zw_134 rfl rfl dX4_copyFrom_18 ?_
  refine z_puti 2 tyX4 zgo_66 rfl inX4 tyX4_ok nmX4 (by decide) zw_134 rfl rfl (by decide +kernel) (Nat.le_of_ble_eq_true rfl) dX4_copyFrom_21 ?_
  refine z_eqh (h2 := (zHp (c, r, w, lim, tol, cart, wov, lot, sew, mis, cnt, col, len, lef, sbt, shd) (sa, sb, (c, r, w, lim1, tol1, cart1, wov1, lot1, sew1, mis1, cnt1, col1, len1, lef1, sbt1, shd1), sd, hcn, hnx, byt, tln, num, wrd, pos, flt) Y out)) zsf_66_2 ?_
  refine z_aload_n 0 dX4_copyFrom_24 rfl rfl ?_
  refine z_aload_n 1 dX4_copyFrom_25 rfl rfl ?_
  refine z_get (v := .int (nI lim)) 3 zgo_1 rfl inX4 (by decide) zw_136 rfl rfl dX4_copyFrom_26 ?_
  refine z_puti 3 tyX4 zgo_66 rfl inX4 tyX4_ok nmX4 (by decide) zw_136 rfl rfl (by decide +kernel) (Nat.le_of_ble_eq_true rfl) dX4_copyFrom_29 ?_
  refine z_eqh (h2 := (zHp (c, r, w, lim, tol, cart, wov, lot, sew, mis, cnt, col, len, lef, sbt, shd) (sa, sb, (c, r, w, lim, tol1, cart1, wov1, lot1, sew1, mis1, cnt1, col1, len1, lef1, sbt1, shd1), sd, hcn, hnx, byt, tln, num, wrd, pos, flt) Y out)) zsf_66_3 ?_
  refine z_aload_n 0 dX4_copyFrom_32 rfl rfl ?_
  refine z_aload_n 1 dX4_copyFrom_33 rfl rfl ?_
  refine z_get (v := .int tol) 4 zgo_1 rfl inX4 (by decide) zw_138 rfl rfl dX4_copyFrom_34 ?_
  refine z_puti 4 tyX4 zgo_66 rfl inX4 tyX4_ok nmX4 (by decide) zw_138 rfl rfl (by decide +kernel) (Nat.le_of_ble_eq_true rfl) dX4_copyFrom_37 ?_
  refine z_eqh (h2 := (zHp (c, r, w, lim, tol, cart, wov, lot, sew, mis, cnt, col, len, lef, sbt, shd) (sa, sb, (c, r, w, lim, tol, cart1, wov1, lot1, sew1, mis1, cnt1, col1, len1, lef1, sbt1, shd1), sd, hcn, hnx, byt, tln, num, wrd, pos, flt) Y out)) zsf_66_4 ?_
  refine z_aload_n 0 dX4_copyFrom_40 rfl rfl ?_
  refine z_get (v := .ref 67) 5 zgo_66 rfl inX4 (by decide) zw_139 rfl rfl dX4_copyFrom_41 ?_
  refine z_aload_n 1 dX4_copyFrom_44 rfl rfl ?_
  refine z_get (v := .ref 2) 5 zgo_1 rfl inX4 (by decide) zw_139 rfl rfl dX4_copyFrom_45 ?_
  refine z_callV (N := mX2_copyFrom) 1 [.ref 2] [] lX2_copyFrom ⟨zw_610, zw_611, zw_612⟩ rfl zgo_67 rfl rfl (Nat.le_of_ble_eq_true rfl) (by decide) ⟨zlt, zlt⟩ ⟨Nat.zero_le _, Nat.zero_le _⟩ zal (c_gCopy (g := 67) (v := 68) (g2 := 2) (v2 := 3) (f := cart1) (f2 := cart) (h1 := (zHp (c, r, w, lim, tol, cart, wov, lot, sew, mis, cnt, col, len, lef, sbt, shd) (sa, sb, (c, r, w, lim, tol, (zFl cart cart1 320), wov1, lot1, sew1, mis1, cnt1, col1, len1, lef1, sbt1, shd1), sd, hcn, hnx, byt, tln, num, wrd, pos, flt) Y out)) zlt zgo_67 zga_68 zgo_2 zga_3 (by decide) zsa_68) dX4_copyFrom_48 ?_
  refine z_aload_n 0 dX4_copyFrom_51 rfl rfl ?_
  refine z_get (v := .ref 69) 6 zgo_66 rfl inX4 (by decide) zw_141 rfl rfl dX4_copyFrom_52 ?_
  refine z_aload_n 1 dX4_copyFrom_55 rfl rfl ?_
  refine z_get (v := .ref 4) 6 zgo_1 rfl inX4 (by decide) zw_141 rfl rfl dX4_copyFrom_56 ?_
  refine z_callV (N := mX2_copyFrom) 1 [.ref 4] [] lX2_copyFrom ⟨zw_610, zw_611, zw_612⟩ rfl zgo_69 rfl rfl (Nat.le_of_ble_eq_true rfl) (by decide) ⟨zlt, zlt⟩ ⟨Nat.zero_le _, Nat.zero_le _⟩ zal (c_gCopy (g := 69) (v := 70) (g2 := 4) (v2 := 5) (f := wov1) (f2 := wov) (h1 := (zHp (c, r, w, lim, tol, cart, wov, lot, sew, mis, cnt, col, len, lef, sbt, shd) (sa, sb, (c, r, w, lim, tol, (zFl cart cart1 320), (zFl wov wov1 320), lot1, sew1, mis1, cnt1, col1, len1, lef1, sbt1, shd1), sd, hcn, hnx, byt, tln, num, wrd, pos, flt) Y out)) zlt zgo_69 zga_70 zgo_4 zga_5 (by decide) zsa_70) dX4_copyFrom_59 ?_
  refine z_aload_n 0 dX4_copyFrom_62 rfl rfl ?_
  refine z_get (v := .ref 71) 7 zgo_66 rfl inX4 (by decide) zw_142 rfl rfl dX4_copyFrom_63 ?_
  refine z_aload_n 1 dX4_copyFrom_66 rfl rfl ?_
  refine z_get (v := .ref 6) 7 zgo_1 rfl inX4 (by decide) zw_142 rfl rfl dX4_copyFrom_67 ?_
  refine z_callV (N := mX2_copyFrom) 1 [.ref 6] [] lX2_copyFrom ⟨zw_610, zw_611, zw_612⟩ rfl zgo_71 rfl rfl (Nat.le_of_ble_eq_true rfl) (by decide) ⟨zlt, zlt⟩ ⟨Nat.zero_le _, Nat.zero_le _⟩ zal (c_gCopy (g := 71) (v := 72) (g2 := 6) (v2 := 7) (f := lot1) (f2 := lot) (h1 := (zHp (c, r, w, lim, tol, cart, wov, lot, sew, mis, cnt, col, len, lef, sbt, shd) (sa, sb, (c, r, w, lim, tol, (zFl cart cart1 320), (zFl wov wov1 320), (zFl lot lot1 320), sew1, mis1, cnt1, col1, len1, lef1, sbt1, shd1), sd, hcn, hnx, byt, tln, num, wrd, pos, flt) Y out)) zlt zgo_71 zga_72 zgo_6 zga_7 (by decide) zsa_72) dX4_copyFrom_70 ?_
  refine z_aload_n 0 dX4_copyFrom_73 rfl rfl ?_
  refine z_get (v := .ref 73) 8 zgo_66 rfl inX4 (by decide) zw_143 rfl rfl dX4_copyFrom_74 ?_
  refine z_aload_n 1 dX4_copyFrom_77 rfl rfl ?_
  refine z_get (v := .ref 8) 8 zgo_1 rfl inX4 (by decide) zw_143 rfl rfl dX4_copyFrom_78 ?_
  refine z_callV (N := mX2_copyFrom) 1 [.ref 8] [] lX2_copyFrom ⟨zw_610, zw_611, zw_612⟩ rfl zgo_73 rfl rfl (Nat.le_of_ble_eq_true rfl) (by decide) ⟨zlt, zlt⟩ ⟨Nat.zero_le _, Nat.zero_le _⟩ zal (c_gCopy (g := 73) (v := 74) (g2 := 8) (v2 := 9) (f := sew1) (f2 := sew) (h1 := (zHp (c, r, w, lim, tol, cart, wov, lot, sew, mis, cnt, col, len, lef, sbt, shd) (sa, sb, (c, r, w, lim, tol, (zFl cart cart1 320), (zFl wov wov1 320), (zFl lot lot1 320), (zFl sew sew1 320), mis1, cnt1, col1, len1, lef1, sbt1, shd1), sd, hcn, hnx, byt, tln, num, wrd, pos, flt) Y out)) zlt zgo_73 zga_74 zgo_8 zga_9 (by decide) zsa_74) dX4_copyFrom_81 ?_
  refine z_aload_n 0 dX4_copyFrom_84 rfl rfl ?_
  refine z_get (v := .ref 75) 9 zgo_66 rfl inX4 (by decide) zw_144 rfl rfl dX4_copyFrom_85 ?_
  refine z_aload_n 1 dX4_copyFrom_88 rfl rfl ?_
  refine z_get (v := .ref 10) 9 zgo_1 rfl inX4 (by decide) zw_144 rfl rfl dX4_copyFrom_89 ?_
  refine z_callV (N := mX6_copyFrom) 1 [.ref 10] [] lX6_copyFrom ⟨zw_614, zw_615, zw_616⟩ rfl zgo_75 rfl rfl (Nat.le_of_ble_eq_true rfl) (by decide) ⟨zlt, zlt⟩ ⟨Nat.zero_le _, Nat.zero_le _⟩ zal (c_nCopy (g := 75) (v := 76) (g2 := 10) (v2 := 11) (f := mis1) (f2 := mis) (h1 := (zHp (c, r, w, lim, tol, cart, wov, lot, sew, mis, cnt, col, len, lef, sbt, shd) (sa, sb, (c, r, w, lim, tol, (zFl cart cart1 320), (zFl wov wov1 320), (zFl lot lot1 320), (zFl sew sew1 320), (zFl mis mis1 20), cnt1, col1, len1, lef1, sbt1, shd1), sd, hcn, hnx, byt, tln, num, wrd, pos, flt) Y out)) (n := 20) (by omega) zlt zgo_75 zga_76 zgo_10 zga_11 (by decide) zsa_76) dX4_copyFrom_92 ?_
  refine z_aload_n 0 dX4_copyFrom_95 rfl rfl ?_
  refine z_get (v := .ref 77) 10 zgo_66 rfl inX4 (by decide) zw_145 rfl rfl dX4_copyFrom_96 ?_
  refine z_aload_n 1 dX4_copyFrom_99 rfl rfl ?_
  refine z_get (v := .ref 12) 10 zgo_1 rfl inX4 (by decide) zw_145 rfl rfl dX4_copyFrom_100 ?_
  refine z_callV (N := mX5_copyFrom) 1 [.ref 12] [] lX5_copyFrom ⟨zw_619, zw_620, zw_621⟩ rfl zgo_77 rfl rfl (Nat.le_of_ble_eq_true rfl) (by decide) ⟨zlt, zlt⟩ ⟨Nat.zero_le _, Nat.zero_le _⟩ zal (c_lcopy_66_1 (sa := sa) (sb := sb) (sc := sc) (sd := sd) hG) dX4_copyFrom_103 ?_
  exact z_vret rfl dX4_copyFrom_106 ho9.symm (zo_h hh9 (by rfl)) (Nat.zero_le _) (Nat.zero_le _)

set_option maxHeartbeats 4000000 in
set_option maxRecDepth 100000 in
theorem c_lcopy_1_66 {G : zT} {c : Nat} {r : Nat} {w : Nat} {lim : Nat} {tol : Int32} {cart : Nat → Int32} {wov : Nat → Int32} {lot : Nat → Int32} {sew : Nat → Int32} {mis : Nat → Int32} {cnt : Nat} {col : Nat → Int32} {len : Nat → Int32} {lef : Nat → Int32} {sbt : Nat → Int32} {shd : Nat → UInt32} {c1 : Nat} {r1 : Nat} {w1 : Nat} {lim1 : Nat} {tol1 : Int32} {cart1 : Nat → Int32} {wov1 : Nat → Int32} {lot1 : Nat → Int32} {sew1 : Nat → Int32} {mis1 : Nat → Int32} {cnt1 : Nat} {col1 : Nat → Int32} {len1 : Nat → Int32} {lef1 : Nat → Int32} {sbt1 : Nat → Int32} {shd1 : Nat → UInt32} {sa sb sc sd : zS} {hcn hnx tln wrd pos : Nat} {byt num : Nat → Int32} {flt : Int32} {Y : zYr} {out : Nat → Int64} (hG : zAl G = false) : zRun G mX5_copyFrom 0 0 [.ref 12, .ref 77] (zHp (c, r, w, lim, tol, cart, wov, lot, sew, mis, cnt, col, len, lef, sbt, shd) (sa, sb, (c1, r1, w1, lim1, tol1, cart1, wov1, lot1, sew1, mis1, cnt1, col1, len1, lef1, sbt1, shd1), sd, hcn, hnx, byt, tln, num, wrd, pos, flt) Y out) (.inr none) (zHp (c, r, w, lim, tol, cart, wov, lot, sew, mis, cnt1, (zFl col1 col 16), (zFl len1 len 16), (zFl lef1 lef 16), (zFl sbt1 sbt 16), (zFl shd1 shd 16)) (sa, sb, (c1, r1, w1, lim1, tol1, cart1, wov1, lot1, sew1, mis1, cnt1, col1, len1, lef1, sbt1, shd1), sd, hcn, hnx, byt, tln, num, wrd, pos, flt) Y out) := by
  refine zRun_of (by decide +kernel) rfl rfl (Nat.le_of_ble_eq_true rfl) ?_
  suffices hs : ∀ (o9 : zO) (h9 : zH), (Sum.inr none : zO) = o9 → (zHp (c, r, w, lim, tol, cart, wov, lot, sew, mis, cnt1, (zFl col1 col 16), (zFl len1 len 16), (zFl lef1 lef 16), (zFl sbt1 sbt 16), (zFl shd1 shd 16)) (sa, sb, (c1, r1, w1, lim1, tol1, cart1, wov1, lot1, sew1, mis1, cnt1, col1, len1, lef1, sbt1, shd1), sd, hcn, hnx, byt, tln, num, wrd, pos, flt) Y out) = h9 → zPW G mX5_copyFrom 0 0 o9 h9 0 0 0 [(0, .ref 12), (1, .ref 77)] [] (zHp (c, r, w, lim, tol, cart, wov, lot, sew, mis, cnt, col, len, lef, sbt, shd) (sa, sb, (c1, r1, w1, lim1, tol1, cart1, wov1, lot1, sew1, mis1, cnt1, col1, len1, lef1, sbt1, shd1), sd, hcn, hnx, byt, tln, num, wrd, pos, flt) Y out) from hs _ _ rfl rfl
  intro o9 h9 ho9 hh9
  refine z_aload_n 0 dX5_copyFrom_0 rfl rfl ?_
  refine z_aload_n 1 dX5_copyFrom_1 rfl rfl ?_
  refine z_get (v := .int (nI cnt1)) 0 zgo_77 rfl inX5 (by decide) zw_100 rfl rfl dX5_copyFrom_2 ?_
  refine z_puti 0 tyX5 zgo_12 rfl inX5 tyX5_ok nmX5 (by decide) zw_100 rfl rfl (by decide +kernel) (Nat.le_of_ble_eq_true rfl) dX5_copyFrom_5 ?_
  refine z_eqh (h2 := (zHp (c, r, w, lim, tol, cart, wov, lot, sew, mis, cnt1, col, len, lef, sbt, shd) (sa, sb, (c1, r1, w1, lim1, tol1, cart1, wov1, lot1, sew1, mis1, cnt1, col1, len1, lef1, sbt1, shd1), sd, hcn, hnx, byt, tln, num, wrd, pos, flt) Y out)) zsf_12_0 ?_
  refine z_aload_n 0 dX5_copyFrom_8 rfl rfl ?_
  refine z_get (v := .ref 13) 1 zgo_12 rfl inX5 (by decide) zw_103 rfl rfl dX5_copyFrom_9 ?_
  refine z_aload_n 1 dX5_copyFrom_12 rfl rfl ?_
  refine z_get (v := .ref 78) 1 zgo_77 rfl inX5 (by decide) zw_103 rfl rfl dX5_copyFrom_13 ?_
  refine z_callV (N := mX6_copyFrom) 1 [.ref 78] [] lX6_copyFrom ⟨zw_623, zw_615, zw_616⟩ rfl zgo_13 rfl rfl (Nat.le_of_ble_eq_true rfl) (by decide) ⟨zlt, zlt⟩ ⟨Nat.zero_le _, Nat.zero_le _⟩ zal (c_nCopy (g := 13) (v := 14) (g2 := 78) (v2 := 79) (f := col) (f2 := col1) (h1 := (zHp (c, r, w, lim, tol, cart, wov, lot, sew, mis, cnt1, (zFl col1 col 16), len, lef, sbt, shd) (sa, sb, (c1, r1, w1, lim1, tol1, cart1, wov1, lot1, sew1, mis1, cnt1, col1, len1, lef1, sbt1, shd1), sd, hcn, hnx, byt, tln, num, wrd, pos, flt) Y out)) (n := 16) (by omega) zlt zgo_13 zga_14 zgo_78 zga_79 (by decide) zsa_14) dX5_copyFrom_16 ?_
  refine z_aload_n 0 dX5_copyFrom_19 rfl rfl ?_
  refine z_get (v := .ref 15) 2 zgo_12 rfl inX5 (by decide) zw_105 rfl rfl dX5_copyFrom_20 ?_
  refine z_aload_n 1 dX5_copyFrom_23 rfl rfl ?_
  refine z_get (v := .ref 80) 2 zgo_77 rfl inX5 (by decide) zw_105 rfl rfl dX5_copyFrom_24 ?_
  refine z_callV (N := mX6_copyFrom) 1 [.ref 80] [] lX6_copyFrom ⟨zw_623, zw_615, zw_616⟩ rfl zgo_15 rfl rfl (Nat.le_of_ble_eq_true rfl) (by decide) ⟨zlt, zlt⟩ ⟨Nat.zero_le _, Nat.zero_le _⟩ zal (c_nCopy (g := 15) (v := 16) (g2 := 80) (v2 := 81) (f := len) (f2 := len1) (h1 := (zHp (c, r, w, lim, tol, cart, wov, lot, sew, mis, cnt1, (zFl col1 col 16), (zFl len1 len 16), lef, sbt, shd) (sa, sb, (c1, r1, w1, lim1, tol1, cart1, wov1, lot1, sew1, mis1, cnt1, col1, len1, lef1, sbt1, shd1), sd, hcn, hnx, byt, tln, num, wrd, pos, flt) Y out)) (n := 16) (by omega) zlt zgo_15 zga_16 zgo_80 zga_81 (by decide) zsa_16) dX5_copyFrom_27 ?_
  refine z_aload_n 0 dX5_copyFrom_30 rfl rfl ?_
  refine z_get (v := .ref 17) 3 zgo_12 rfl inX5 (by decide) zw_107 rfl rfl dX5_copyFrom_31 ?_
  refine z_aload_n 1 dX5_copyFrom_34 rfl rfl ?_
  refine z_get (v := .ref 82) 3 zgo_77 rfl inX5 (by decide) zw_107 rfl rfl dX5_copyFrom_35 ?_
  refine z_callV (N := mX6_copyFrom) 1 [.ref 82] [] lX6_copyFrom ⟨zw_623, zw_615, zw_616⟩ rfl zgo_17 rfl rfl (Nat.le_of_ble_eq_true rfl) (by decide) ⟨zlt, zlt⟩ ⟨Nat.zero_le _, Nat.zero_le _⟩ zal (c_nCopy (g := 17) (v := 18) (g2 := 82) (v2 := 83) (f := lef) (f2 := lef1) (h1 := (zHp (c, r, w, lim, tol, cart, wov, lot, sew, mis, cnt1, (zFl col1 col 16), (zFl len1 len 16), (zFl lef1 lef 16), sbt, shd) (sa, sb, (c1, r1, w1, lim1, tol1, cart1, wov1, lot1, sew1, mis1, cnt1, col1, len1, lef1, sbt1, shd1), sd, hcn, hnx, byt, tln, num, wrd, pos, flt) Y out)) (n := 16) (by omega) zlt zgo_17 zga_18 zgo_82 zga_83 (by decide) zsa_18) dX5_copyFrom_38 ?_
  refine z_aload_n 0 dX5_copyFrom_41 rfl rfl ?_
  refine z_get (v := .ref 19) 4 zgo_12 rfl inX5 (by decide) zw_109 rfl rfl dX5_copyFrom_42 ?_
  refine z_aload_n 1 dX5_copyFrom_45 rfl rfl ?_
  refine z_get (v := .ref 84) 4 zgo_77 rfl inX5 (by decide) zw_109 rfl rfl dX5_copyFrom_46 ?_
  refine z_callV (N := mX6_copyFrom) 1 [.ref 84] [] lX6_copyFrom ⟨zw_623, zw_615, zw_616⟩ rfl zgo_19 rfl rfl (Nat.le_of_ble_eq_true rfl) (by decide) ⟨zlt, zlt⟩ ⟨Nat.zero_le _, Nat.zero_le _⟩ zal (c_nCopy (g := 19) (v := 20) (g2 := 84) (v2 := 85) (f := sbt) (f2 := sbt1) (h1 := (zHp (c, r, w, lim, tol, cart, wov, lot, sew, mis, cnt1, (zFl col1 col 16), (zFl len1 len 16), (zFl lef1 lef 16), (zFl sbt1 sbt 16), shd) (sa, sb, (c1, r1, w1, lim1, tol1, cart1, wov1, lot1, sew1, mis1, cnt1, col1, len1, lef1, sbt1, shd1), sd, hcn, hnx, byt, tln, num, wrd, pos, flt) Y out)) (n := 16) (by omega) zlt zgo_19 zga_20 zgo_84 zga_85 (by decide) zsa_20) dX5_copyFrom_49 ?_
  refine z_iconst (v := 0) dX5_copyFrom_52 (by decide) ?_
  refine z_istore_n (lv' := [(2, .int 0), (0, .ref 12), (1, .ref 77)]) dX5_copyFrom_53 rfl (by decide) rfl ?_
  have L54_1 : ∀ (d k : Nat), k ≤ 16 → 16 + 1 ≤ k + d → zPW G mX5_copyFrom 0 0 o9 h9 0 0 54 [(2, .int (nI k)), (0, .ref 12), (1, .ref 77)] [] (zHp (c, r, w, lim, tol, cart, wov, lot, sew, mis, cnt1, (zFl col1 col 16), (zFl len1 len 16), (zFl lef1 lef 16), (zFl sbt1 sbt 16), (zFl shd1 shd k)) (sa, sb, (c1, r1, w1, lim1, tol1, cart1, wov1, lot1, sew1, mis1, cnt1, col1, len1, lef1, sbt1, shd1), sd, hcn, hnx, byt, tln, num, wrd, pos, flt) Y out) := by
    intro d
    induction d with
    | zero => intro k hk hd; exact absurd hd (by omega)
    | succ d ih =>
      intro k hk_k hd_k
      have ih54 := ih
      clear ih
      refine z_iload_n 0 dX5_copyFrom_54 rfl rfl ?_
      refine z_bipush (v := nI 16) dX5_copyFrom_55 (by decide) ?_
      refine z_icmp_ge (tgt := 76) dX5_copyFrom_57 (by decide) (fun c_57 => ?_) (fun c_57 => ?_)
      · skip
        have hx_k := zge (by omega) hk_k c_57
        exact z_vret rfl dX5_copyFrom_76 ho9.symm (zo_h hh9 (by rw [hx_k])) (Nat.zero_le _) (Nat.zero_le _)
      · skip
        have hx_k := zlt' (by omega) hk_k c_57
        refine z_aload_n 1 dX5_copyFrom_60 rfl rfl ?_
        refine z_iload_n 0 dX5_copyFrom_61 rfl rfl ?_
        refine z_aload_n 2 dX5_copyFrom_62 rfl rfl ?_
        refine z_iload_n 0 dX5_copyFrom_63 rfl rfl ?_
        refine z_callV (N := mX5_shadeOf) 1 [.int (nI k)] [.int (nI k), .ref 12] lX5_shadeOf ⟨zw_624, zw_335, zw_336⟩ rfl zgo_77 rfl rfl (Nat.le_of_ble_eq_true rfl) (by decide) ⟨zlt, zlt⟩ ⟨Nat.zero_le _, Nat.zero_le _⟩ (fun _ => rfl) (c_lShade (g := 77) (v := 86) (f := shd1) zlt zgo_77 zga_86 (nI k)) dX5_copyFrom_64 ?_
        refine z_callV (N := mX5_putShade) 2 [.int (nI k), .float (zSh shd1 (nI k))] [] lX5_putShade ⟨zw_625, zw_627, zw_28⟩ rfl zgo_12 rfl rfl (Nat.le_of_ble_eq_true rfl) (by decide) ⟨zlt, zlt⟩ ⟨Nat.zero_le _, Nat.zero_le _⟩ zal (c_lPutShade (g := 12) (v := 21) (f := (zFl shd1 shd k)) (h1 := (zHp (c, r, w, lim, tol, cart, wov, lot, sew, mis, cnt1, (zFl col1 col 16), (zFl len1 len 16), (zFl lef1 lef 16), (zFl sbt1 sbt 16), (zPutS (zFl shd1 shd k) (nI k) (zSh shd1 (nI k)))) (sa, sb, (c1, r1, w1, lim1, tol1, cart1, wov1, lot1, sew1, mis1, cnt1, col1, len1, lef1, sbt1, shd1), sd, hcn, hnx, byt, tln, num, wrd, pos, flt) Y out)) zlt zgo_12 zga_21 (nI k) (zSh shd1 (nI k)) zsa_21) dX5_copyFrom_67 ?_
        refine z_iinc (v := nI (k + 1)) (lv' := [(2, .int (nI (k + 1))), (0, .ref 12), (1, .ref 77)]) 0 dX5_copyFrom_70 rfl (nI_1 k) (by decide) rfl ?_
        refine z_goto (tgt := 54) dX5_copyFrom_73 (by decide) ?_
        refine z_sub [0, 1, 2] (lv' := [(2, .int (nI (k + 1))), (0, .ref 12), (1, .ref 77)]) rfl ?_
        refine z_eqs (lv2 := [(2, .int (nI (k + 1))), (0, .ref 12), (1, .ref 77)]) (h2 := (zHp (c, r, w, lim, tol, cart, wov, lot, sew, mis, cnt1, (zFl col1 col 16), (zFl len1 len 16), (zFl lef1 lef 16), (zFl sbt1 sbt 16), (zFl shd1 shd (k + 1))) (sa, sb, (c1, r1, w1, lim1, tol1, cart1, wov1, lot1, sew1, mis1, cnt1, col1, len1, lef1, sbt1, shd1), sd, hcn, hnx, byt, tln, num, wrd, pos, flt) Y out)) (by rfl) (by rw [zFl_sS _ _ hx_k]) ?_
        exact ih54 (k + 1) (by omega) (by omega)
  refine z_sub [0, 1, 2] (lv' := [(2, .int 0), (0, .ref 12), (1, .ref 77)]) rfl ?_
  refine z_eqs (lv2 := [(2, .int (nI 0)), (0, .ref 12), (1, .ref 77)]) (h2 := (zHp (c, r, w, lim, tol, cart, wov, lot, sew, mis, cnt1, (zFl col1 col 16), (zFl len1 len 16), (zFl lef1 lef 16), (zFl sbt1 sbt 16), (zFl shd1 shd 0)) (sa, sb, (c1, r1, w1, lim1, tol1, cart1, wov1, lot1, sew1, mis1, cnt1, col1, len1, lef1, sbt1, shd1), sd, hcn, hnx, byt, tln, num, wrd, pos, flt) Y out)) (by rfl) (by rw [zFl_0]) ?_
  exact L54_1 (16 + 1) 0 (Nat.zero_le _) (by omega)

set_option maxHeartbeats 4000000 in
set_option maxRecDepth 100000 in
theorem c_copy_1_66 {G : zT} {c : Nat} {r : Nat} {w : Nat} {lim : Nat} {tol : Int32} {cart : Nat → Int32} {wov : Nat → Int32} {lot : Nat → Int32} {sew : Nat → Int32} {mis : Nat → Int32} {cnt : Nat} {col : Nat → Int32} {len : Nat → Int32} {lef : Nat → Int32} {sbt : Nat → Int32} {shd : Nat → UInt32} {c1 : Nat} {r1 : Nat} {w1 : Nat} {lim1 : Nat} {tol1 : Int32} {cart1 : Nat → Int32} {wov1 : Nat → Int32} {lot1 : Nat → Int32} {sew1 : Nat → Int32} {mis1 : Nat → Int32} {cnt1 : Nat} {col1 : Nat → Int32} {len1 : Nat → Int32} {lef1 : Nat → Int32} {sbt1 : Nat → Int32} {shd1 : Nat → UInt32} {sa sb sc sd : zS} {hcn hnx tln wrd pos : Nat} {byt num : Nat → Int32} {flt : Int32} {Y : zYr} {out : Nat → Int64} (hG : zAl G = false) : zRun G mX4_copyFrom 0 0 [.ref 1, .ref 66] (zHp (c, r, w, lim, tol, cart, wov, lot, sew, mis, cnt, col, len, lef, sbt, shd) (sa, sb, (c1, r1, w1, lim1, tol1, cart1, wov1, lot1, sew1, mis1, cnt1, col1, len1, lef1, sbt1, shd1), sd, hcn, hnx, byt, tln, num, wrd, pos, flt) Y out) (.inr none) (zHp (c1, r1, w1, lim1, tol1, (zFl cart1 cart 320), (zFl wov1 wov 320), (zFl lot1 lot 320), (zFl sew1 sew 320), (zFl mis1 mis 20), cnt1, (zFl col1 col 16), (zFl len1 len 16), (zFl lef1 lef 16), (zFl sbt1 sbt 16), (zFl shd1 shd 16)) (sa, sb, (c1, r1, w1, lim1, tol1, cart1, wov1, lot1, sew1, mis1, cnt1, col1, len1, lef1, sbt1, shd1), sd, hcn, hnx, byt, tln, num, wrd, pos, flt) Y out) := by
  refine zRun_of (by decide +kernel) rfl rfl (Nat.le_of_ble_eq_true rfl) ?_
  suffices hs : ∀ (o9 : zO) (h9 : zH), (Sum.inr none : zO) = o9 → (zHp (c1, r1, w1, lim1, tol1, (zFl cart1 cart 320), (zFl wov1 wov 320), (zFl lot1 lot 320), (zFl sew1 sew 320), (zFl mis1 mis 20), cnt1, (zFl col1 col 16), (zFl len1 len 16), (zFl lef1 lef 16), (zFl sbt1 sbt 16), (zFl shd1 shd 16)) (sa, sb, (c1, r1, w1, lim1, tol1, cart1, wov1, lot1, sew1, mis1, cnt1, col1, len1, lef1, sbt1, shd1), sd, hcn, hnx, byt, tln, num, wrd, pos, flt) Y out) = h9 → zPW G mX4_copyFrom 0 0 o9 h9 0 0 0 [(0, .ref 1), (1, .ref 66)] [] (zHp (c, r, w, lim, tol, cart, wov, lot, sew, mis, cnt, col, len, lef, sbt, shd) (sa, sb, (c1, r1, w1, lim1, tol1, cart1, wov1, lot1, sew1, mis1, cnt1, col1, len1, lef1, sbt1, shd1), sd, hcn, hnx, byt, tln, num, wrd, pos, flt) Y out) from hs _ _ rfl rfl
  intro o9 h9 ho9 hh9
  refine z_aload_n 0 dX4_copyFrom_0 rfl rfl ?_
  refine z_aload_n 1 dX4_copyFrom_1 rfl rfl ?_
  refine z_get (v := .int (nI c1)) 0 zgo_66 rfl inX4 (by decide) zw_130 rfl rfl dX4_copyFrom_2 ?_
  refine z_puti 0 tyX4 zgo_1 rfl inX4 tyX4_ok nmX4 (by decide) zw_130 rfl rfl (by decide +kernel) (Nat.le_of_ble_eq_true rfl) dX4_copyFrom_5 ?_
  refine z_eqh (h2 := (zHp (c1, r, w, lim, tol, cart, wov, lot, sew, mis, cnt, col, len, lef, sbt, shd) (sa, sb, (c1, r1, w1, lim1, tol1, cart1, wov1, lot1, sew1, mis1, cnt1, col1, len1, lef1, sbt1, shd1), sd, hcn, hnx, byt, tln, num, wrd, pos, flt) Y out)) zsf_1_0 ?_
  refine z_aload_n 0 dX4_copyFrom_8 rfl rfl ?_
  refine z_aload_n 1 dX4_copyFrom_9 rfl rfl ?_
  refine z_get (v := .int (nI r1)) 1 zgo_66 rfl inX4 (by decide) zw_132 rfl rfl dX4_copyFrom_10 ?_
  refine z_puti 1 tyX4 zgo_1 rfl inX4 tyX4_ok nmX4 (by decide) zw_132 rfl rfl (by decide +kernel) (Nat.le_of_ble_eq_true rfl) dX4_copyFrom_13 ?_
  refine z_eqh (h2 := (zHp (c1, r1, w, lim, tol, cart, wov, lot, sew, mis, cnt, col, len, lef, sbt, shd) (sa, sb, (c1, r1, w1, lim1, tol1, cart1, wov1, lot1, sew1, mis1, cnt1, col1, len1, lef1, sbt1, shd1), sd, hcn, hnx, byt, tln, num, wrd, pos, flt) Y out)) zsf_1_1 ?_
  refine z_aload_n 0 dX4_copyFrom_16 rfl rfl ?_
  refine z_aload_n 1 dX4_copyFrom_17 rfl rfl ?_
  refine z_get (v := .int (nI w1)) 2 zgo_66 rfl inX4 (by decide) zw_134 rfl rfl dX4_copyFrom_18 ?_
  refine z_puti 2 tyX4 zgo_1 rfl inX4 tyX4_ok nmX4 (by decide) zw_134 rfl rfl (by decide +kernel) (Nat.le_of_ble_eq_true rfl) dX4_copyFrom_21 ?_
  refine z_eqh (h2 := (zHp (c1, r1, w1, lim, tol, cart, wov, lot, sew, mis, cnt, col, len, lef, sbt, shd) (sa, sb, (c1, r1, w1, lim1, tol1, cart1, wov1, lot1, sew1, mis1, cnt1, col1, len1, lef1, sbt1, shd1), sd, hcn, hnx, byt, tln, num, wrd, pos, flt) Y out)) zsf_1_2 ?_
  refine z_aload_n 0 dX4_copyFrom_24 rfl rfl ?_
  refine z_aload_n 1 dX4_copyFrom_25 rfl rfl ?_
  refine z_get (v := .int (nI lim1)) 3 zgo_66 rfl inX4 (by decide) zw_136 rfl rfl dX4_copyFrom_26 ?_
  refine z_puti 3 tyX4 zgo_1 rfl inX4 tyX4_ok nmX4 (by decide) zw_136 rfl rfl (by decide +kernel) (Nat.le_of_ble_eq_true rfl) dX4_copyFrom_29 ?_
  refine z_eqh (h2 := (zHp (c1, r1, w1, lim1, tol, cart, wov, lot, sew, mis, cnt, col, len, lef, sbt, shd) (sa, sb, (c1, r1, w1, lim1, tol1, cart1, wov1, lot1, sew1, mis1, cnt1, col1, len1, lef1, sbt1, shd1), sd, hcn, hnx, byt, tln, num, wrd, pos, flt) Y out)) zsf_1_3 ?_
  refine z_aload_n 0 dX4_copyFrom_32 rfl rfl ?_
  refine z_aload_n 1 dX4_copyFrom_33 rfl rfl ?_
  refine z_get (v := .int tol1) 4 zgo_66 rfl inX4 (by decide) zw_138 rfl rfl dX4_copyFrom_34 ?_
  refine z_puti 4 tyX4 zgo_1 rfl inX4 tyX4_ok nmX4 (by decide) zw_138 rfl rfl (by decide +kernel) (Nat.le_of_ble_eq_true rfl) dX4_copyFrom_37 ?_
  refine z_eqh (h2 := (zHp (c1, r1, w1, lim1, tol1, cart, wov, lot, sew, mis, cnt, col, len, lef, sbt, shd) (sa, sb, (c1, r1, w1, lim1, tol1, cart1, wov1, lot1, sew1, mis1, cnt1, col1, len1, lef1, sbt1, shd1), sd, hcn, hnx, byt, tln, num, wrd, pos, flt) Y out)) zsf_1_4 ?_
  refine z_aload_n 0 dX4_copyFrom_40 rfl rfl ?_
  refine z_get (v := .ref 2) 5 zgo_1 rfl inX4 (by decide) zw_139 rfl rfl dX4_copyFrom_41 ?_
  refine z_aload_n 1 dX4_copyFrom_44 rfl rfl ?_
  refine z_get (v := .ref 67) 5 zgo_66 rfl inX4 (by decide) zw_139 rfl rfl dX4_copyFrom_45 ?_
  refine z_callV (N := mX2_copyFrom) 1 [.ref 67] [] lX2_copyFrom ⟨zw_610, zw_611, zw_612⟩ rfl zgo_2 rfl rfl (Nat.le_of_ble_eq_true rfl) (by decide) ⟨zlt, zlt⟩ ⟨Nat.zero_le _, Nat.zero_le _⟩ zal (c_gCopy (g := 2) (v := 3) (g2 := 67) (v2 := 68) (f := cart) (f2 := cart1) (h1 := (zHp (c1, r1, w1, lim1, tol1, (zFl cart1 cart 320), wov, lot, sew, mis, cnt, col, len, lef, sbt, shd) (sa, sb, (c1, r1, w1, lim1, tol1, cart1, wov1, lot1, sew1, mis1, cnt1, col1, len1, lef1, sbt1, shd1), sd, hcn, hnx, byt, tln, num, wrd, pos, flt) Y out)) zlt zgo_2 zga_3 zgo_67 zga_68 (by decide) zsa_3) dX4_copyFrom_48 ?_
  refine z_aload_n 0 dX4_copyFrom_51 rfl rfl ?_
  refine z_get (v := .ref 4) 6 zgo_1 rfl inX4 (by decide) zw_141 rfl rfl dX4_copyFrom_52 ?_
  refine z_aload_n 1 dX4_copyFrom_55 rfl rfl ?_
  refine z_get (v := .ref 69) 6 zgo_66 rfl inX4 (by decide) zw_141 rfl rfl dX4_copyFrom_56 ?_
  refine z_callV (N := mX2_copyFrom) 1 [.ref 69] [] lX2_copyFrom ⟨zw_610, zw_611, zw_612⟩ rfl zgo_4 rfl rfl (Nat.le_of_ble_eq_true rfl) (by decide) ⟨zlt, zlt⟩ ⟨Nat.zero_le _, Nat.zero_le _⟩ zal (c_gCopy (g := 4) (v := 5) (g2 := 69) (v2 := 70) (f := wov) (f2 := wov1) (h1 := (zHp (c1, r1, w1, lim1, tol1, (zFl cart1 cart 320), (zFl wov1 wov 320), lot, sew, mis, cnt, col, len, lef, sbt, shd) (sa, sb, (c1, r1, w1, lim1, tol1, cart1, wov1, lot1, sew1, mis1, cnt1, col1, len1, lef1, sbt1, shd1), sd, hcn, hnx, byt, tln, num, wrd, pos, flt) Y out)) zlt zgo_4 zga_5 zgo_69 zga_70 (by decide) zsa_5) dX4_copyFrom_59 ?_
  refine z_aload_n 0 dX4_copyFrom_62 rfl rfl ?_
  refine z_get (v := .ref 6) 7 zgo_1 rfl inX4 (by decide) zw_142 rfl rfl dX4_copyFrom_63 ?_
  refine z_aload_n 1 dX4_copyFrom_66 rfl rfl ?_
  refine z_get (v := .ref 71) 7 zgo_66 rfl inX4 (by decide) zw_142 rfl rfl dX4_copyFrom_67 ?_
  refine z_callV (N := mX2_copyFrom) 1 [.ref 71] [] lX2_copyFrom ⟨zw_610, zw_611, zw_612⟩ rfl zgo_6 rfl rfl (Nat.le_of_ble_eq_true rfl) (by decide) ⟨zlt, zlt⟩ ⟨Nat.zero_le _, Nat.zero_le _⟩ zal (c_gCopy (g := 6) (v := 7) (g2 := 71) (v2 := 72) (f := lot) (f2 := lot1) (h1 := (zHp (c1, r1, w1, lim1, tol1, (zFl cart1 cart 320), (zFl wov1 wov 320), (zFl lot1 lot 320), sew, mis, cnt, col, len, lef, sbt, shd) (sa, sb, (c1, r1, w1, lim1, tol1, cart1, wov1, lot1, sew1, mis1, cnt1, col1, len1, lef1, sbt1, shd1), sd, hcn, hnx, byt, tln, num, wrd, pos, flt) Y out)) zlt zgo_6 zga_7 zgo_71 zga_72 (by decide) zsa_7) dX4_copyFrom_70 ?_
  refine z_aload_n 0 dX4_copyFrom_73 rfl rfl ?_
  refine z_get (v := .ref 8) 8 zgo_1 rfl inX4 (by decide) zw_143 rfl rfl dX4_copyFrom_74 ?_
  refine z_aload_n 1 dX4_copyFrom_77 rfl rfl ?_
  refine z_get (v := .ref 73) 8 zgo_66 rfl inX4 (by decide) zw_143 rfl rfl dX4_copyFrom_78 ?_
  refine z_callV (N := mX2_copyFrom) 1 [.ref 73] [] lX2_copyFrom ⟨zw_610, zw_611, zw_612⟩ rfl zgo_8 rfl rfl (Nat.le_of_ble_eq_true rfl) (by decide) ⟨zlt, zlt⟩ ⟨Nat.zero_le _, Nat.zero_le _⟩ zal (c_gCopy (g := 8) (v := 9) (g2 := 73) (v2 := 74) (f := sew) (f2 := sew1) (h1 := (zHp (c1, r1, w1, lim1, tol1, (zFl cart1 cart 320), (zFl wov1 wov 320), (zFl lot1 lot 320), (zFl sew1 sew 320), mis, cnt, col, len, lef, sbt, shd) (sa, sb, (c1, r1, w1, lim1, tol1, cart1, wov1, lot1, sew1, mis1, cnt1, col1, len1, lef1, sbt1, shd1), sd, hcn, hnx, byt, tln, num, wrd, pos, flt) Y out)) zlt zgo_8 zga_9 zgo_73 zga_74 (by decide) zsa_9) dX4_copyFrom_81 ?_
  refine z_aload_n 0 dX4_copyFrom_84 rfl rfl ?_
  refine z_get (v := .ref 10) 9 zgo_1 rfl inX4 (by decide) zw_144 rfl rfl dX4_copyFrom_85 ?_
  refine z_aload_n 1 dX4_copyFrom_88 rfl rfl ?_
  refine z_get (v := .ref 75) 9 zgo_66 rfl inX4 (by decide) zw_144 rfl rfl dX4_copyFrom_89 ?_
  refine z_callV (N := mX6_copyFrom) 1 [.ref 75] [] lX6_copyFrom ⟨zw_614, zw_615, zw_616⟩ rfl zgo_10 rfl rfl (Nat.le_of_ble_eq_true rfl) (by decide) ⟨zlt, zlt⟩ ⟨Nat.zero_le _, Nat.zero_le _⟩ zal (c_nCopy (g := 10) (v := 11) (g2 := 75) (v2 := 76) (f := mis) (f2 := mis1) (h1 := (zHp (c1, r1, w1, lim1, tol1, (zFl cart1 cart 320), (zFl wov1 wov 320), (zFl lot1 lot 320), (zFl sew1 sew 320), (zFl mis1 mis 20), cnt, col, len, lef, sbt, shd) (sa, sb, (c1, r1, w1, lim1, tol1, cart1, wov1, lot1, sew1, mis1, cnt1, col1, len1, lef1, sbt1, shd1), sd, hcn, hnx, byt, tln, num, wrd, pos, flt) Y out)) (n := 20) (by omega) zlt zgo_10 zga_11 zgo_75 zga_76 (by decide) zsa_11) dX4_copyFrom_92 ?_
  refine z_aload_n 0 dX4_copyFrom_95 rfl rfl ?_
  refine z_get (v := .ref 12) 10 zgo_1 rfl inX4 (by decide) zw_145 rfl rfl dX4_copyFrom_96 ?_
  refine z_aload_n 1 dX4_copyFrom_99 rfl rfl ?_
  refine z_get (v := .ref 77) 10 zgo_66 rfl inX4 (by decide) zw_145 rfl rfl dX4_copyFrom_100 ?_
  refine z_callV (N := mX5_copyFrom) 1 [.ref 77] [] lX5_copyFrom ⟨zw_619, zw_620, zw_621⟩ rfl zgo_12 rfl rfl (Nat.le_of_ble_eq_true rfl) (by decide) ⟨zlt, zlt⟩ ⟨Nat.zero_le _, Nat.zero_le _⟩ zal (c_lcopy_1_66 (sa := sa) (sb := sb) (sc := sc) (sd := sd) hG) dX4_copyFrom_103 ?_
  exact z_vret rfl dX4_copyFrom_106 ho9.symm (zo_h hh9 (by rfl)) (Nat.zero_le _) (Nat.zero_le _)

set_option maxHeartbeats 4000000 in
set_option maxRecDepth 100000 in
theorem c_lcopy_87_1 {G : zT} {c : Nat} {r : Nat} {w : Nat} {lim : Nat} {tol : Int32} {cart : Nat → Int32} {wov : Nat → Int32} {lot : Nat → Int32} {sew : Nat → Int32} {mis : Nat → Int32} {cnt : Nat} {col : Nat → Int32} {len : Nat → Int32} {lef : Nat → Int32} {sbt : Nat → Int32} {shd : Nat → UInt32} {c1 : Nat} {r1 : Nat} {w1 : Nat} {lim1 : Nat} {tol1 : Int32} {cart1 : Nat → Int32} {wov1 : Nat → Int32} {lot1 : Nat → Int32} {sew1 : Nat → Int32} {mis1 : Nat → Int32} {cnt1 : Nat} {col1 : Nat → Int32} {len1 : Nat → Int32} {lef1 : Nat → Int32} {sbt1 : Nat → Int32} {shd1 : Nat → UInt32} {sa sb sc sd : zS} {hcn hnx tln wrd pos : Nat} {byt num : Nat → Int32} {flt : Int32} {Y : zYr} {out : Nat → Int64} (hG : zAl G = false) : zRun G mX5_copyFrom 0 0 [.ref 98, .ref 12] (zHp (c, r, w, lim, tol, cart, wov, lot, sew, mis, cnt, col, len, lef, sbt, shd) (sa, sb, sc, (c1, r1, w1, lim1, tol1, cart1, wov1, lot1, sew1, mis1, cnt1, col1, len1, lef1, sbt1, shd1), hcn, hnx, byt, tln, num, wrd, pos, flt) Y out) (.inr none) (zHp (c, r, w, lim, tol, cart, wov, lot, sew, mis, cnt, col, len, lef, sbt, shd) (sa, sb, sc, (c1, r1, w1, lim1, tol1, cart1, wov1, lot1, sew1, mis1, cnt, (zFl col col1 16), (zFl len len1 16), (zFl lef lef1 16), (zFl sbt sbt1 16), (zFl shd shd1 16)), hcn, hnx, byt, tln, num, wrd, pos, flt) Y out) := by
  refine zRun_of (by decide +kernel) rfl rfl (Nat.le_of_ble_eq_true rfl) ?_
  suffices hs : ∀ (o9 : zO) (h9 : zH), (Sum.inr none : zO) = o9 → (zHp (c, r, w, lim, tol, cart, wov, lot, sew, mis, cnt, col, len, lef, sbt, shd) (sa, sb, sc, (c1, r1, w1, lim1, tol1, cart1, wov1, lot1, sew1, mis1, cnt, (zFl col col1 16), (zFl len len1 16), (zFl lef lef1 16), (zFl sbt sbt1 16), (zFl shd shd1 16)), hcn, hnx, byt, tln, num, wrd, pos, flt) Y out) = h9 → zPW G mX5_copyFrom 0 0 o9 h9 0 0 0 [(0, .ref 98), (1, .ref 12)] [] (zHp (c, r, w, lim, tol, cart, wov, lot, sew, mis, cnt, col, len, lef, sbt, shd) (sa, sb, sc, (c1, r1, w1, lim1, tol1, cart1, wov1, lot1, sew1, mis1, cnt1, col1, len1, lef1, sbt1, shd1), hcn, hnx, byt, tln, num, wrd, pos, flt) Y out) from hs _ _ rfl rfl
  intro o9 h9 ho9 hh9
  refine z_aload_n 0 dX5_copyFrom_0 rfl rfl ?_
  refine z_aload_n 1 dX5_copyFrom_1 rfl rfl ?_
  refine z_get (v := .int (nI cnt)) 0 zgo_12 rfl inX5 (by decide) zw_100 rfl rfl dX5_copyFrom_2 ?_
  refine z_puti 0 tyX5 zgo_98 rfl inX5 tyX5_ok nmX5 (by decide) zw_100 rfl rfl (by decide +kernel) (Nat.le_of_ble_eq_true rfl) dX5_copyFrom_5 ?_
  refine z_eqh (h2 := (zHp (c, r, w, lim, tol, cart, wov, lot, sew, mis, cnt, col, len, lef, sbt, shd) (sa, sb, sc, (c1, r1, w1, lim1, tol1, cart1, wov1, lot1, sew1, mis1, cnt, col1, len1, lef1, sbt1, shd1), hcn, hnx, byt, tln, num, wrd, pos, flt) Y out)) zsf_98_0 ?_
  refine z_aload_n 0 dX5_copyFrom_8 rfl rfl ?_
  refine z_get (v := .ref 99) 1 zgo_98 rfl inX5 (by decide) zw_103 rfl rfl dX5_copyFrom_9 ?_
  refine z_aload_n 1 dX5_copyFrom_12 rfl rfl ?_
  refine z_get (v := .ref 13) 1 zgo_12 rfl inX5 (by decide) zw_103 rfl rfl dX5_copyFrom_13 ?_
  refine z_callV (N := mX6_copyFrom) 1 [.ref 13] [] lX6_copyFrom ⟨zw_623, zw_615, zw_616⟩ rfl zgo_99 rfl rfl (Nat.le_of_ble_eq_true rfl) (by decide) ⟨zlt, zlt⟩ ⟨Nat.zero_le _, Nat.zero_le _⟩ zal (c_nCopy (g := 99) (v := 100) (g2 := 13) (v2 := 14) (f := col1) (f2 := col) (h1 := (zHp (c, r, w, lim, tol, cart, wov, lot, sew, mis, cnt, col, len, lef, sbt, shd) (sa, sb, sc, (c1, r1, w1, lim1, tol1, cart1, wov1, lot1, sew1, mis1, cnt, (zFl col col1 16), len1, lef1, sbt1, shd1), hcn, hnx, byt, tln, num, wrd, pos, flt) Y out)) (n := 16) (by omega) zlt zgo_99 zga_100 zgo_13 zga_14 (by decide) zsa_100) dX5_copyFrom_16 ?_
  refine z_aload_n 0 dX5_copyFrom_19 rfl rfl ?_
  refine z_get (v := .ref 101) 2 zgo_98 rfl inX5 (by decide) zw_105 rfl rfl dX5_copyFrom_20 ?_
  refine z_aload_n 1 dX5_copyFrom_23 rfl rfl ?_
  refine z_get (v := .ref 15) 2 zgo_12 rfl inX5 (by decide) zw_105 rfl rfl dX5_copyFrom_24 ?_
  refine z_callV (N := mX6_copyFrom) 1 [.ref 15] [] lX6_copyFrom ⟨zw_623, zw_615, zw_616⟩ rfl zgo_101 rfl rfl (Nat.le_of_ble_eq_true rfl) (by decide) ⟨zlt, zlt⟩ ⟨Nat.zero_le _, Nat.zero_le _⟩ zal (c_nCopy (g := 101) (v := 102) (g2 := 15) (v2 := 16) (f := len1) (f2 := len) (h1 := (zHp (c, r, w, lim, tol, cart, wov, lot, sew, mis, cnt, col, len, lef, sbt, shd) (sa, sb, sc, (c1, r1, w1, lim1, tol1, cart1, wov1, lot1, sew1, mis1, cnt, (zFl col col1 16), (zFl len len1 16), lef1, sbt1, shd1), hcn, hnx, byt, tln, num, wrd, pos, flt) Y out)) (n := 16) (by omega) zlt zgo_101 zga_102 zgo_15 zga_16 (by decide) zsa_102) dX5_copyFrom_27 ?_
  refine z_aload_n 0 dX5_copyFrom_30 rfl rfl ?_
  refine z_get (v := .ref 103) 3 zgo_98 rfl inX5 (by decide) zw_107 rfl rfl dX5_copyFrom_31 ?_
  refine z_aload_n 1 dX5_copyFrom_34 rfl rfl ?_
  refine z_get (v := .ref 17) 3 zgo_12 rfl inX5 (by decide) zw_107 rfl rfl dX5_copyFrom_35 ?_
  refine z_callV (N := mX6_copyFrom) 1 [.ref 17] [] lX6_copyFrom ⟨zw_623, zw_615, zw_616⟩ rfl zgo_103 rfl rfl (Nat.le_of_ble_eq_true rfl) (by decide) ⟨zlt, zlt⟩ ⟨Nat.zero_le _, Nat.zero_le _⟩ zal (c_nCopy (g := 103) (v := 104) (g2 := 17) (v2 := 18) (f := lef1) (f2 := lef) (h1 := (zHp (c, r, w, lim, tol, cart, wov, lot, sew, mis, cnt, col, len, lef, sbt, shd) (sa, sb, sc, (c1, r1, w1, lim1, tol1, cart1, wov1, lot1, sew1, mis1, cnt, (zFl col col1 16), (zFl len len1 16), (zFl lef lef1 16), sbt1, shd1), hcn, hnx, byt, tln, num, wrd, pos, flt) Y out)) (n := 16) (by omega) zlt zgo_103 zga_104 zgo_17 zga_18 (by decide) zsa_104) dX5_copyFrom_38 ?_
  refine z_aload_n 0 dX5_copyFrom_41 rfl rfl ?_
  refine z_get (v := .ref 105) 4 zgo_98 rfl inX5 (by decide) zw_109 rfl rfl dX5_copyFrom_42 ?_
  refine z_aload_n 1 dX5_copyFrom_45 rfl rfl ?_
  refine z_get (v := .ref 19) 4 zgo_12 rfl inX5 (by decide) zw_109 rfl rfl dX5_copyFrom_46 ?_
  refine z_callV (N := mX6_copyFrom) 1 [.ref 19] [] lX6_copyFrom ⟨zw_623, zw_615, zw_616⟩ rfl zgo_105 rfl rfl (Nat.le_of_ble_eq_true rfl) (by decide) ⟨zlt, zlt⟩ ⟨Nat.zero_le _, Nat.zero_le _⟩ zal (c_nCopy (g := 105) (v := 106) (g2 := 19) (v2 := 20) (f := sbt1) (f2 := sbt) (h1 := (zHp (c, r, w, lim, tol, cart, wov, lot, sew, mis, cnt, col, len, lef, sbt, shd) (sa, sb, sc, (c1, r1, w1, lim1, tol1, cart1, wov1, lot1, sew1, mis1, cnt, (zFl col col1 16), (zFl len len1 16), (zFl lef lef1 16), (zFl sbt sbt1 16), shd1), hcn, hnx, byt, tln, num, wrd, pos, flt) Y out)) (n := 16) (by omega) zlt zgo_105 zga_106 zgo_19 zga_20 (by decide) zsa_106) dX5_copyFrom_49 ?_
  refine z_iconst (v := 0) dX5_copyFrom_52 (by decide) ?_
  refine z_istore_n (lv' := [(2, .int 0), (0, .ref 98), (1, .ref 12)]) dX5_copyFrom_53 rfl (by decide) rfl ?_
  have L54_1 : ∀ (d k : Nat), k ≤ 16 → 16 + 1 ≤ k + d → zPW G mX5_copyFrom 0 0 o9 h9 0 0 54 [(2, .int (nI k)), (0, .ref 98), (1, .ref 12)] [] (zHp (c, r, w, lim, tol, cart, wov, lot, sew, mis, cnt, col, len, lef, sbt, shd) (sa, sb, sc, (c1, r1, w1, lim1, tol1, cart1, wov1, lot1, sew1, mis1, cnt, (zFl col col1 16), (zFl len len1 16), (zFl lef lef1 16), (zFl sbt sbt1 16), (zFl shd shd1 k)), hcn, hnx, byt, tln, num, wrd, pos, flt) Y out) := by
    intro d
    induction d with
    | zero => intro k hk hd; exact absurd hd (by omega)
    | succ d ih =>
      intro k hk_k hd_k
      have ih54 := ih
      clear ih
      refine z_iload_n 0 dX5_copyFrom_54 rfl rfl ?_
      refine z_bipush (v := nI 16) dX5_copyFrom_55 (by decide) ?_
      refine z_icmp_ge (tgt := 76) dX5_copyFrom_57 (by decide) (fun c_57 => ?_) (fun c_57 => ?_)
      · skip
        have hx_k := zge (by omega) hk_k c_57
        exact z_vret rfl dX5_copyFrom_76 ho9.symm (zo_h hh9 (by rw [hx_k])) (Nat.zero_le _) (Nat.zero_le _)
      · skip
        have hx_k := zlt' (by omega) hk_k c_57
        refine z_aload_n 1 dX5_copyFrom_60 rfl rfl ?_
        refine z_iload_n 0 dX5_copyFrom_61 rfl rfl ?_
        refine z_aload_n 2 dX5_copyFrom_62 rfl rfl ?_
        refine z_iload_n 0 dX5_copyFrom_63 rfl rfl ?_
        refine z_callV (N := mX5_shadeOf) 1 [.int (nI k)] [.int (nI k), .ref 98] lX5_shadeOf ⟨zw_624, zw_335, zw_336⟩ rfl zgo_12 rfl rfl (Nat.le_of_ble_eq_true rfl) (by decide) ⟨zlt, zlt⟩ ⟨Nat.zero_le _, Nat.zero_le _⟩ (fun _ => rfl) (c_lShade (g := 12) (v := 21) (f := shd) zlt zgo_12 zga_21 (nI k)) dX5_copyFrom_64 ?_
        refine z_callV (N := mX5_putShade) 2 [.int (nI k), .float (zSh shd (nI k))] [] lX5_putShade ⟨zw_625, zw_627, zw_28⟩ rfl zgo_98 rfl rfl (Nat.le_of_ble_eq_true rfl) (by decide) ⟨zlt, zlt⟩ ⟨Nat.zero_le _, Nat.zero_le _⟩ zal (c_lPutShade (g := 98) (v := 107) (f := (zFl shd shd1 k)) (h1 := (zHp (c, r, w, lim, tol, cart, wov, lot, sew, mis, cnt, col, len, lef, sbt, shd) (sa, sb, sc, (c1, r1, w1, lim1, tol1, cart1, wov1, lot1, sew1, mis1, cnt, (zFl col col1 16), (zFl len len1 16), (zFl lef lef1 16), (zFl sbt sbt1 16), (zPutS (zFl shd shd1 k) (nI k) (zSh shd (nI k)))), hcn, hnx, byt, tln, num, wrd, pos, flt) Y out)) zlt zgo_98 zga_107 (nI k) (zSh shd (nI k)) zsa_107) dX5_copyFrom_67 ?_
        refine z_iinc (v := nI (k + 1)) (lv' := [(2, .int (nI (k + 1))), (0, .ref 98), (1, .ref 12)]) 0 dX5_copyFrom_70 rfl (nI_1 k) (by decide) rfl ?_
        refine z_goto (tgt := 54) dX5_copyFrom_73 (by decide) ?_
        refine z_sub [0, 1, 2] (lv' := [(2, .int (nI (k + 1))), (0, .ref 98), (1, .ref 12)]) rfl ?_
        refine z_eqs (lv2 := [(2, .int (nI (k + 1))), (0, .ref 98), (1, .ref 12)]) (h2 := (zHp (c, r, w, lim, tol, cart, wov, lot, sew, mis, cnt, col, len, lef, sbt, shd) (sa, sb, sc, (c1, r1, w1, lim1, tol1, cart1, wov1, lot1, sew1, mis1, cnt, (zFl col col1 16), (zFl len len1 16), (zFl lef lef1 16), (zFl sbt sbt1 16), (zFl shd shd1 (k + 1))), hcn, hnx, byt, tln, num, wrd, pos, flt) Y out)) (by rfl) (by rw [zFl_sS _ _ hx_k]) ?_
        exact ih54 (k + 1) (by omega) (by omega)
  refine z_sub [0, 1, 2] (lv' := [(2, .int 0), (0, .ref 98), (1, .ref 12)]) rfl ?_
  refine z_eqs (lv2 := [(2, .int (nI 0)), (0, .ref 98), (1, .ref 12)]) (h2 := (zHp (c, r, w, lim, tol, cart, wov, lot, sew, mis, cnt, col, len, lef, sbt, shd) (sa, sb, sc, (c1, r1, w1, lim1, tol1, cart1, wov1, lot1, sew1, mis1, cnt, (zFl col col1 16), (zFl len len1 16), (zFl lef lef1 16), (zFl sbt sbt1 16), (zFl shd shd1 0)), hcn, hnx, byt, tln, num, wrd, pos, flt) Y out)) (by rfl) (by rw [zFl_0]) ?_
  exact L54_1 (16 + 1) 0 (Nat.zero_le _) (by omega)

set_option maxHeartbeats 4000000 in
set_option maxRecDepth 100000 in
theorem c_copy_87_1 {G : zT} {c : Nat} {r : Nat} {w : Nat} {lim : Nat} {tol : Int32} {cart : Nat → Int32} {wov : Nat → Int32} {lot : Nat → Int32} {sew : Nat → Int32} {mis : Nat → Int32} {cnt : Nat} {col : Nat → Int32} {len : Nat → Int32} {lef : Nat → Int32} {sbt : Nat → Int32} {shd : Nat → UInt32} {c1 : Nat} {r1 : Nat} {w1 : Nat} {lim1 : Nat} {tol1 : Int32} {cart1 : Nat → Int32} {wov1 : Nat → Int32} {lot1 : Nat → Int32} {sew1 : Nat → Int32} {mis1 : Nat → Int32} {cnt1 : Nat} {col1 : Nat → Int32} {len1 : Nat → Int32} {lef1 : Nat → Int32} {sbt1 : Nat → Int32} {shd1 : Nat → UInt32} {sa sb sc sd : zS} {hcn hnx tln wrd pos : Nat} {byt num : Nat → Int32} {flt : Int32} {Y : zYr} {out : Nat → Int64} (hG : zAl G = false) : zRun G mX4_copyFrom 0 0 [.ref 87, .ref 1] (zHp (c, r, w, lim, tol, cart, wov, lot, sew, mis, cnt, col, len, lef, sbt, shd) (sa, sb, sc, (c1, r1, w1, lim1, tol1, cart1, wov1, lot1, sew1, mis1, cnt1, col1, len1, lef1, sbt1, shd1), hcn, hnx, byt, tln, num, wrd, pos, flt) Y out) (.inr none) (zHp (c, r, w, lim, tol, cart, wov, lot, sew, mis, cnt, col, len, lef, sbt, shd) (sa, sb, sc, (c, r, w, lim, tol, (zFl cart cart1 320), (zFl wov wov1 320), (zFl lot lot1 320), (zFl sew sew1 320), (zFl mis mis1 20), cnt, (zFl col col1 16), (zFl len len1 16), (zFl lef lef1 16), (zFl sbt sbt1 16), (zFl shd shd1 16)), hcn, hnx, byt, tln, num, wrd, pos, flt) Y out) := by
  refine zRun_of (by decide +kernel) rfl rfl (Nat.le_of_ble_eq_true rfl) ?_
  suffices hs : ∀ (o9 : zO) (h9 : zH), (Sum.inr none : zO) = o9 → (zHp (c, r, w, lim, tol, cart, wov, lot, sew, mis, cnt, col, len, lef, sbt, shd) (sa, sb, sc, (c, r, w, lim, tol, (zFl cart cart1 320), (zFl wov wov1 320), (zFl lot lot1 320), (zFl sew sew1 320), (zFl mis mis1 20), cnt, (zFl col col1 16), (zFl len len1 16), (zFl lef lef1 16), (zFl sbt sbt1 16), (zFl shd shd1 16)), hcn, hnx, byt, tln, num, wrd, pos, flt) Y out) = h9 → zPW G mX4_copyFrom 0 0 o9 h9 0 0 0 [(0, .ref 87), (1, .ref 1)] [] (zHp (c, r, w, lim, tol, cart, wov, lot, sew, mis, cnt, col, len, lef, sbt, shd) (sa, sb, sc, (c1, r1, w1, lim1, tol1, cart1, wov1, lot1, sew1, mis1, cnt1, col1, len1, lef1, sbt1, shd1), hcn, hnx, byt, tln, num, wrd, pos, flt) Y out) from hs _ _ rfl rfl
  intro o9 h9 ho9 hh9
  refine z_aload_n 0 dX4_copyFrom_0 rfl rfl ?_
  refine z_aload_n 1 dX4_copyFrom_1 rfl rfl ?_
  refine z_get (v := .int (nI c)) 0 zgo_1 rfl inX4 (by decide) zw_130 rfl rfl dX4_copyFrom_2 ?_
  refine z_puti 0 tyX4 zgo_87 rfl inX4 tyX4_ok nmX4 (by decide) zw_130 rfl rfl (by decide +kernel) (Nat.le_of_ble_eq_true rfl) dX4_copyFrom_5 ?_
  refine z_eqh (h2 := (zHp (c, r, w, lim, tol, cart, wov, lot, sew, mis, cnt, col, len, lef, sbt, shd) (sa, sb, sc, (c, r1, w1, lim1, tol1, cart1, wov1, lot1, sew1, mis1, cnt1, col1, len1, lef1, sbt1, shd1), hcn, hnx, byt, tln, num, wrd, pos, flt) Y out)) zsf_87_0 ?_
  refine z_aload_n 0 dX4_copyFrom_8 rfl rfl ?_
  refine z_aload_n 1 dX4_copyFrom_9 rfl rfl ?_
  refine z_get (v := .int (nI r)) 1 zgo_1 rfl inX4 (by decide) zw_132 rfl rfl dX4_copyFrom_10 ?_
  refine z_puti 1 tyX4 zgo_87 rfl inX4 tyX4_ok nmX4 (by decide) zw_132 rfl rfl (by decide +kernel) (Nat.le_of_ble_eq_true rfl) dX4_copyFrom_13 ?_
  refine z_eqh (h2 := (zHp (c, r, w, lim, tol, cart, wov, lot, sew, mis, cnt, col, len, lef, sbt, shd) (sa, sb, sc, (c, r, w1, lim1, tol1, cart1, wov1, lot1, sew1, mis1, cnt1, col1, len1, lef1, sbt1, shd1), hcn, hnx, byt, tln, num, wrd, pos, flt) Y out)) zsf_87_1 ?_
  refine z_aload_n 0 dX4_copyFrom_16 rfl rfl ?_
  refine z_aload_n 1 dX4_copyFrom_17 rfl rfl ?_
  refine z_get (v := .int (nI w)) 2 zgo_1 rfl inX4 (by decide) zw_134 rfl rfl dX4_copyFrom_18 ?_
  refine z_puti 2 tyX4 zgo_87 rfl inX4 tyX4_ok nmX4 (by decide) zw_134 rfl rfl (by decide +kernel) (Nat.le_of_ble_eq_true rfl) dX4_copyFrom_21 ?_
  refine z_eqh (h2 := (zHp (c, r, w, lim, tol, cart, wov, lot, sew, mis, cnt, col, len, lef, sbt, shd) (sa, sb, sc, (c, r, w, lim1, tol1, cart1, wov1, lot1, sew1, mis1, cnt1, col1, len1, lef1, sbt1, shd1), hcn, hnx, byt, tln, num, wrd, pos, flt) Y out)) zsf_87_2 ?_
  refine z_aload_n 0 dX4_copyFrom_24 rfl rfl ?_
  refine z_aload_n 1 dX4_copyFrom_25 rfl rfl ?_
  refine z_get (v := .int (nI lim)) 3 zgo_1 rfl inX4 (by decide) zw_136 rfl rfl dX4_copyFrom_26 ?_
  refine z_puti 3 tyX4 zgo_87 rfl inX4 tyX4_ok nmX4 (by decide) zw_136 rfl rfl (by decide +kernel) (Nat.le_of_ble_eq_true rfl) dX4_copyFrom_29 ?_
  refine z_eqh (h2 := (zHp (c, r, w, lim, tol, cart, wov, lot, sew, mis, cnt, col, len, lef, sbt, shd) (sa, sb, sc, (c, r, w, lim, tol1, cart1, wov1, lot1, sew1, mis1, cnt1, col1, len1, lef1, sbt1, shd1), hcn, hnx, byt, tln, num, wrd, pos, flt) Y out)) zsf_87_3 ?_
  refine z_aload_n 0 dX4_copyFrom_32 rfl rfl ?_
  refine z_aload_n 1 dX4_copyFrom_33 rfl rfl ?_
  refine z_get (v := .int tol) 4 zgo_1 rfl inX4 (by decide) zw_138 rfl rfl dX4_copyFrom_34 ?_
  refine z_puti 4 tyX4 zgo_87 rfl inX4 tyX4_ok nmX4 (by decide) zw_138 rfl rfl (by decide +kernel) (Nat.le_of_ble_eq_true rfl) dX4_copyFrom_37 ?_
  refine z_eqh (h2 := (zHp (c, r, w, lim, tol, cart, wov, lot, sew, mis, cnt, col, len, lef, sbt, shd) (sa, sb, sc, (c, r, w, lim, tol, cart1, wov1, lot1, sew1, mis1, cnt1, col1, len1, lef1, sbt1, shd1), hcn, hnx, byt, tln, num, wrd, pos, flt) Y out)) zsf_87_4 ?_
  refine z_aload_n 0 dX4_copyFrom_40 rfl rfl ?_
  refine z_get (v := .ref 88) 5 zgo_87 rfl inX4 (by decide) zw_139 rfl rfl dX4_copyFrom_41 ?_
  refine z_aload_n 1 dX4_copyFrom_44 rfl rfl ?_
  refine z_get (v := .ref 2) 5 zgo_1 rfl inX4 (by decide) zw_139 rfl rfl dX4_copyFrom_45 ?_
  refine z_callV (N := mX2_copyFrom) 1 [.ref 2] [] lX2_copyFrom ⟨zw_610, zw_611, zw_612⟩ rfl zgo_88 rfl rfl (Nat.le_of_ble_eq_true rfl) (by decide) ⟨zlt, zlt⟩ ⟨Nat.zero_le _, Nat.zero_le _⟩ zal (c_gCopy (g := 88) (v := 89) (g2 := 2) (v2 := 3) (f := cart1) (f2 := cart) (h1 := (zHp (c, r, w, lim, tol, cart, wov, lot, sew, mis, cnt, col, len, lef, sbt, shd) (sa, sb, sc, (c, r, w, lim, tol, (zFl cart cart1 320), wov1, lot1, sew1, mis1, cnt1, col1, len1, lef1, sbt1, shd1), hcn, hnx, byt, tln, num, wrd, pos, flt) Y out)) zlt zgo_88 zga_89 zgo_2 zga_3 (by decide) zsa_89) dX4_copyFrom_48 ?_
  refine z_aload_n 0 dX4_copyFrom_51 rfl rfl ?_
  refine z_get (v := .ref 90) 6 zgo_87 rfl inX4 (by decide) zw_141 rfl rfl dX4_copyFrom_52 ?_
  refine z_aload_n 1 dX4_copyFrom_55 rfl rfl ?_
  refine z_get (v := .ref 4) 6 zgo_1 rfl inX4 (by decide) zw_141 rfl rfl dX4_copyFrom_56 ?_
  refine z_callV (N := mX2_copyFrom) 1 [.ref 4] [] lX2_copyFrom ⟨zw_610, zw_611, zw_612⟩ rfl zgo_90 rfl rfl (Nat.le_of_ble_eq_true rfl) (by decide) ⟨zlt, zlt⟩ ⟨Nat.zero_le _, Nat.zero_le _⟩ zal (c_gCopy (g := 90) (v := 91) (g2 := 4) (v2 := 5) (f := wov1) (f2 := wov) (h1 := (zHp (c, r, w, lim, tol, cart, wov, lot, sew, mis, cnt, col, len, lef, sbt, shd) (sa, sb, sc, (c, r, w, lim, tol, (zFl cart cart1 320), (zFl wov wov1 320), lot1, sew1, mis1, cnt1, col1, len1, lef1, sbt1, shd1), hcn, hnx, byt, tln, num, wrd, pos, flt) Y out)) zlt zgo_90 zga_91 zgo_4 zga_5 (by decide) zsa_91) dX4_copyFrom_59 ?_
  refine z_aload_n 0 dX4_copyFrom_62 rfl rfl ?_
  refine z_get (v := .ref 92) 7 zgo_87 rfl inX4 (by decide) zw_142 rfl rfl dX4_copyFrom_63 ?_
  refine z_aload_n 1 dX4_copyFrom_66 rfl rfl ?_
  refine z_get (v := .ref 6) 7 zgo_1 rfl inX4 (by decide) zw_142 rfl rfl dX4_copyFrom_67 ?_
  refine z_callV (N := mX2_copyFrom) 1 [.ref 6] [] lX2_copyFrom ⟨zw_610, zw_611, zw_612⟩ rfl zgo_92 rfl rfl (Nat.le_of_ble_eq_true rfl) (by decide) ⟨zlt, zlt⟩ ⟨Nat.zero_le _, Nat.zero_le _⟩ zal (c_gCopy (g := 92) (v := 93) (g2 := 6) (v2 := 7) (f := lot1) (f2 := lot) (h1 := (zHp (c, r, w, lim, tol, cart, wov, lot, sew, mis, cnt, col, len, lef, sbt, shd) (sa, sb, sc, (c, r, w, lim, tol, (zFl cart cart1 320), (zFl wov wov1 320), (zFl lot lot1 320), sew1, mis1, cnt1, col1, len1, lef1, sbt1, shd1), hcn, hnx, byt, tln, num, wrd, pos, flt) Y out)) zlt zgo_92 zga_93 zgo_6 zga_7 (by decide) zsa_93) dX4_copyFrom_70 ?_
  refine z_aload_n 0 dX4_copyFrom_73 rfl rfl ?_
  refine z_get (v := .ref 94) 8 zgo_87 rfl inX4 (by decide) zw_143 rfl rfl dX4_copyFrom_74 ?_
  refine z_aload_n 1 dX4_copyFrom_77 rfl rfl ?_
  refine z_get (v := .ref 8) 8 zgo_1 rfl inX4 (by decide) zw_143 rfl rfl dX4_copyFrom_78 ?_
  refine z_callV (N := mX2_copyFrom) 1 [.ref 8] [] lX2_copyFrom ⟨zw_610, zw_611, zw_612⟩ rfl zgo_94 rfl rfl (Nat.le_of_ble_eq_true rfl) (by decide) ⟨zlt, zlt⟩ ⟨Nat.zero_le _, Nat.zero_le _⟩ zal (c_gCopy (g := 94) (v := 95) (g2 := 8) (v2 := 9) (f := sew1) (f2 := sew) (h1 := (zHp (c, r, w, lim, tol, cart, wov, lot, sew, mis, cnt, col, len, lef, sbt, shd) (sa, sb, sc, (c, r, w, lim, tol, (zFl cart cart1 320), (zFl wov wov1 320), (zFl lot lot1 320), (zFl sew sew1 320), mis1, cnt1, col1, len1, lef1, sbt1, shd1), hcn, hnx, byt, tln, num, wrd, pos, flt) Y out)) zlt zgo_94 zga_95 zgo_8 zga_9 (by decide) zsa_95) dX4_copyFrom_81 ?_
  refine z_aload_n 0 dX4_copyFrom_84 rfl rfl ?_
  refine z_get (v := .ref 96) 9 zgo_87 rfl inX4 (by decide) zw_144 rfl rfl dX4_copyFrom_85 ?_
  refine z_aload_n 1 dX4_copyFrom_88 rfl rfl ?_
  refine z_get (v := .ref 10) 9 zgo_1 rfl inX4 (by decide) zw_144 rfl rfl dX4_copyFrom_89 ?_
  refine z_callV (N := mX6_copyFrom) 1 [.ref 10] [] lX6_copyFrom ⟨zw_614, zw_615, zw_616⟩ rfl zgo_96 rfl rfl (Nat.le_of_ble_eq_true rfl) (by decide) ⟨zlt, zlt⟩ ⟨Nat.zero_le _, Nat.zero_le _⟩ zal (c_nCopy (g := 96) (v := 97) (g2 := 10) (v2 := 11) (f := mis1) (f2 := mis) (h1 := (zHp (c, r, w, lim, tol, cart, wov, lot, sew, mis, cnt, col, len, lef, sbt, shd) (sa, sb, sc, (c, r, w, lim, tol, (zFl cart cart1 320), (zFl wov wov1 320), (zFl lot lot1 320), (zFl sew sew1 320), (zFl mis mis1 20), cnt1, col1, len1, lef1, sbt1, shd1), hcn, hnx, byt, tln, num, wrd, pos, flt) Y out)) (n := 20) (by omega) zlt zgo_96 zga_97 zgo_10 zga_11 (by decide) zsa_97) dX4_copyFrom_92 ?_
  refine z_aload_n 0 dX4_copyFrom_95 rfl rfl ?_
  refine z_get (v := .ref 98) 10 zgo_87 rfl inX4 (by decide) zw_145 rfl rfl dX4_copyFrom_96 ?_
  refine z_aload_n 1 dX4_copyFrom_99 rfl rfl ?_
  refine z_get (v := .ref 12) 10 zgo_1 rfl inX4 (by decide) zw_145 rfl rfl dX4_copyFrom_100 ?_
  refine z_callV (N := mX5_copyFrom) 1 [.ref 12] [] lX5_copyFrom ⟨zw_619, zw_620, zw_621⟩ rfl zgo_98 rfl rfl (Nat.le_of_ble_eq_true rfl) (by decide) ⟨zlt, zlt⟩ ⟨Nat.zero_le _, Nat.zero_le _⟩ zal (c_lcopy_87_1 (sa := sa) (sb := sb) (sc := sc) (sd := sd) hG) dX4_copyFrom_103 ?_
  exact z_vret rfl dX4_copyFrom_106 ho9.symm (zo_h hh9 (by rfl)) (Nat.zero_le _) (Nat.zero_le _)

set_option maxHeartbeats 4000000 in
set_option maxRecDepth 100000 in
theorem c_lcopy_1_87 {G : zT} {c : Nat} {r : Nat} {w : Nat} {lim : Nat} {tol : Int32} {cart : Nat → Int32} {wov : Nat → Int32} {lot : Nat → Int32} {sew : Nat → Int32} {mis : Nat → Int32} {cnt : Nat} {col : Nat → Int32} {len : Nat → Int32} {lef : Nat → Int32} {sbt : Nat → Int32} {shd : Nat → UInt32} {c1 : Nat} {r1 : Nat} {w1 : Nat} {lim1 : Nat} {tol1 : Int32} {cart1 : Nat → Int32} {wov1 : Nat → Int32} {lot1 : Nat → Int32} {sew1 : Nat → Int32} {mis1 : Nat → Int32} {cnt1 : Nat} {col1 : Nat → Int32} {len1 : Nat → Int32} {lef1 : Nat → Int32} {sbt1 : Nat → Int32} {shd1 : Nat → UInt32} {sa sb sc sd : zS} {hcn hnx tln wrd pos : Nat} {byt num : Nat → Int32} {flt : Int32} {Y : zYr} {out : Nat → Int64} (hG : zAl G = false) : zRun G mX5_copyFrom 0 0 [.ref 12, .ref 98] (zHp (c, r, w, lim, tol, cart, wov, lot, sew, mis, cnt, col, len, lef, sbt, shd) (sa, sb, sc, (c1, r1, w1, lim1, tol1, cart1, wov1, lot1, sew1, mis1, cnt1, col1, len1, lef1, sbt1, shd1), hcn, hnx, byt, tln, num, wrd, pos, flt) Y out) (.inr none) (zHp (c, r, w, lim, tol, cart, wov, lot, sew, mis, cnt1, (zFl col1 col 16), (zFl len1 len 16), (zFl lef1 lef 16), (zFl sbt1 sbt 16), (zFl shd1 shd 16)) (sa, sb, sc, (c1, r1, w1, lim1, tol1, cart1, wov1, lot1, sew1, mis1, cnt1, col1, len1, lef1, sbt1, shd1), hcn, hnx, byt, tln, num, wrd, pos, flt) Y out) := by
  refine zRun_of (by decide +kernel) rfl rfl (Nat.le_of_ble_eq_true rfl) ?_
  suffices hs : ∀ (o9 : zO) (h9 : zH), (Sum.inr none : zO) = o9 → (zHp (c, r, w, lim, tol, cart, wov, lot, sew, mis, cnt1, (zFl col1 col 16), (zFl len1 len 16), (zFl lef1 lef 16), (zFl sbt1 sbt 16), (zFl shd1 shd 16)) (sa, sb, sc, (c1, r1, w1, lim1, tol1, cart1, wov1, lot1, sew1, mis1, cnt1, col1, len1, lef1, sbt1, shd1), hcn, hnx, byt, tln, num, wrd, pos, flt) Y out) = h9 → zPW G mX5_copyFrom 0 0 o9 h9 0 0 0 [(0, .ref 12), (1, .ref 98)] [] (zHp (c, r, w, lim, tol, cart, wov, lot, sew, mis, cnt, col, len, lef, sbt, shd) (sa, sb, sc, (c1, r1, w1, lim1, tol1, cart1, wov1, lot1, sew1, mis1, cnt1, col1, len1, lef1, sbt1, shd1), hcn, hnx, byt, tln, num, wrd, pos, flt) Y out) from hs _ _ rfl rfl
  intro o9 h9 ho9 hh9
  refine z_aload_n 0 dX5_copyFrom_0 rfl rfl ?_
  refine z_aload_n 1 dX5_copyFrom_1 rfl rfl ?_
  refine z_get (v := .int (nI cnt1)) 0 zgo_98 rfl inX5 (by decide) zw_100 rfl rfl dX5_copyFrom_2 ?_
  refine z_puti 0 tyX5 zgo_12 rfl inX5 tyX5_ok nmX5 (by decide) zw_100 rfl rfl (by decide +kernel) (Nat.le_of_ble_eq_true rfl) dX5_copyFrom_5 ?_
  refine z_eqh (h2 := (zHp (c, r, w, lim, tol, cart, wov, lot, sew, mis, cnt1, col, len, lef, sbt, shd) (sa, sb, sc, (c1, r1, w1, lim1, tol1, cart1, wov1, lot1, sew1, mis1, cnt1, col1, len1, lef1, sbt1, shd1), hcn, hnx, byt, tln, num, wrd, pos, flt) Y out)) zsf_12_0 ?_
  refine z_aload_n 0 dX5_copyFrom_8 rfl rfl ?_
  refine z_get (v := .ref 13) 1 zgo_12 rfl inX5 (by decide) zw_103 rfl rfl dX5_copyFrom_9 ?_
  refine z_aload_n 1 dX5_copyFrom_12 rfl rfl ?_
  refine z_get (v := .ref 99) 1 zgo_98 rfl inX5 (by decide) zw_103 rfl rfl dX5_copyFrom_13 ?_
  refine z_callV (N := mX6_copyFrom) 1 [.ref 99] [] lX6_copyFrom ⟨zw_623, zw_615, zw_616⟩ rfl zgo_13 rfl rfl (Nat.le_of_ble_eq_true rfl) (by decide) ⟨zlt, zlt⟩ ⟨Nat.zero_le _, Nat.zero_le _⟩ zal (c_nCopy (g := 13) (v := 14) (g2 := 99) (v2 := 100) (f := col) (f2 := col1) (h1 := (zHp (c, r, w, lim, tol, cart, wov, lot, sew, mis, cnt1, (zFl col1 col 16), len, lef, sbt, shd) (sa, sb, sc, (c1, r1, w1, lim1, tol1, cart1, wov1, lot1, sew1, mis1, cnt1, col1, len1, lef1, sbt1, shd1), hcn, hnx, byt, tln, num, wrd, pos, flt) Y out)) (n := 16) (by omega) zlt zgo_13 zga_14 zgo_99 zga_100 (by decide) zsa_14) dX5_copyFrom_16 ?_
  refine z_aload_n 0 dX5_copyFrom_19 rfl rfl ?_
  refine z_get (v := .ref 15) 2 zgo_12 rfl inX5 (by decide) zw_105 rfl rfl dX5_copyFrom_20 ?_
  refine z_aload_n 1 dX5_copyFrom_23 rfl rfl ?_
  refine z_get (v := .ref 101) 2 zgo_98 rfl inX5 (by decide) zw_105 rfl rfl dX5_copyFrom_24 ?_
  refine z_callV (N := mX6_copyFrom) 1 [.ref 101] [] lX6_copyFrom ⟨zw_623, zw_615, zw_616⟩ rfl zgo_15 rfl rfl (Nat.le_of_ble_eq_true rfl) (by decide) ⟨zlt, zlt⟩ ⟨Nat.zero_le _, Nat.zero_le _⟩ zal (c_nCopy (g := 15) (v := 16) (g2 := 101) (v2 := 102) (f := len) (f2 := len1) (h1 := (zHp (c, r, w, lim, tol, cart, wov, lot, sew, mis, cnt1, (zFl col1 col 16), (zFl len1 len 16), lef, sbt, shd) (sa, sb, sc, (c1, r1, w1, lim1, tol1, cart1, wov1, lot1, sew1, mis1, cnt1, col1, len1, lef1, sbt1, shd1), hcn, hnx, byt, tln, num, wrd, pos, flt) Y out)) (n := 16) (by omega) zlt zgo_15 zga_16 zgo_101 zga_102 (by decide) zsa_16) dX5_copyFrom_27 ?_
  refine z_aload_n 0 dX5_copyFrom_30 rfl rfl ?_
  refine z_get (v := .ref 17) 3 zgo_12 rfl inX5 (by decide) zw_107 rfl rfl dX5_copyFrom_31 ?_
  refine z_aload_n 1 dX5_copyFrom_34 rfl rfl ?_
  refine z_get (v := .ref 103) 3 zgo_98 rfl inX5 (by decide) zw_107 rfl rfl dX5_copyFrom_35 ?_
  refine z_callV (N := mX6_copyFrom) 1 [.ref 103] [] lX6_copyFrom ⟨zw_623, zw_615, zw_616⟩ rfl zgo_17 rfl rfl (Nat.le_of_ble_eq_true rfl) (by decide) ⟨zlt, zlt⟩ ⟨Nat.zero_le _, Nat.zero_le _⟩ zal (c_nCopy (g := 17) (v := 18) (g2 := 103) (v2 := 104) (f := lef) (f2 := lef1) (h1 := (zHp (c, r, w, lim, tol, cart, wov, lot, sew, mis, cnt1, (zFl col1 col 16), (zFl len1 len 16), (zFl lef1 lef 16), sbt, shd) (sa, sb, sc, (c1, r1, w1, lim1, tol1, cart1, wov1, lot1, sew1, mis1, cnt1, col1, len1, lef1, sbt1, shd1), hcn, hnx, byt, tln, num, wrd, pos, flt) Y out)) (n := 16) (by omega) zlt zgo_17 zga_18 zgo_103 zga_104 (by decide) zsa_18) dX5_copyFrom_38 ?_
  refine z_aload_n 0 dX5_copyFrom_41 rfl rfl ?_
  refine z_get (v := .ref 19) 4 zgo_12 rfl inX5 (by decide) zw_109 rfl rfl dX5_copyFrom_42 ?_
  refine z_aload_n 1 dX5_copyFrom_45 rfl rfl ?_
  refine z_get (v := .ref 105) 4 zgo_98 rfl inX5 (by decide) zw_109 rfl rfl dX5_copyFrom_46 ?_
  refine z_callV (N := mX6_copyFrom) 1 [.ref 105] [] lX6_copyFrom ⟨zw_623, zw_615, zw_616⟩ rfl zgo_19 rfl rfl (Nat.le_of_ble_eq_true rfl) (by decide) ⟨zlt, zlt⟩ ⟨Nat.zero_le _, Nat.zero_le _⟩ zal (c_nCopy (g := 19) (v := 20) (g2 := 105) (v2 := 106) (f := sbt) (f2 := sbt1) (h1 := (zHp (c, r, w, lim, tol, cart, wov, lot, sew, mis, cnt1, (zFl col1 col 16), (zFl len1 len 16), (zFl lef1 lef 16), (zFl sbt1 sbt 16), shd) (sa, sb, sc, (c1, r1, w1, lim1, tol1, cart1, wov1, lot1, sew1, mis1, cnt1, col1, len1, lef1, sbt1, shd1), hcn, hnx, byt, tln, num, wrd, pos, flt) Y out)) (n := 16) (by omega) zlt zgo_19 zga_20 zgo_105 zga_106 (by decide) zsa_20) dX5_copyFrom_49 ?_
  refine z_iconst (v := 0) dX5_copyFrom_52 (by decide) ?_
  refine z_istore_n (lv' := [(2, .int 0), (0, .ref 12), (1, .ref 98)]) dX5_copyFrom_53 rfl (by decide) rfl ?_
  have L54_1 : ∀ (d k : Nat), k ≤ 16 → 16 + 1 ≤ k + d → zPW G mX5_copyFrom 0 0 o9 h9 0 0 54 [(2, .int (nI k)), (0, .ref 12), (1, .ref 98)] [] (zHp (c, r, w, lim, tol, cart, wov, lot, sew, mis, cnt1, (zFl col1 col 16), (zFl len1 len 16), (zFl lef1 lef 16), (zFl sbt1 sbt 16), (zFl shd1 shd k)) (sa, sb, sc, (c1, r1, w1, lim1, tol1, cart1, wov1, lot1, sew1, mis1, cnt1, col1, len1, lef1, sbt1, shd1), hcn, hnx, byt, tln, num, wrd, pos, flt) Y out) := by
    intro d
    induction d with
    | zero => intro k hk hd; exact absurd hd (by omega)
    | succ d ih =>
      intro k hk_k hd_k
      have ih54 := ih
      clear ih
      refine z_iload_n 0 dX5_copyFrom_54 rfl rfl ?_
      refine z_bipush (v := nI 16) dX5_copyFrom_55 (by decide) ?_
      refine z_icmp_ge (tgt := 76) dX5_copyFrom_57 (by decide) (fun c_57 => ?_) (fun c_57 => ?_)
      · skip
        have hx_k := zge (by omega) hk_k c_57
        exact z_vret rfl dX5_copyFrom_76 ho9.symm (zo_h hh9 (by rw [hx_k])) (Nat.zero_le _) (Nat.zero_le _)
      · skip
        have hx_k := zlt' (by omega) hk_k c_57
        refine z_aload_n 1 dX5_copyFrom_60 rfl rfl ?_
        refine z_iload_n 0 dX5_copyFrom_61 rfl rfl ?_
        refine z_aload_n 2 dX5_copyFrom_62 rfl rfl ?_
        refine z_iload_n 0 dX5_copyFrom_63 rfl rfl ?_
        refine z_callV (N := mX5_shadeOf) 1 [.int (nI k)] [.int (nI k), .ref 12] lX5_shadeOf ⟨zw_624, zw_335, zw_336⟩ rfl zgo_98 rfl rfl (Nat.le_of_ble_eq_true rfl) (by decide) ⟨zlt, zlt⟩ ⟨Nat.zero_le _, Nat.zero_le _⟩ (fun _ => rfl) (c_lShade (g := 98) (v := 107) (f := shd1) zlt zgo_98 zga_107 (nI k)) dX5_copyFrom_64 ?_
        refine z_callV (N := mX5_putShade) 2 [.int (nI k), .float (zSh shd1 (nI k))] [] lX5_putShade ⟨zw_625, zw_627, zw_28⟩ rfl zgo_12 rfl rfl (Nat.le_of_ble_eq_true rfl) (by decide) ⟨zlt, zlt⟩ ⟨Nat.zero_le _, Nat.zero_le _⟩ zal (c_lPutShade (g := 12) (v := 21) (f := (zFl shd1 shd k)) (h1 := (zHp (c, r, w, lim, tol, cart, wov, lot, sew, mis, cnt1, (zFl col1 col 16), (zFl len1 len 16), (zFl lef1 lef 16), (zFl sbt1 sbt 16), (zPutS (zFl shd1 shd k) (nI k) (zSh shd1 (nI k)))) (sa, sb, sc, (c1, r1, w1, lim1, tol1, cart1, wov1, lot1, sew1, mis1, cnt1, col1, len1, lef1, sbt1, shd1), hcn, hnx, byt, tln, num, wrd, pos, flt) Y out)) zlt zgo_12 zga_21 (nI k) (zSh shd1 (nI k)) zsa_21) dX5_copyFrom_67 ?_
        refine z_iinc (v := nI (k + 1)) (lv' := [(2, .int (nI (k + 1))), (0, .ref 12), (1, .ref 98)]) 0 dX5_copyFrom_70 rfl (nI_1 k) (by decide) rfl ?_
        refine z_goto (tgt := 54) dX5_copyFrom_73 (by decide) ?_
        refine z_sub [0, 1, 2] (lv' := [(2, .int (nI (k + 1))), (0, .ref 12), (1, .ref 98)]) rfl ?_
        refine z_eqs (lv2 := [(2, .int (nI (k + 1))), (0, .ref 12), (1, .ref 98)]) (h2 := (zHp (c, r, w, lim, tol, cart, wov, lot, sew, mis, cnt1, (zFl col1 col 16), (zFl len1 len 16), (zFl lef1 lef 16), (zFl sbt1 sbt 16), (zFl shd1 shd (k + 1))) (sa, sb, sc, (c1, r1, w1, lim1, tol1, cart1, wov1, lot1, sew1, mis1, cnt1, col1, len1, lef1, sbt1, shd1), hcn, hnx, byt, tln, num, wrd, pos, flt) Y out)) (by rfl) (by rw [zFl_sS _ _ hx_k]) ?_
        exact ih54 (k + 1) (by omega) (by omega)
  refine z_sub [0, 1, 2] (lv' := [(2, .int 0), (0, .ref 12), (1, .ref 98)]) rfl ?_
  refine z_eqs (lv2 := [(2, .int (nI 0)), (0, .ref 12), (1, .ref 98)]) (h2 := (zHp (c, r, w, lim, tol, cart, wov, lot, sew, mis, cnt1, (zFl col1 col 16), (zFl len1 len 16), (zFl lef1 lef 16), (zFl sbt1 sbt 16), (zFl shd1 shd 0)) (sa, sb, sc, (c1, r1, w1, lim1, tol1, cart1, wov1, lot1, sew1, mis1, cnt1, col1, len1, lef1, sbt1, shd1), hcn, hnx, byt, tln, num, wrd, pos, flt) Y out)) (by rfl) (by rw [zFl_0]) ?_
  exact L54_1 (16 + 1) 0 (Nat.zero_le _) (by omega)

set_option maxHeartbeats 4000000 in
set_option maxRecDepth 100000 in
theorem c_copy_1_87 {G : zT} {c : Nat} {r : Nat} {w : Nat} {lim : Nat} {tol : Int32} {cart : Nat → Int32} {wov : Nat → Int32} {lot : Nat → Int32} {sew : Nat → Int32} {mis : Nat → Int32} {cnt : Nat} {col : Nat → Int32} {len : Nat → Int32} {lef : Nat → Int32} {sbt : Nat → Int32} {shd : Nat → UInt32} {c1 : Nat} {r1 : Nat} {w1 : Nat} {lim1 : Nat} {tol1 : Int32} {cart1 : Nat → Int32} {wov1 : Nat → Int32} {lot1 : Nat → Int32} {sew1 : Nat → Int32} {mis1 : Nat → Int32} {cnt1 : Nat} {col1 : Nat → Int32} {len1 : Nat → Int32} {lef1 : Nat → Int32} {sbt1 : Nat → Int32} {shd1 : Nat → UInt32} {sa sb sc sd : zS} {hcn hnx tln wrd pos : Nat} {byt num : Nat → Int32} {flt : Int32} {Y : zYr} {out : Nat → Int64} (hG : zAl G = false) : zRun G mX4_copyFrom 0 0 [.ref 1, .ref 87] (zHp (c, r, w, lim, tol, cart, wov, lot, sew, mis, cnt, col, len, lef, sbt, shd) (sa, sb, sc, (c1, r1, w1, lim1, tol1, cart1, wov1, lot1, sew1, mis1, cnt1, col1, len1, lef1, sbt1, shd1), hcn, hnx, byt, tln, num, wrd, pos, flt) Y out) (.inr none) (zHp (c1, r1, w1, lim1, tol1, (zFl cart1 cart 320), (zFl wov1 wov 320), (zFl lot1 lot 320), (zFl sew1 sew 320), (zFl mis1 mis 20), cnt1, (zFl col1 col 16), (zFl len1 len 16), (zFl lef1 lef 16), (zFl sbt1 sbt 16), (zFl shd1 shd 16)) (sa, sb, sc, (c1, r1, w1, lim1, tol1, cart1, wov1, lot1, sew1, mis1, cnt1, col1, len1, lef1, sbt1, shd1), hcn, hnx, byt, tln, num, wrd, pos, flt) Y out) := by
  refine zRun_of (by decide +kernel) rfl rfl (Nat.le_of_ble_eq_true rfl) ?_
  suffices hs : ∀ (o9 : zO) (h9 : zH), (Sum.inr none : zO) = o9 → (zHp (c1, r1, w1, lim1, tol1, (zFl cart1 cart 320), (zFl wov1 wov 320), (zFl lot1 lot 320), (zFl sew1 sew 320), (zFl mis1 mis 20), cnt1, (zFl col1 col 16), (zFl len1 len 16), (zFl lef1 lef 16), (zFl sbt1 sbt 16), (zFl shd1 shd 16)) (sa, sb, sc, (c1, r1, w1, lim1, tol1, cart1, wov1, lot1, sew1, mis1, cnt1, col1, len1, lef1, sbt1, shd1), hcn, hnx, byt, tln, num, wrd, pos, flt) Y out) = h9 → zPW G mX4_copyFrom 0 0 o9 h9 0 0 0 [(0, .ref 1), (1, .ref 87)] [] (zHp (c, r, w, lim, tol, cart, wov, lot, sew, mis, cnt, col, len, lef, sbt, shd) (sa, sb, sc, (c1, r1, w1, lim1, tol1, cart1, wov1, lot1, sew1, mis1, cnt1, col1, len1, lef1, sbt1, shd1), hcn, hnx, byt, tln, num, wrd, pos, flt) Y out) from hs _ _ rfl rfl
  intro o9 h9 ho9 hh9
  refine z_aload_n 0 dX4_copyFrom_0 rfl rfl ?_
  refine z_aload_n 1 dX4_copyFrom_1 rfl rfl ?_
  refine z_get (v := .int (nI c1)) 0 zgo_87 rfl inX4 (by decide) zw_130 rfl rfl dX4_copyFrom_2 ?_
  refine z_puti 0 tyX4 zgo_1 rfl inX4 tyX4_ok nmX4 (by decide) zw_130 rfl rfl (by decide +kernel) (Nat.le_of_ble_eq_true rfl) dX4_copyFrom_5 ?_
  refine z_eqh (h2 := (zHp (c1, r, w, lim, tol, cart, wov, lot, sew, mis, cnt, col, len, lef, sbt, shd) (sa, sb, sc, (c1, r1, w1, lim1, tol1, cart1, wov1, lot1, sew1, mis1, cnt1, col1, len1, lef1, sbt1, shd1), hcn, hnx, byt, tln, num, wrd, pos, flt) Y out)) zsf_1_0 ?_
  refine z_aload_n 0 dX4_copyFrom_8 rfl rfl ?_
  refine z_aload_n 1 dX4_copyFrom_9 rfl rfl ?_
  refine z_get (v := .int (nI r1)) 1 zgo_87 rfl inX4 (by decide) zw_132 rfl rfl dX4_copyFrom_10 ?_
  refine z_puti 1 tyX4 zgo_1 rfl inX4 tyX4_ok nmX4 (by decide) zw_132 rfl rfl (by decide +kernel) (Nat.le_of_ble_eq_true rfl) dX4_copyFrom_13 ?_
  refine z_eqh (h2 := (zHp (c1, r1, w, lim, tol, cart, wov, lot, sew, mis, cnt, col, len, lef, sbt, shd) (sa, sb, sc, (c1, r1, w1, lim1, tol1, cart1, wov1, lot1, sew1, mis1, cnt1, col1, len1, lef1, sbt1, shd1), hcn, hnx, byt, tln, num, wrd, pos, flt) Y out)) zsf_1_1 ?_
  refine z_aload_n 0 dX4_copyFrom_16 rfl rfl ?_
  refine z_aload_n 1 dX4_copyFrom_17 rfl rfl ?_
  refine z_get (v := .int (nI w1)) 2 zgo_87 rfl inX4 (by decide) zw_134 rfl rfl dX4_copyFrom_18 ?_
  refine z_puti 2 tyX4 zgo_1 rfl inX4 tyX4_ok nmX4 (by decide) zw_134 rfl rfl (by decide +kernel) (Nat.le_of_ble_eq_true rfl) dX4_copyFrom_21 ?_
  refine z_eqh (h2 := (zHp (c1, r1, w1, lim, tol, cart, wov, lot, sew, mis, cnt, col, len, lef, sbt, shd) (sa, sb, sc, (c1, r1, w1, lim1, tol1, cart1, wov1, lot1, sew1, mis1, cnt1, col1, len1, lef1, sbt1, shd1), hcn, hnx, byt, tln, num, wrd, pos, flt) Y out)) zsf_1_2 ?_
  refine z_aload_n 0 dX4_copyFrom_24 rfl rfl ?_
  refine z_aload_n 1 dX4_copyFrom_25 rfl rfl ?_
  refine z_get (v := .int (nI lim1)) 3 zgo_87 rfl inX4 (by decide) zw_136 rfl rfl dX4_copyFrom_26 ?_
  refine z_puti 3 tyX4 zgo_1 rfl inX4 tyX4_ok nmX4 (by decide) zw_136 rfl rfl (by decide +kernel) (Nat.le_of_ble_eq_true rfl) dX4_copyFrom_29 ?_
  refine z_eqh (h2 := (zHp (c1, r1, w1, lim1, tol, cart, wov, lot, sew, mis, cnt, col, len, lef, sbt, shd) (sa, sb, sc, (c1, r1, w1, lim1, tol1, cart1, wov1, lot1, sew1, mis1, cnt1, col1, len1, lef1, sbt1, shd1), hcn, hnx, byt, tln, num, wrd, pos, flt) Y out)) zsf_1_3 ?_
  refine z_aload_n 0 dX4_copyFrom_32 rfl rfl ?_
  refine z_aload_n 1 dX4_copyFrom_33 rfl rfl ?_
  refine z_get (v := .int tol1) 4 zgo_87 rfl inX4 (by decide) zw_138 rfl rfl dX4_copyFrom_34 ?_
  refine z_puti 4 tyX4 zgo_1 rfl inX4 tyX4_ok nmX4 (by decide) zw_138 rfl rfl (by decide +kernel) (Nat.le_of_ble_eq_true rfl) dX4_copyFrom_37 ?_
  refine z_eqh (h2 := (zHp (c1, r1, w1, lim1, tol1, cart, wov, lot, sew, mis, cnt, col, len, lef, sbt, shd) (sa, sb, sc, (c1, r1, w1, lim1, tol1, cart1, wov1, lot1, sew1, mis1, cnt1, col1, len1, lef1, sbt1, shd1), hcn, hnx, byt, tln, num, wrd, pos, flt) Y out)) zsf_1_4 ?_
  refine z_aload_n 0 dX4_copyFrom_40 rfl rfl ?_
  refine z_get (v := .ref 2) 5 zgo_1 rfl inX4 (by decide) zw_139 rfl rfl dX4_copyFrom_41 ?_
  refine z_aload_n 1 dX4_copyFrom_44 rfl rfl ?_
  refine z_get (v := .ref 88) 5 zgo_87 rfl inX4 (by decide) zw_139 rfl rfl dX4_copyFrom_45 ?_
  refine z_callV (N := mX2_copyFrom) 1 [.ref 88] [] lX2_copyFrom ⟨zw_610, zw_611, zw_612⟩ rfl zgo_2 rfl rfl (Nat.le_of_ble_eq_true rfl) (by decide) ⟨zlt, zlt⟩ ⟨Nat.zero_le _, Nat.zero_le _⟩ zal (c_gCopy (g := 2) (v := 3) (g2 := 88) (v2 := 89) (f := cart) (f2 := cart1) (h1 := (zHp (c1, r1, w1, lim1, tol1, (zFl cart1 cart 320), wov, lot, sew, mis, cnt, col, len, lef, sbt, shd) (sa, sb, sc, (c1, r1, w1, lim1, tol1, cart1, wov1, lot1, sew1, mis1, cnt1, col1, len1, lef1, sbt1, shd1), hcn, hnx, byt, tln, num, wrd, pos, flt) Y out)) zlt zgo_2 zga_3 zgo_88 zga_89 (by decide) zsa_3) dX4_copyFrom_48 ?_
  refine z_aload_n 0 dX4_copyFrom_51 rfl rfl ?_
  refine z_get (v := .ref 4) 6 zgo_1 rfl inX4 (by decide) zw_141 rfl rfl dX4_copyFrom_52 ?_
  refine z_aload_n 1 dX4_copyFrom_55 rfl rfl ?_
  refine z_get (v := .ref 90) 6 zgo_87 rfl inX4 (by decide) zw_141 rfl rfl dX4_copyFrom_56 ?_
  refine z_callV (N := mX2_copyFrom) 1 [.ref 90] [] lX2_copyFrom ⟨zw_610, zw_611, zw_612⟩ rfl zgo_4 rfl rfl (Nat.le_of_ble_eq_true rfl) (by decide) ⟨zlt, zlt⟩ ⟨Nat.zero_le _, Nat.zero_le _⟩ zal (c_gCopy (g := 4) (v := 5) (g2 := 90) (v2 := 91) (f := wov) (f2 := wov1) (h1 := (zHp (c1, r1, w1, lim1, tol1, (zFl cart1 cart 320), (zFl wov1 wov 320), lot, sew, mis, cnt, col, len, lef, sbt, shd) (sa, sb, sc, (c1, r1, w1, lim1, tol1, cart1, wov1, lot1, sew1, mis1, cnt1, col1, len1, lef1, sbt1, shd1), hcn, hnx, byt, tln, num, wrd, pos, flt) Y out)) zlt zgo_4 zga_5 zgo_90 zga_91 (by decide) zsa_5) dX4_copyFrom_59 ?_
  refine z_aload_n 0 dX4_copyFrom_62 rfl rfl ?_
  refine z_get (v := .ref 6) 7 zgo_1 rfl inX4 (by decide) zw_142 rfl rfl dX4_copyFrom_63 ?_
  refine z_aload_n 1 dX4_copyFrom_66 rfl rfl ?_
  refine z_get (v := .ref 92) 7 zgo_87 rfl inX4 (by decide) zw_142 rfl rfl dX4_copyFrom_67 ?_
  refine z_callV (N := mX2_copyFrom) 1 [.ref 92] [] lX2_copyFrom ⟨zw_610, zw_611, zw_612⟩ rfl zgo_6 rfl rfl (Nat.le_of_ble_eq_true rfl) (by decide) ⟨zlt, zlt⟩ ⟨Nat.zero_le _, Nat.zero_le _⟩ zal (c_gCopy (g := 6) (v := 7) (g2 := 92) (v2 := 93) (f := lot) (f2 := lot1) (h1 := (zHp (c1, r1, w1, lim1, tol1, (zFl cart1 cart 320), (zFl wov1 wov 320), (zFl lot1 lot 320), sew, mis, cnt, col, len, lef, sbt, shd) (sa, sb, sc, (c1, r1, w1, lim1, tol1, cart1, wov1, lot1, sew1, mis1, cnt1, col1, len1, lef1, sbt1, shd1), hcn, hnx, byt, tln, num, wrd, pos, flt) Y out)) zlt zgo_6 zga_7 zgo_92 zga_93 (by decide) zsa_7) dX4_copyFrom_70 ?_
  refine z_aload_n 0 dX4_copyFrom_73 rfl rfl ?_
  refine z_get (v := .ref 8) 8 zgo_1 rfl inX4 (by decide) zw_143 rfl rfl dX4_copyFrom_74 ?_
  refine z_aload_n 1 dX4_copyFrom_77 rfl rfl ?_
  refine z_get (v := .ref 94) 8 zgo_87 rfl inX4 (by decide) zw_143 rfl rfl dX4_copyFrom_78 ?_
  refine z_callV (N := mX2_copyFrom) 1 [.ref 94] [] lX2_copyFrom ⟨zw_610, zw_611, zw_612⟩ rfl zgo_8 rfl rfl (Nat.le_of_ble_eq_true rfl) (by decide) ⟨zlt, zlt⟩ ⟨Nat.zero_le _, Nat.zero_le _⟩ zal (c_gCopy (g := 8) (v := 9) (g2 := 94) (v2 := 95) (f := sew) (f2 := sew1) (h1 := (zHp (c1, r1, w1, lim1, tol1, (zFl cart1 cart 320), (zFl wov1 wov 320), (zFl lot1 lot 320), (zFl sew1 sew 320), mis, cnt, col, len, lef, sbt, shd) (sa, sb, sc, (c1, r1, w1, lim1, tol1, cart1, wov1, lot1, sew1, mis1, cnt1, col1, len1, lef1, sbt1, shd1), hcn, hnx, byt, tln, num, wrd, pos, flt) Y out)) zlt zgo_8 zga_9 zgo_94 zga_95 (by decide) zsa_9) dX4_copyFrom_81 ?_
  refine z_aload_n 0 dX4_copyFrom_84 rfl rfl ?_
  refine z_get (v := .ref 10) 9 zgo_1 rfl inX4 (by decide) zw_144 rfl rfl dX4_copyFrom_85 ?_
  refine z_aload_n 1 dX4_copyFrom_88 rfl rfl ?_
  refine z_get (v := .ref 96) 9 zgo_87 rfl inX4 (by decide) zw_144 rfl rfl dX4_copyFrom_89 ?_
  refine z_callV (N := mX6_copyFrom) 1 [.ref 96] [] lX6_copyFrom ⟨zw_614, zw_615, zw_616⟩ rfl zgo_10 rfl rfl (Nat.le_of_ble_eq_true rfl) (by decide) ⟨zlt, zlt⟩ ⟨Nat.zero_le _, Nat.zero_le _⟩ zal (c_nCopy (g := 10) (v := 11) (g2 := 96) (v2 := 97) (f := mis) (f2 := mis1) (h1 := (zHp (c1, r1, w1, lim1, tol1, (zFl cart1 cart 320), (zFl wov1 wov 320), (zFl lot1 lot 320), (zFl sew1 sew 320), (zFl mis1 mis 20), cnt, col, len, lef, sbt, shd) (sa, sb, sc, (c1, r1, w1, lim1, tol1, cart1, wov1, lot1, sew1, mis1, cnt1, col1, len1, lef1, sbt1, shd1), hcn, hnx, byt, tln, num, wrd, pos, flt) Y out)) (n := 20) (by omega) zlt zgo_10 zga_11 zgo_96 zga_97 (by decide) zsa_11) dX4_copyFrom_92 ?_
  refine z_aload_n 0 dX4_copyFrom_95 rfl rfl ?_
  refine z_get (v := .ref 12) 10 zgo_1 rfl inX4 (by decide) zw_145 rfl rfl dX4_copyFrom_96 ?_
  refine z_aload_n 1 dX4_copyFrom_99 rfl rfl ?_
  refine z_get (v := .ref 98) 10 zgo_87 rfl inX4 (by decide) zw_145 rfl rfl dX4_copyFrom_100 ?_
  refine z_callV (N := mX5_copyFrom) 1 [.ref 98] [] lX5_copyFrom ⟨zw_619, zw_620, zw_621⟩ rfl zgo_12 rfl rfl (Nat.le_of_ble_eq_true rfl) (by decide) ⟨zlt, zlt⟩ ⟨Nat.zero_le _, Nat.zero_le _⟩ zal (c_lcopy_1_87 (sa := sa) (sb := sb) (sc := sc) (sd := sd) hG) dX4_copyFrom_103 ?_
  exact z_vret rfl dX4_copyFrom_106 ho9.symm (zo_h hh9 (by rfl)) (Nat.zero_le _) (Nat.zero_le _)

