/-- numbers of commands are small -/
def zNmOk (num : Nat → Int32) : Prop := ∀ j : Nat, ∃ n : Nat, n ≤ 999 ∧ num j = nI n
def zNu (num : Nat → Int32) (i : Nat) : Nat := (num i).toNatClampNeg
theorem zNu_ok {num : Nat → Int32} (h : zNmOk num) (i : Nat) : num i = nI (zNu num i) ∧ zNu num i ≤ 999 := by
  obtain ⟨n, h1, h2⟩ := h i
  unfold zNu
  rw [h2, nI_clamp (by omega)]
  exact ⟨rfl, h1⟩
theorem zNu_at {num : Nat → Int32} (h : zNmOk num) (i : Nat) (hi : i < 5) : zAtN 5 num (nI i) = nI (zNu num i) := by
  unfold zAtN
  rw [if_neg (nI_pos (by omega)), if_neg (nI_ge (by omega) (by decide)), nI_clamp (by omega)]
  exact (zNu_ok h i).1

/-- why a command can not be carried out -/
def zCw (c r w lim cnt : Nat) (wov sew num : Nat → Int32) (j : Nat) : Int32 := match j with
  | 0 => (if zFr 1 (nI (zNu num 0)) (nI 20) && zFr 1 (nI (zNu num 1)) (nI 16) then 0 else 2)
  | 1 => (if (zFr 0 (nI (zNu num 0)) (nI c - 1) && zFr 0 (nI (zNu num 1)) (nI r - 1)) && (zFr 0 (nI (zNu num 2)) (nI c - 1) && zFr 0 (nI (zNu num 3)) (nI r - 1)) then (if (nI (zNu num 2)) < (nI (zNu num 0)) then 2 else if (nI (zNu num 3)) < (nI (zNu num 1)) then 2 else if zFr 0 (nI (zNu num 4)) 7 then 0 else 2) else 1)
  | 2 => (if zFr 0 (nI (zNu num 0)) 7 && (zFr 1 (nI (zNu num 1)) (nI 999) && (((zBo (FP.i2f (nI (zNu num 2)))) == -2147483648) || zFr 0 (zBo (FP.i2f (nI (zNu num 2)))) 1120403456)) then (if nI 16 ≤ nI cnt then 3 else 0) else 2)
  | 3 => (if zFr 1 (nI (zNu num 0)) (nI 16) then 0 else 2)
  | 4 => (if zFr 1 (nI (zNu num 0)) (nI 16) then (if nI w < (nI (zNu num 0)) then 3 else 0) else 2)
  | 5 => (if zFr 0 (nI (zNu num 0)) (nI c - 1) then (if zFr 0 (nI (zNu num 1)) 7 then 0 else 2) else 1)
  | 6 => (if zSp wov c w lim (nI (zNu num 0)) = -1 then 1 else if zAt sew (zSp wov c w lim (nI (zNu num 0)) / nI 16) (zSp wov c w lim (nI (zNu num 0)) - zSp wov c w lim (nI (zNu num 0)) / nI 16 * nI 16) == 1 then 3 else 0)
  | 7 => (if zFr 1 (nI (zNu num 0)) (nI 16) then 0 else 2)
  | _ => 0

set_option maxHeartbeats 4000000 in
set_option maxRecDepth 100000 in
theorem c_wnc_0 {G : zT} {c r w lim cnt : Nat} {tol : Int32} {cart wov lot sew mis col len lef sbt : Nat → Int32} {shd : Nat → UInt32} {sa sb sc sd : zS} {hcn hnx tln pos : Nat} {byt num : Nat → Int32} {flt : Int32} {Y : zYr} {out : Nat → Int64} (hG : zAl G = false) (hc : c ≤ 20) (hr : r ≤ 16) (hw : w ≤ r) (hn : cnt ≤ 16) (ht : tln ≤ 150) (hpt : pos ≤ tln) (hl : lim ≤ 16) (hs : ∀ j, zFinS (shd j)) (hnm : zNmOk num) : zRun G mX9_whyNotCommand 0 0 [.ref 0] (zHp (c, r, w, lim, tol, cart, wov, lot, sew, mis, cnt, col, len, lef, sbt, shd) (sa, sb, sc, sd, hcn, hnx, byt, tln, num, (1000 + 0), pos, flt) Y out) (.inr (some (.int ((if zFr 1 (nI (zNu num 0)) (nI 20) && zFr 1 (nI (zNu num 1)) (nI 16) then 0 else 2))))) (zHp (c, r, w, lim, tol, cart, wov, lot, sew, mis, cnt, col, len, lef, sbt, shd) (sa, sb, sc, sd, hcn, hnx, byt, tln, num, (1000 + 0), pos, flt) Y out) := by
  have hn09 := (zNu_ok hnm 0).2
  have hn19 := (zNu_ok hnm 1).2
  have hn29 := (zNu_ok hnm 2).2
  have hn39 := (zNu_ok hnm 3).2
  have hn49 := (zNu_ok hnm 4).2
  refine zRun_of (by decide +kernel) rfl rfl (Nat.le_of_ble_eq_true rfl) ?_
  suffices hs : ∀ (o9 : zO) (h9 : zH), (Sum.inr (some (.int ((if zFr 1 (nI (zNu num 0)) (nI 20) && zFr 1 (nI (zNu num 1)) (nI 16) then 0 else 2)))) : zO) = o9 → (zHp (c, r, w, lim, tol, cart, wov, lot, sew, mis, cnt, col, len, lef, sbt, shd) (sa, sb, sc, sd, hcn, hnx, byt, tln, num, (1000 + 0), pos, flt) Y out) = h9 → zPW G mX9_whyNotCommand 0 0 o9 h9 0 0 0 [(0, .ref 0)] [] (zHp (c, r, w, lim, tol, cart, wov, lot, sew, mis, cnt, col, len, lef, sbt, shd) (sa, sb, sc, sd, hcn, hnx, byt, tln, num, (1000 + 0), pos, flt) Y out) from hs _ _ rfl rfl
  intro o9 h9 ho9 hh9
  refine z_aload_n 0 dX9_whyNotCommand_0 rfl rfl ?_
  refine z_get (v := .ref 111) 3 zgo_0 rfl inX9 (by decide) zw_315 rfl rfl dX9_whyNotCommand_1 ?_
  refine z_getN (v := .ref ((1000 + 0))) 2 zgo_111 rfl inX0 (by decide) (by decide) rfl rfl dX9_whyNotCommand_4 ?_
  refine z_astore_n (lv' := [(1, .ref ((1000 + 0))), (0, .ref 0)]) dX9_whyNotCommand_7 rfl (by decide) rfl ?_
  refine z_aload_n 1 dX9_whyNotCommand_8 rfl rfl ?_
  refine z_get (v := .ref 111) 3 zgo_0 rfl inX9 (by decide) zw_315 rfl rfl dX9_whyNotCommand_9 ?_
  refine z_getN (v := .ref 112) 1 zgo_111 rfl inX0 (by decide) (by decide) rfl rfl dX9_whyNotCommand_12 ?_
  refine z_iconst (v := 0) dX9_whyNotCommand_15 (by decide) ?_
  refine z_callV (N := mX6_at) 1 [.int 0] [] lX6_at ⟨zw_570, zw_383, zw_384⟩ rfl zgo_112 rfl rfl (Nat.le_of_ble_eq_true rfl) (by decide) ⟨zlt, zlt⟩ ⟨Nat.zero_le _, Nat.zero_le _⟩ (fun _ => rfl) (c_nAt (g := 112) (v := 113) (n := 5) (f := num) (by omega) zlt zgo_112 zga_113 0) dX9_whyNotCommand_16 ?_
  refine z_top (v2 := .int (nI (zNu num 0))) (by rw [show zAtN 5 num 0 = nI (zNu num 0) from zNu_at hnm 0 (by decide)]) ?_
  refine z_istore_n (lv' := [(2, .int (nI (zNu num 0))), (1, .ref ((1000 + 0))), (0, .ref 0)]) dX9_whyNotCommand_19 rfl (by decide) rfl ?_
  refine z_aload_n 2 dX9_whyNotCommand_20 rfl rfl ?_
  refine z_get (v := .ref 111) 3 zgo_0 rfl inX9 (by decide) zw_315 rfl rfl dX9_whyNotCommand_21 ?_
  refine z_getN (v := .ref 112) 1 zgo_111 rfl inX0 (by decide) (by decide) rfl rfl dX9_whyNotCommand_24 ?_
  refine z_iconst (v := 1) dX9_whyNotCommand_27 (by decide) ?_
  refine z_callV (N := mX6_at) 1 [.int 1] [] lX6_at ⟨zw_570, zw_383, zw_384⟩ rfl zgo_112 rfl rfl (Nat.le_of_ble_eq_true rfl) (by decide) ⟨zlt, zlt⟩ ⟨Nat.zero_le _, Nat.zero_le _⟩ (fun _ => rfl) (c_nAt (g := 112) (v := 113) (n := 5) (f := num) (by omega) zlt zgo_112 zga_113 1) dX9_whyNotCommand_28 ?_
  refine z_top (v2 := .int (nI (zNu num 1))) (by rw [show zAtN 5 num 1 = nI (zNu num 1) from zNu_at hnm 1 (by decide)]) ?_
  refine z_istore_n (lv' := [(3, .int (nI (zNu num 1))), (2, .int (nI (zNu num 0))), (1, .ref ((1000 + 0))), (0, .ref 0)]) dX9_whyNotCommand_31 rfl (by decide) rfl ?_
  refine z_aload_n 3 dX9_whyNotCommand_32 rfl rfl ?_
  refine z_get (v := .ref 111) 3 zgo_0 rfl inX9 (by decide) zw_315 rfl rfl dX9_whyNotCommand_33 ?_
  refine z_getN (v := .ref 112) 1 zgo_111 rfl inX0 (by decide) (by decide) rfl rfl dX9_whyNotCommand_36 ?_
  refine z_iconst (v := 2) dX9_whyNotCommand_39 (by decide) ?_
  refine z_callV (N := mX6_at) 1 [.int 2] [] lX6_at ⟨zw_570, zw_383, zw_384⟩ rfl zgo_112 rfl rfl (Nat.le_of_ble_eq_true rfl) (by decide) ⟨zlt, zlt⟩ ⟨Nat.zero_le _, Nat.zero_le _⟩ (fun _ => rfl) (c_nAt (g := 112) (v := 113) (n := 5) (f := num) (by omega) zlt zgo_112 zga_113 2) dX9_whyNotCommand_40 ?_
  refine z_top (v2 := .int (nI (zNu num 2))) (by rw [show zAtN 5 num 2 = nI (zNu num 2) from zNu_at hnm 2 (by decide)]) ?_
  refine z_istore (lv' := [(4, .int (nI (zNu num 2))), (3, .int (nI (zNu num 1))), (2, .int (nI (zNu num 0))), (1, .ref ((1000 + 0))), (0, .ref 0)]) dX9_whyNotCommand_43 (by decide) rfl ?_
  refine z_aload_n 3 dX9_whyNotCommand_45 rfl rfl ?_
  refine z_getsW 0 (by decide) zw_571 dX9_whyNotCommand_46 ?_
  refine z_acmp_ne (i := 0) (j := 0) (tgt := 62) (by decide) (by decide) dX9_whyNotCommand_49 (by decide) (fun q => absurd rfl q) (fun _ => ?_)
  refine z_aload_n 4 dX9_whyNotCommand_52 rfl rfl ?_
  refine z_get (v := .ref 1) 0 zgo_0 rfl inX9 (by decide) zw_312 rfl rfl dX9_whyNotCommand_53 ?_
  refine z_iload_n 2 dX9_whyNotCommand_56 rfl rfl ?_
  refine z_iload_n 1 dX9_whyNotCommand_57 rfl rfl ?_
  refine z_callV (N := mX4_whyNotBegin) 2 [.int (nI (zNu num 0)), .int (nI (zNu num 1))] [] lX4_whyNotBegin ⟨zw_572, zw_573, zw_574⟩ rfl zgo_1 rfl rfl (Nat.le_of_ble_eq_true rfl) (by decide) ⟨zlt, zlt⟩ ⟨Nat.zero_le _, Nat.zero_le _⟩ (fun _ => rfl) (c_wnBegin hG hc hr hw hn (nI (zNu num 0)) (nI (zNu num 1))) dX9_whyNotCommand_58 ?_
  exact z_iret rfl dX9_whyNotCommand_61 (zo_i ho9 (by rfl)) (zo_h hh9 (by rfl)) (Nat.zero_le _) (Nat.zero_le _)

set_option maxHeartbeats 4000000 in
set_option maxRecDepth 100000 in
theorem c_wnc_1 {G : zT} {c r w lim cnt : Nat} {tol : Int32} {cart wov lot sew mis col len lef sbt : Nat → Int32} {shd : Nat → UInt32} {sa sb sc sd : zS} {hcn hnx tln pos : Nat} {byt num : Nat → Int32} {flt : Int32} {Y : zYr} {out : Nat → Int64} (hG : zAl G = false) (hc : c ≤ 20) (hr : r ≤ 16) (hw : w ≤ r) (hn : cnt ≤ 16) (ht : tln ≤ 150) (hpt : pos ≤ tln) (hl : lim ≤ 16) (hs : ∀ j, zFinS (shd j)) (hnm : zNmOk num) : zRun G mX9_whyNotCommand 0 0 [.ref 0] (zHp (c, r, w, lim, tol, cart, wov, lot, sew, mis, cnt, col, len, lef, sbt, shd) (sa, sb, sc, sd, hcn, hnx, byt, tln, num, (1000 + 1), pos, flt) Y out) (.inr (some (.int ((if (zFr 0 (nI (zNu num 0)) (nI c - 1) && zFr 0 (nI (zNu num 1)) (nI r - 1)) && (zFr 0 (nI (zNu num 2)) (nI c - 1) && zFr 0 (nI (zNu num 3)) (nI r - 1)) then (if (nI (zNu num 2)) < (nI (zNu num 0)) then 2 else if (nI (zNu num 3)) < (nI (zNu num 1)) then 2 else if zFr 0 (nI (zNu num 4)) 7 then 0 else 2) else 1))))) (zHp (c, r, w, lim, tol, cart, wov, lot, sew, mis, cnt, col, len, lef, sbt, shd) (sa, sb, sc, sd, hcn, hnx, byt, tln, num, (1000 + 1), pos, flt) Y out) := by
  have hn09 := (zNu_ok hnm 0).2
  have hn19 := (zNu_ok hnm 1).2
  have hn29 := (zNu_ok hnm 2).2
  have hn39 := (zNu_ok hnm 3).2
  have hn49 := (zNu_ok hnm 4).2
  refine zRun_of (by decide +kernel) rfl rfl (Nat.le_of_ble_eq_true rfl) ?_
  suffices hs : ∀ (o9 : zO) (h9 : zH), (Sum.inr (some (.int ((if (zFr 0 (nI (zNu num 0)) (nI c - 1) && zFr 0 (nI (zNu num 1)) (nI r - 1)) && (zFr 0 (nI (zNu num 2)) (nI c - 1) && zFr 0 (nI (zNu num 3)) (nI r - 1)) then (if (nI (zNu num 2)) < (nI (zNu num 0)) then 2 else if (nI (zNu num 3)) < (nI (zNu num 1)) then 2 else if zFr 0 (nI (zNu num 4)) 7 then 0 else 2) else 1)))) : zO) = o9 → (zHp (c, r, w, lim, tol, cart, wov, lot, sew, mis, cnt, col, len, lef, sbt, shd) (sa, sb, sc, sd, hcn, hnx, byt, tln, num, (1000 + 1), pos, flt) Y out) = h9 → zPW G mX9_whyNotCommand 0 0 o9 h9 0 0 0 [(0, .ref 0)] [] (zHp (c, r, w, lim, tol, cart, wov, lot, sew, mis, cnt, col, len, lef, sbt, shd) (sa, sb, sc, sd, hcn, hnx, byt, tln, num, (1000 + 1), pos, flt) Y out) from hs _ _ rfl rfl
  intro o9 h9 ho9 hh9
  refine z_aload_n 0 dX9_whyNotCommand_0 rfl rfl ?_
  refine z_get (v := .ref 111) 3 zgo_0 rfl inX9 (by decide) zw_315 rfl rfl dX9_whyNotCommand_1 ?_
  refine z_getN (v := .ref ((1000 + 1))) 2 zgo_111 rfl inX0 (by decide) (by decide) rfl rfl dX9_whyNotCommand_4 ?_
  refine z_astore_n (lv' := [(1, .ref ((1000 + 1))), (0, .ref 0)]) dX9_whyNotCommand_7 rfl (by decide) rfl ?_
  refine z_aload_n 1 dX9_whyNotCommand_8 rfl rfl ?_
  refine z_get (v := .ref 111) 3 zgo_0 rfl inX9 (by decide) zw_315 rfl rfl dX9_whyNotCommand_9 ?_
  refine z_getN (v := .ref 112) 1 zgo_111 rfl inX0 (by decide) (by decide) rfl rfl dX9_whyNotCommand_12 ?_
  refine z_iconst (v := 0) dX9_whyNotCommand_15 (by decide) ?_
  refine z_callV (N := mX6_at) 1 [.int 0] [] lX6_at ⟨zw_570, zw_383, zw_384⟩ rfl zgo_112 rfl rfl (Nat.le_of_ble_eq_true rfl) (by decide) ⟨zlt, zlt⟩ ⟨Nat.zero_le _, Nat.zero_le _⟩ (fun _ => rfl) (c_nAt (g := 112) (v := 113) (n := 5) (f := num) (by omega) zlt zgo_112 zga_113 0) dX9_whyNotCommand_16 ?_
  refine z_top (v2 := .int (nI (zNu num 0))) (by rw [show zAtN 5 num 0 = nI (zNu num 0) from zNu_at hnm 0 (by decide)]) ?_
  refine z_istore_n (lv' := [(2, .int (nI (zNu num 0))), (1, .ref ((1000 + 1))), (0, .ref 0)]) dX9_whyNotCommand_19 rfl (by decide) rfl ?_
  refine z_aload_n 2 dX9_whyNotCommand_20 rfl rfl ?_
  refine z_get (v := .ref 111) 3 zgo_0 rfl inX9 (by decide) zw_315 rfl rfl dX9_whyNotCommand_21 ?_
  refine z_getN (v := .ref 112) 1 zgo_111 rfl inX0 (by decide) (by decide) rfl rfl dX9_whyNotCommand_24 ?_
  refine z_iconst (v := 1) dX9_whyNotCommand_27 (by decide) ?_
  refine z_callV (N := mX6_at) 1 [.int 1] [] lX6_at ⟨zw_570, zw_383, zw_384⟩ rfl zgo_112 rfl rfl (Nat.le_of_ble_eq_true rfl) (by decide) ⟨zlt, zlt⟩ ⟨Nat.zero_le _, Nat.zero_le _⟩ (fun _ => rfl) (c_nAt (g := 112) (v := 113) (n := 5) (f := num) (by omega) zlt zgo_112 zga_113 1) dX9_whyNotCommand_28 ?_
  refine z_top (v2 := .int (nI (zNu num 1))) (by rw [show zAtN 5 num 1 = nI (zNu num 1) from zNu_at hnm 1 (by decide)]) ?_
  refine z_istore_n (lv' := [(3, .int (nI (zNu num 1))), (2, .int (nI (zNu num 0))), (1, .ref ((1000 + 1))), (0, .ref 0)]) dX9_whyNotCommand_31 rfl (by decide) rfl ?_
  refine z_aload_n 3 dX9_whyNotCommand_32 rfl rfl ?_
  refine z_get (v := .ref 111) 3 zgo_0 rfl inX9 (by decide) zw_315 rfl rfl dX9_whyNotCommand_33 ?_
  refine z_getN (v := .ref 112) 1 zgo_111 rfl inX0 (by decide) (by decide) rfl rfl dX9_whyNotCommand_36 ?_
  refine z_iconst (v := 2) dX9_whyNotCommand_39 (by decide) ?_
  refine z_callV (N := mX6_at) 1 [.int 2] [] lX6_at ⟨zw_570, zw_383, zw_384⟩ rfl zgo_112 rfl rfl (Nat.le_of_ble_eq_true rfl) (by decide) ⟨zlt, zlt⟩ ⟨Nat.zero_le _, Nat.zero_le _⟩ (fun _ => rfl) (c_nAt (g := 112) (v := 113) (n := 5) (f := num) (by omega) zlt zgo_112 zga_113 2) dX9_whyNotCommand_40 ?_
  refine z_top (v2 := .int (nI (zNu num 2))) (by rw [show zAtN 5 num 2 = nI (zNu num 2) from zNu_at hnm 2 (by decide)]) ?_
  refine z_istore (lv' := [(4, .int (nI (zNu num 2))), (3, .int (nI (zNu num 1))), (2, .int (nI (zNu num 0))), (1, .ref ((1000 + 1))), (0, .ref 0)]) dX9_whyNotCommand_43 (by decide) rfl ?_
  refine z_aload_n 3 dX9_whyNotCommand_45 rfl rfl ?_
  refine z_getsW 0 (by decide) zw_571 dX9_whyNotCommand_46 ?_
  refine z_acmp_ne (i := 1) (j := 0) (tgt := 62) (by decide) (by decide) dX9_whyNotCommand_49 (by decide) (fun _ => ?_) (fun q => absurd q (by decide))
  refine z_aload_n 3 dX9_whyNotCommand_62 rfl rfl ?_
  refine z_getsW 1 (by decide) zw_577 dX9_whyNotCommand_63 ?_
  refine z_acmp_ne (i := 1) (j := 1) (tgt := 103) (by decide) (by decide) dX9_whyNotCommand_66 (by decide) (fun q => absurd rfl q) (fun _ => ?_)
  refine z_aload_n 4 dX9_whyNotCommand_69 rfl rfl ?_
  refine z_get (v := .ref 1) 0 zgo_0 rfl inX9 (by decide) zw_312 rfl rfl dX9_whyNotCommand_70 ?_
  refine z_iload_n 2 dX9_whyNotCommand_73 rfl rfl ?_
  refine z_iload_n 1 dX9_whyNotCommand_74 rfl rfl ?_
  refine z_iload 0 dX9_whyNotCommand_75 rfl ?_
  refine z_aload_n 4 dX9_whyNotCommand_77 rfl rfl ?_
  refine z_get (v := .ref 111) 3 zgo_0 rfl inX9 (by decide) zw_315 rfl rfl dX9_whyNotCommand_78 ?_
  refine z_getN (v := .ref 112) 1 zgo_111 rfl inX0 (by decide) (by decide) rfl rfl dX9_whyNotCommand_81 ?_
  refine z_iconst (v := 3) dX9_whyNotCommand_84 (by decide) ?_
  refine z_callV (N := mX6_at) 1 [.int 3] [.int (nI (zNu num 2)), .int (nI (zNu num 1)), .int (nI (zNu num 0)), .ref 1] lX6_at ⟨zw_570, zw_383, zw_384⟩ rfl zgo_112 rfl rfl (Nat.le_of_ble_eq_true rfl) (by decide) ⟨zlt, zlt⟩ ⟨Nat.zero_le _, Nat.zero_le _⟩ (fun _ => rfl) (c_nAt (g := 112) (v := 113) (n := 5) (f := num) (by omega) zlt zgo_112 zga_113 3) dX9_whyNotCommand_85 ?_
  refine z_top (v2 := .int (nI (zNu num 3))) (by rw [show zAtN 5 num 3 = nI (zNu num 3) from zNu_at hnm 3 (by decide)]) ?_
  refine z_aload_n 4 dX9_whyNotCommand_88 rfl rfl ?_
  refine z_get (v := .ref 111) 3 zgo_0 rfl inX9 (by decide) zw_315 rfl rfl dX9_whyNotCommand_89 ?_
  refine z_getN (v := .ref 112) 1 zgo_111 rfl inX0 (by decide) (by decide) rfl rfl dX9_whyNotCommand_92 ?_
  refine z_iconst (v := 4) dX9_whyNotCommand_95 (by decide) ?_
  refine z_callV (N := mX6_at) 1 [.int 4] [.int (nI (zNu num 3)), .int (nI (zNu num 2)), .int (nI (zNu num 1)), .int (nI (zNu num 0)), .ref 1] lX6_at ⟨zw_570, zw_383, zw_384⟩ rfl zgo_112 rfl rfl (Nat.le_of_ble_eq_true rfl) (by decide) ⟨zlt, zlt⟩ ⟨Nat.zero_le _, Nat.zero_le _⟩ (fun _ => rfl) (c_nAt (g := 112) (v := 113) (n := 5) (f := num) (by omega) zlt zgo_112 zga_113 4) dX9_whyNotCommand_96 ?_
  refine z_top (v2 := .int (nI (zNu num 4))) (by rw [show zAtN 5 num 4 = nI (zNu num 4) from zNu_at hnm 4 (by decide)]) ?_
  refine z_callV (N := mX4_whyNotFill) 5 [.int (nI (zNu num 0)), .int (nI (zNu num 1)), .int (nI (zNu num 2)), .int (nI (zNu num 3)), .int (nI (zNu num 4))] [] lX4_whyNotFill ⟨zw_579, zw_580, zw_581⟩ rfl zgo_1 rfl rfl (Nat.le_of_ble_eq_true rfl) (by decide) ⟨zlt, zlt⟩ ⟨Nat.zero_le _, Nat.zero_le _⟩ (fun _ => rfl) (c_wnFill hG hc hr hw hn (nI (zNu num 0)) (nI (zNu num 1)) (nI (zNu num 2)) (nI (zNu num 3)) (nI (zNu num 4))) dX9_whyNotCommand_99 ?_
  exact z_iret rfl dX9_whyNotCommand_102 (zo_i ho9 (by rfl)) (zo_h hh9 (by rfl)) (Nat.zero_le _) (Nat.zero_le _)

set_option maxHeartbeats 4000000 in
set_option maxRecDepth 100000 in
theorem c_wnc_2 {G : zT} {c r w lim cnt : Nat} {tol : Int32} {cart wov lot sew mis col len lef sbt : Nat → Int32} {shd : Nat → UInt32} {sa sb sc sd : zS} {hcn hnx tln pos : Nat} {byt num : Nat → Int32} {flt : Int32} {Y : zYr} {out : Nat → Int64} (hG : zAl G = false) (hc : c ≤ 20) (hr : r ≤ 16) (hw : w ≤ r) (hn : cnt ≤ 16) (ht : tln ≤ 150) (hpt : pos ≤ tln) (hl : lim ≤ 16) (hs : ∀ j, zFinS (shd j)) (hnm : zNmOk num) : zRun G mX9_whyNotCommand 0 0 [.ref 0] (zHp (c, r, w, lim, tol, cart, wov, lot, sew, mis, cnt, col, len, lef, sbt, shd) (sa, sb, sc, sd, hcn, hnx, byt, tln, num, (1000 + 2), pos, flt) Y out) (.inr (some (.int ((if zFr 0 (nI (zNu num 0)) 7 && (zFr 1 (nI (zNu num 1)) (nI 999) && (((zBo (FP.i2f (nI (zNu num 2)))) == -2147483648) || zFr 0 (zBo (FP.i2f (nI (zNu num 2)))) 1120403456)) then (if nI 16 ≤ nI cnt then 3 else 0) else 2))))) (zHp (c, r, w, lim, tol, cart, wov, lot, sew, mis, cnt, col, len, lef, sbt, shd) (sa, sb, sc, sd, hcn, hnx, byt, tln, num, (1000 + 2), pos, flt) Y out) := by
  have hn09 := (zNu_ok hnm 0).2
  have hn19 := (zNu_ok hnm 1).2
  have hn29 := (zNu_ok hnm 2).2
  have hn39 := (zNu_ok hnm 3).2
  have hn49 := (zNu_ok hnm 4).2
  refine zRun_of (by decide +kernel) rfl rfl (Nat.le_of_ble_eq_true rfl) ?_
  suffices hs : ∀ (o9 : zO) (h9 : zH), (Sum.inr (some (.int ((if zFr 0 (nI (zNu num 0)) 7 && (zFr 1 (nI (zNu num 1)) (nI 999) && (((zBo (FP.i2f (nI (zNu num 2)))) == -2147483648) || zFr 0 (zBo (FP.i2f (nI (zNu num 2)))) 1120403456)) then (if nI 16 ≤ nI cnt then 3 else 0) else 2)))) : zO) = o9 → (zHp (c, r, w, lim, tol, cart, wov, lot, sew, mis, cnt, col, len, lef, sbt, shd) (sa, sb, sc, sd, hcn, hnx, byt, tln, num, (1000 + 2), pos, flt) Y out) = h9 → zPW G mX9_whyNotCommand 0 0 o9 h9 0 0 0 [(0, .ref 0)] [] (zHp (c, r, w, lim, tol, cart, wov, lot, sew, mis, cnt, col, len, lef, sbt, shd) (sa, sb, sc, sd, hcn, hnx, byt, tln, num, (1000 + 2), pos, flt) Y out) from hs _ _ rfl rfl
  intro o9 h9 ho9 hh9
  refine z_aload_n 0 dX9_whyNotCommand_0 rfl rfl ?_
  refine z_get (v := .ref 111) 3 zgo_0 rfl inX9 (by decide) zw_315 rfl rfl dX9_whyNotCommand_1 ?_
  refine z_getN (v := .ref ((1000 + 2))) 2 zgo_111 rfl inX0 (by decide) (by decide) rfl rfl dX9_whyNotCommand_4 ?_
  refine z_astore_n (lv' := [(1, .ref ((1000 + 2))), (0, .ref 0)]) dX9_whyNotCommand_7 rfl (by decide) rfl ?_
  refine z_aload_n 1 dX9_whyNotCommand_8 rfl rfl ?_
  refine z_get (v := .ref 111) 3 zgo_0 rfl inX9 (by decide) zw_315 rfl rfl dX9_whyNotCommand_9 ?_
  refine z_getN (v := .ref 112) 1 zgo_111 rfl inX0 (by decide) (by decide) rfl rfl dX9_whyNotCommand_12 ?_
  refine z_iconst (v := 0) dX9_whyNotCommand_15 (by decide) ?_
  refine z_callV (N := mX6_at) 1 [.int 0] [] lX6_at ⟨zw_570, zw_383, zw_384⟩ rfl zgo_112 rfl rfl (Nat.le_of_ble_eq_true rfl) (by decide) ⟨zlt, zlt⟩ ⟨Nat.zero_le _, Nat.zero_le _⟩ (fun _ => rfl) (c_nAt (g := 112) (v := 113) (n := 5) (f := num) (by omega) zlt zgo_112 zga_113 0) dX9_whyNotCommand_16 ?_
  refine z_top (v2 := .int (nI (zNu num 0))) (by rw [show zAtN 5 num 0 = nI (zNu num 0) from zNu_at hnm 0 (by decide)]) ?_
  refine z_istore_n (lv' := [(2, .int (nI (zNu num 0))), (1, .ref ((1000 + 2))), (0, .ref 0)]) dX9_whyNotCommand_19 rfl (by decide) rfl ?_
  refine z_aload_n 2 dX9_whyNotCommand_20 rfl rfl ?_
  refine z_get (v := .ref 111) 3 zgo_0 rfl inX9 (by decide) zw_315 rfl rfl dX9_whyNotCommand_21 ?_
  refine z_getN (v := .ref 112) 1 zgo_111 rfl inX0 (by decide) (by decide) rfl rfl dX9_whyNotCommand_24 ?_
  refine z_iconst (v := 1) dX9_whyNotCommand_27 (by decide) ?_
  refine z_callV (N := mX6_at) 1 [.int 1] [] lX6_at ⟨zw_570, zw_383, zw_384⟩ rfl zgo_112 rfl rfl (Nat.le_of_ble_eq_true rfl) (by decide) ⟨zlt, zlt⟩ ⟨Nat.zero_le _, Nat.zero_le _⟩ (fun _ => rfl) (c_nAt (g := 112) (v := 113) (n := 5) (f := num) (by omega) zlt zgo_112 zga_113 1) dX9_whyNotCommand_28 ?_
  refine z_top (v2 := .int (nI (zNu num 1))) (by rw [show zAtN 5 num 1 = nI (zNu num 1) from zNu_at hnm 1 (by decide)]) ?_
  refine z_istore_n (lv' := [(3, .int (nI (zNu num 1))), (2, .int (nI (zNu num 0))), (1, .ref ((1000 + 2))), (0, .ref 0)]) dX9_whyNotCommand_31 rfl (by decide) rfl ?_
  refine z_aload_n 3 dX9_whyNotCommand_32 rfl rfl ?_
  refine z_get (v := .ref 111) 3 zgo_0 rfl inX9 (by decide) zw_315 rfl rfl dX9_whyNotCommand_33 ?_
  refine z_getN (v := .ref 112) 1 zgo_111 rfl inX0 (by decide) (by decide) rfl rfl dX9_whyNotCommand_36 ?_
  refine z_iconst (v := 2) dX9_whyNotCommand_39 (by decide) ?_
  refine z_callV (N := mX6_at) 1 [.int 2] [] lX6_at ⟨zw_570, zw_383, zw_384⟩ rfl zgo_112 rfl rfl (Nat.le_of_ble_eq_true rfl) (by decide) ⟨zlt, zlt⟩ ⟨Nat.zero_le _, Nat.zero_le _⟩ (fun _ => rfl) (c_nAt (g := 112) (v := 113) (n := 5) (f := num) (by omega) zlt zgo_112 zga_113 2) dX9_whyNotCommand_40 ?_
  refine z_top (v2 := .int (nI (zNu num 2))) (by rw [show zAtN 5 num 2 = nI (zNu num 2) from zNu_at hnm 2 (by decide)]) ?_
  refine z_istore (lv' := [(4, .int (nI (zNu num 2))), (3, .int (nI (zNu num 1))), (2, .int (nI (zNu num 0))), (1, .ref ((1000 + 2))), (0, .ref 0)]) dX9_whyNotCommand_43 (by decide) rfl ?_
  refine z_aload_n 3 dX9_whyNotCommand_45 rfl rfl ?_
  refine z_getsW 0 (by decide) zw_571 dX9_whyNotCommand_46 ?_
  refine z_acmp_ne (i := 2) (j := 0) (tgt := 62) (by decide) (by decide) dX9_whyNotCommand_49 (by decide) (fun _ => ?_) (fun q => absurd q (by decide))
  refine z_aload_n 3 dX9_whyNotCommand_62 rfl rfl ?_
  refine z_getsW 1 (by decide) zw_577 dX9_whyNotCommand_63 ?_
  refine z_acmp_ne (i := 2) (j := 1) (tgt := 103) (by decide) (by decide) dX9_whyNotCommand_66 (by decide) (fun _ => ?_) (fun q => absurd q (by decide))
  refine z_aload_n 3 dX9_whyNotCommand_103 rfl rfl ?_
  refine z_getsW 2 (by decide) zw_591 dX9_whyNotCommand_104 ?_
  refine z_acmp_ne (i := 2) (j := 2) (tgt := 126) (by decide) (by decide) dX9_whyNotCommand_107 (by decide) (fun q => absurd rfl q) (fun _ => ?_)
  refine z_aload_n 4 dX9_whyNotCommand_110 rfl rfl ?_
  refine z_get (v := .ref 1) 0 zgo_0 rfl inX9 (by decide) zw_312 rfl rfl dX9_whyNotCommand_111 ?_
  refine z_iload_n 2 dX9_whyNotCommand_114 rfl rfl ?_
  refine z_iload_n 1 dX9_whyNotCommand_115 rfl rfl ?_
  refine z_iload 0 dX9_whyNotCommand_116 rfl ?_
  refine z_i2f dX9_whyNotCommand_118 ?_
  refine z_callSO (N := mX7_bitsOf) 1 [.float (FP.i2f (nI (zNu num 2)))] [.int (nI (zNu num 1)), .int (nI (zNu num 0)), .ref 1] lX7_bitsOf ⟨zw_362, zw_363⟩ rfl rfl (Nat.le_of_ble_eq_true rfl) (by decide) ⟨zlt, zlt⟩ hG ⟨Nat.zero_le _, Nat.zero_le _⟩ (c_bitsOf hG zlt (FP.i2f (nI (zNu num 2))) (fp_i2f _ (by omega))) dX9_whyNotCommand_119 ?_
  refine z_callV (N := mX4_whyNotAddLot) 3 [.int (nI (zNu num 0)), .int (nI (zNu num 1)), .int (zBo (FP.i2f (nI (zNu num 2))))] [] lX4_whyNotAddLot ⟨zw_593, zw_594, zw_595⟩ rfl zgo_1 rfl rfl (Nat.le_of_ble_eq_true rfl) (by decide) ⟨zlt, zlt⟩ ⟨Nat.zero_le _, Nat.zero_le _⟩ (fun _ => rfl) (c_wnAddLot hG hc hr hw hn (nI (zNu num 0)) (nI (zNu num 1)) (zBo (FP.i2f (nI (zNu num 2))))) dX9_whyNotCommand_122 ?_
  exact z_iret rfl dX9_whyNotCommand_125 (zo_i ho9 (by rfl)) (zo_h hh9 (by rfl)) (Nat.zero_le _) (Nat.zero_le _)

set_option maxHeartbeats 4000000 in
set_option maxRecDepth 100000 in
theorem c_wnc_3 {G : zT} {c r w lim cnt : Nat} {tol : Int32} {cart wov lot sew mis col len lef sbt : Nat → Int32} {shd : Nat → UInt32} {sa sb sc sd : zS} {hcn hnx tln pos : Nat} {byt num : Nat → Int32} {flt : Int32} {Y : zYr} {out : Nat → Int64} (hG : zAl G = false) (hc : c ≤ 20) (hr : r ≤ 16) (hw : w ≤ r) (hn : cnt ≤ 16) (ht : tln ≤ 150) (hpt : pos ≤ tln) (hl : lim ≤ 16) (hs : ∀ j, zFinS (shd j)) (hnm : zNmOk num) : zRun G mX9_whyNotCommand 0 0 [.ref 0] (zHp (c, r, w, lim, tol, cart, wov, lot, sew, mis, cnt, col, len, lef, sbt, shd) (sa, sb, sc, sd, hcn, hnx, byt, tln, num, (1000 + 3), pos, flt) Y out) (.inr (some (.int ((if zFr 1 (nI (zNu num 0)) (nI 16) then 0 else 2))))) (zHp (c, r, w, lim, tol, cart, wov, lot, sew, mis, cnt, col, len, lef, sbt, shd) (sa, sb, sc, sd, hcn, hnx, byt, tln, num, (1000 + 3), pos, flt) Y out) := by
  have hn09 := (zNu_ok hnm 0).2
  have hn19 := (zNu_ok hnm 1).2
  have hn29 := (zNu_ok hnm 2).2
  have hn39 := (zNu_ok hnm 3).2
  have hn49 := (zNu_ok hnm 4).2
  refine zRun_of (by decide +kernel) rfl rfl (Nat.le_of_ble_eq_true rfl) ?_
  suffices hs : ∀ (o9 : zO) (h9 : zH), (Sum.inr (some (.int ((if zFr 1 (nI (zNu num 0)) (nI 16) then 0 else 2)))) : zO) = o9 → (zHp (c, r, w, lim, tol, cart, wov, lot, sew, mis, cnt, col, len, lef, sbt, shd) (sa, sb, sc, sd, hcn, hnx, byt, tln, num, (1000 + 3), pos, flt) Y out) = h9 → zPW G mX9_whyNotCommand 0 0 o9 h9 0 0 0 [(0, .ref 0)] [] (zHp (c, r, w, lim, tol, cart, wov, lot, sew, mis, cnt, col, len, lef, sbt, shd) (sa, sb, sc, sd, hcn, hnx, byt, tln, num, (1000 + 3), pos, flt) Y out) from hs _ _ rfl rfl
  intro o9 h9 ho9 hh9
  refine z_aload_n 0 dX9_whyNotCommand_0 rfl rfl ?_
  refine z_get (v := .ref 111) 3 zgo_0 rfl inX9 (by decide) zw_315 rfl rfl dX9_whyNotCommand_1 ?_
  refine z_getN (v := .ref ((1000 + 3))) 2 zgo_111 rfl inX0 (by decide) (by decide) rfl rfl dX9_whyNotCommand_4 ?_
  refine z_astore_n (lv' := [(1, .ref ((1000 + 3))), (0, .ref 0)]) dX9_whyNotCommand_7 rfl (by decide) rfl ?_
  refine z_aload_n 1 dX9_whyNotCommand_8 rfl rfl ?_
  refine z_get (v := .ref 111) 3 zgo_0 rfl inX9 (by decide) zw_315 rfl rfl dX9_whyNotCommand_9 ?_
  refine z_getN (v := .ref 112) 1 zgo_111 rfl inX0 (by decide) (by decide) rfl rfl dX9_whyNotCommand_12 ?_
  refine z_iconst (v := 0) dX9_whyNotCommand_15 (by decide) ?_
  refine z_callV (N := mX6_at) 1 [.int 0] [] lX6_at ⟨zw_570, zw_383, zw_384⟩ rfl zgo_112 rfl rfl (Nat.le_of_ble_eq_true rfl) (by decide) ⟨zlt, zlt⟩ ⟨Nat.zero_le _, Nat.zero_le _⟩ (fun _ => rfl) (c_nAt (g := 112) (v := 113) (n := 5) (f := num) (by omega) zlt zgo_112 zga_113 0) dX9_whyNotCommand_16 ?_
  refine z_top (v2 := .int (nI (zNu num 0))) (by rw [show zAtN 5 num 0 = nI (zNu num 0) from zNu_at hnm 0 (by decide)]) ?_
  refine z_istore_n (lv' := [(2, .int (nI (zNu num 0))), (1, .ref ((1000 + 3))), (0, .ref 0)]) dX9_whyNotCommand_19 rfl (by decide) rfl ?_
  refine z_aload_n 2 dX9_whyNotCommand_20 rfl rfl ?_
  refine z_get (v := .ref 111) 3 zgo_0 rfl inX9 (by decide) zw_315 rfl rfl dX9_whyNotCommand_21 ?_
  refine z_getN (v := .ref 112) 1 zgo_111 rfl inX0 (by decide) (by decide) rfl rfl dX9_whyNotCommand_24 ?_
  refine z_iconst (v := 1) dX9_whyNotCommand_27 (by decide) ?_
  refine z_callV (N := mX6_at) 1 [.int 1] [] lX6_at ⟨zw_570, zw_383, zw_384⟩ rfl zgo_112 rfl rfl (Nat.le_of_ble_eq_true rfl) (by decide) ⟨zlt, zlt⟩ ⟨Nat.zero_le _, Nat.zero_le _⟩ (fun _ => rfl) (c_nAt (g := 112) (v := 113) (n := 5) (f := num) (by omega) zlt zgo_112 zga_113 1) dX9_whyNotCommand_28 ?_
  refine z_top (v2 := .int (nI (zNu num 1))) (by rw [show zAtN 5 num 1 = nI (zNu num 1) from zNu_at hnm 1 (by decide)]) ?_
  refine z_istore_n (lv' := [(3, .int (nI (zNu num 1))), (2, .int (nI (zNu num 0))), (1, .ref ((1000 + 3))), (0, .ref 0)]) dX9_whyNotCommand_31 rfl (by decide) rfl ?_
  refine z_aload_n 3 dX9_whyNotCommand_32 rfl rfl ?_
  refine z_get (v := .ref 111) 3 zgo_0 rfl inX9 (by decide) zw_315 rfl rfl dX9_whyNotCommand_33 ?_
  refine z_getN (v := .ref 112) 1 zgo_111 rfl inX0 (by decide) (by decide) rfl rfl dX9_whyNotCommand_36 ?_
  refine z_iconst (v := 2) dX9_whyNotCommand_39 (by decide) ?_
  refine z_callV (N := mX6_at) 1 [.int 2] [] lX6_at ⟨zw_570, zw_383, zw_384⟩ rfl zgo_112 rfl rfl (Nat.le_of_ble_eq_true rfl) (by decide) ⟨zlt, zlt⟩ ⟨Nat.zero_le _, Nat.zero_le _⟩ (fun _ => rfl) (c_nAt (g := 112) (v := 113) (n := 5) (f := num) (by omega) zlt zgo_112 zga_113 2) dX9_whyNotCommand_40 ?_
  refine z_top (v2 := .int (nI (zNu num 2))) (by rw [show zAtN 5 num 2 = nI (zNu num 2) from zNu_at hnm 2 (by decide)]) ?_
  refine z_istore (lv' := [(4, .int (nI (zNu num 2))), (3, .int (nI (zNu num 1))), (2, .int (nI (zNu num 0))), (1, .ref ((1000 + 3))), (0, .ref 0)]) dX9_whyNotCommand_43 (by decide) rfl ?_
  refine z_aload_n 3 dX9_whyNotCommand_45 rfl rfl ?_
  refine z_getsW 0 (by decide) zw_571 dX9_whyNotCommand_46 ?_
  refine z_acmp_ne (i := 3) (j := 0) (tgt := 62) (by decide) (by decide) dX9_whyNotCommand_49 (by decide) (fun _ => ?_) (fun q => absurd q (by decide))
  refine z_aload_n 3 dX9_whyNotCommand_62 rfl rfl ?_
  refine z_getsW 1 (by decide) zw_577 dX9_whyNotCommand_63 ?_
  refine z_acmp_ne (i := 3) (j := 1) (tgt := 103) (by decide) (by decide) dX9_whyNotCommand_66 (by decide) (fun _ => ?_) (fun q => absurd q (by decide))
  refine z_aload_n 3 dX9_whyNotCommand_103 rfl rfl ?_
  refine z_getsW 2 (by decide) zw_591 dX9_whyNotCommand_104 ?_
  refine z_acmp_ne (i := 3) (j := 2) (tgt := 126) (by decide) (by decide) dX9_whyNotCommand_107 (by decide) (fun _ => ?_) (fun q => absurd q (by decide))
  refine z_aload_n 3 dX9_whyNotCommand_126 rfl rfl ?_
  refine z_getsW 3 (by decide) zw_603 dX9_whyNotCommand_127 ?_
  refine z_acmp_ne (i := 3) (j := 3) (tgt := 142) (by decide) (by decide) dX9_whyNotCommand_130 (by decide) (fun q => absurd rfl q) (fun _ => ?_)
  refine z_aload_n 4 dX9_whyNotCommand_133 rfl rfl ?_
  refine z_get (v := .ref 1) 0 zgo_0 rfl inX9 (by decide) zw_312 rfl rfl dX9_whyNotCommand_134 ?_
  refine z_iload_n 2 dX9_whyNotCommand_137 rfl rfl ?_
  refine z_callV (N := mX4_whyNotWeave) 1 [.int (nI (zNu num 0))] [] lX4_whyNotWeave ⟨zw_605, zw_606, zw_607⟩ rfl zgo_1 rfl rfl (Nat.le_of_ble_eq_true rfl) (by decide) ⟨zlt, zlt⟩ ⟨Nat.zero_le _, Nat.zero_le _⟩ (fun _ => rfl) (c_wnWeave hG hc hr hw hn (nI (zNu num 0))) dX9_whyNotCommand_138 ?_
  exact z_iret rfl dX9_whyNotCommand_141 (zo_i ho9 (by rfl)) (zo_h hh9 (by rfl)) (Nat.zero_le _) (Nat.zero_le _)

set_option maxHeartbeats 4000000 in
set_option maxRecDepth 100000 in
theorem c_wnc_4 {G : zT} {c r w lim cnt : Nat} {tol : Int32} {cart wov lot sew mis col len lef sbt : Nat → Int32} {shd : Nat → UInt32} {sa sb sc sd : zS} {hcn hnx tln pos : Nat} {byt num : Nat → Int32} {flt : Int32} {Y : zYr} {out : Nat → Int64} (hG : zAl G = false) (hc : c ≤ 20) (hr : r ≤ 16) (hw : w ≤ r) (hn : cnt ≤ 16) (ht : tln ≤ 150) (hpt : pos ≤ tln) (hl : lim ≤ 16) (hs : ∀ j, zFinS (shd j)) (hnm : zNmOk num) : zRun G mX9_whyNotCommand 0 0 [.ref 0] (zHp (c, r, w, lim, tol, cart, wov, lot, sew, mis, cnt, col, len, lef, sbt, shd) (sa, sb, sc, sd, hcn, hnx, byt, tln, num, (1000 + 4), pos, flt) Y out) (.inr (some (.int ((if zFr 1 (nI (zNu num 0)) (nI 16) then (if nI w < (nI (zNu num 0)) then 3 else 0) else 2))))) (zHp (c, r, w, lim, tol, cart, wov, lot, sew, mis, cnt, col, len, lef, sbt, shd) (sa, sb, sc, sd, hcn, hnx, byt, tln, num, (1000 + 4), pos, flt) Y out) := by
  have hn09 := (zNu_ok hnm 0).2
  have hn19 := (zNu_ok hnm 1).2
  have hn29 := (zNu_ok hnm 2).2
  have hn39 := (zNu_ok hnm 3).2
  have hn49 := (zNu_ok hnm 4).2
  refine zRun_of (by decide +kernel) rfl rfl (Nat.le_of_ble_eq_true rfl) ?_
  suffices hs : ∀ (o9 : zO) (h9 : zH), (Sum.inr (some (.int ((if zFr 1 (nI (zNu num 0)) (nI 16) then (if nI w < (nI (zNu num 0)) then 3 else 0) else 2)))) : zO) = o9 → (zHp (c, r, w, lim, tol, cart, wov, lot, sew, mis, cnt, col, len, lef, sbt, shd) (sa, sb, sc, sd, hcn, hnx, byt, tln, num, (1000 + 4), pos, flt) Y out) = h9 → zPW G mX9_whyNotCommand 0 0 o9 h9 0 0 0 [(0, .ref 0)] [] (zHp (c, r, w, lim, tol, cart, wov, lot, sew, mis, cnt, col, len, lef, sbt, shd) (sa, sb, sc, sd, hcn, hnx, byt, tln, num, (1000 + 4), pos, flt) Y out) from hs _ _ rfl rfl
  intro o9 h9 ho9 hh9
  refine z_aload_n 0 dX9_whyNotCommand_0 rfl rfl ?_
  refine z_get (v := .ref 111) 3 zgo_0 rfl inX9 (by decide) zw_315 rfl rfl dX9_whyNotCommand_1 ?_
  refine z_getN (v := .ref ((1000 + 4))) 2 zgo_111 rfl inX0 (by decide) (by decide) rfl rfl dX9_whyNotCommand_4 ?_
  refine z_astore_n (lv' := [(1, .ref ((1000 + 4))), (0, .ref 0)]) dX9_whyNotCommand_7 rfl (by decide) rfl ?_
  refine z_aload_n 1 dX9_whyNotCommand_8 rfl rfl ?_
  refine z_get (v := .ref 111) 3 zgo_0 rfl inX9 (by decide) zw_315 rfl rfl dX9_whyNotCommand_9 ?_
  refine z_getN (v := .ref 112) 1 zgo_111 rfl inX0 (by decide) (by decide) rfl rfl dX9_whyNotCommand_12 ?_
  refine z_iconst (v := 0) dX9_whyNotCommand_15 (by decide) ?_
  refine z_callV (N := mX6_at) 1 [.int 0] [] lX6_at ⟨zw_570, zw_383, zw_384⟩ rfl zgo_112 rfl rfl (Nat.le_of_ble_eq_true rfl) (by decide) ⟨zlt, zlt⟩ ⟨Nat.zero_le _, Nat.zero_le _⟩ (fun _ => rfl) (c_nAt (g := 112) (v := 113) (n := 5) (f := num) (by omega) zlt zgo_112 zga_113 0) dX9_whyNotCommand_16 ?_
  refine z_top (v2 := .int (nI (zNu num 0))) (by rw [show zAtN 5 num 0 = nI (zNu num 0) from zNu_at hnm 0 (by decide)]) ?_
  refine z_istore_n (lv' := [(2, .int (nI (zNu num 0))), (1, .ref ((1000 + 4))), (0, .ref 0)]) dX9_whyNotCommand_19 rfl (by decide) rfl ?_
  refine z_aload_n 2 dX9_whyNotCommand_20 rfl rfl ?_
  refine z_get (v := .ref 111) 3 zgo_0 rfl inX9 (by decide) zw_315 rfl rfl dX9_whyNotCommand_21 ?_
  refine z_getN (v := .ref 112) 1 zgo_111 rfl inX0 (by decide) (by decide) rfl rfl dX9_whyNotCommand_24 ?_
  refine z_iconst (v := 1) dX9_whyNotCommand_27 (by decide) ?_
  refine z_callV (N := mX6_at) 1 [.int 1] [] lX6_at ⟨zw_570, zw_383, zw_384⟩ rfl zgo_112 rfl rfl (Nat.le_of_ble_eq_true rfl) (by decide) ⟨zlt, zlt⟩ ⟨Nat.zero_le _, Nat.zero_le _⟩ (fun _ => rfl) (c_nAt (g := 112) (v := 113) (n := 5) (f := num) (by omega) zlt zgo_112 zga_113 1) dX9_whyNotCommand_28 ?_
  refine z_top (v2 := .int (nI (zNu num 1))) (by rw [show zAtN 5 num 1 = nI (zNu num 1) from zNu_at hnm 1 (by decide)]) ?_
  refine z_istore_n (lv' := [(3, .int (nI (zNu num 1))), (2, .int (nI (zNu num 0))), (1, .ref ((1000 + 4))), (0, .ref 0)]) dX9_whyNotCommand_31 rfl (by decide) rfl ?_
  refine z_aload_n 3 dX9_whyNotCommand_32 rfl rfl ?_
  refine z_get (v := .ref 111) 3 zgo_0 rfl inX9 (by decide) zw_315 rfl rfl dX9_whyNotCommand_33 ?_
  refine z_getN (v := .ref 112) 1 zgo_111 rfl inX0 (by decide) (by decide) rfl rfl dX9_whyNotCommand_36 ?_
  refine z_iconst (v := 2) dX9_whyNotCommand_39 (by decide) ?_
  refine z_callV (N := mX6_at) 1 [.int 2] [] lX6_at ⟨zw_570, zw_383, zw_384⟩ rfl zgo_112 rfl rfl (Nat.le_of_ble_eq_true rfl) (by decide) ⟨zlt, zlt⟩ ⟨Nat.zero_le _, Nat.zero_le _⟩ (fun _ => rfl) (c_nAt (g := 112) (v := 113) (n := 5) (f := num) (by omega) zlt zgo_112 zga_113 2) dX9_whyNotCommand_40 ?_
  refine z_top (v2 := .int (nI (zNu num 2))) (by rw [show zAtN 5 num 2 = nI (zNu num 2) from zNu_at hnm 2 (by decide)]) ?_
  refine z_istore (lv' := [(4, .int (nI (zNu num 2))), (3, .int (nI (zNu num 1))), (2, .int (nI (zNu num 0))), (1, .ref ((1000 + 4))), (0, .ref 0)]) dX9_whyNotCommand_43 (by decide) rfl ?_
  refine z_aload_n 3 dX9_whyNotCommand_45 rfl rfl ?_
  refine z_getsW 0 (by decide) zw_571 dX9_whyNotCommand_46 ?_
  refine z_acmp_ne (i := 4) (j := 0) (tgt := 62) (by decide) (by decide) dX9_whyNotCommand_49 (by decide) (fun _ => ?_) (fun q => absurd q (by decide))
  refine z_aload_n 3 dX9_whyNotCommand_62 rfl rfl ?_
  refine z_getsW 1 (by decide) zw_577 dX9_whyNotCommand_63 ?_
  refine z_acmp_ne (i := 4) (j := 1) (tgt := 103) (by decide) (by decide) dX9_whyNotCommand_66 (by decide) (fun _ => ?_) (fun q => absurd q (by decide))
  refine z_aload_n 3 dX9_whyNotCommand_103 rfl rfl ?_
  refine z_getsW 2 (by decide) zw_591 dX9_whyNotCommand_104 ?_
  refine z_acmp_ne (i := 4) (j := 2) (tgt := 126) (by decide) (by decide) dX9_whyNotCommand_107 (by decide) (fun _ => ?_) (fun q => absurd q (by decide))
  refine z_aload_n 3 dX9_whyNotCommand_126 rfl rfl ?_
  refine z_getsW 3 (by decide) zw_603 dX9_whyNotCommand_127 ?_
  refine z_acmp_ne (i := 4) (j := 3) (tgt := 142) (by decide) (by decide) dX9_whyNotCommand_130 (by decide) (fun _ => ?_) (fun q => absurd q (by decide))
  refine z_aload_n 3 dX9_whyNotCommand_142 rfl rfl ?_
  refine z_getsW 4 (by decide) zw_609 dX9_whyNotCommand_143 ?_
  refine z_acmp_ne (i := 4) (j := 4) (tgt := 158) (by decide) (by decide) dX9_whyNotCommand_146 (by decide) (fun q => absurd rfl q) (fun _ => ?_)
  refine z_aload_n 4 dX9_whyNotCommand_149 rfl rfl ?_
  refine z_get (v := .ref 1) 0 zgo_0 rfl inX9 (by decide) zw_312 rfl rfl dX9_whyNotCommand_150 ?_
  refine z_iload_n 2 dX9_whyNotCommand_153 rfl rfl ?_
  refine z_callV (N := mX4_whyNotUnweave) 1 [.int (nI (zNu num 0))] [] lX4_whyNotUnweave ⟨zw_611, zw_612, zw_613⟩ rfl zgo_1 rfl rfl (Nat.le_of_ble_eq_true rfl) (by decide) ⟨zlt, zlt⟩ ⟨Nat.zero_le _, Nat.zero_le _⟩ (fun _ => rfl) (c_wnUnweave hG hc hr hw hn (nI (zNu num 0))) dX9_whyNotCommand_154 ?_
  exact z_iret rfl dX9_whyNotCommand_157 (zo_i ho9 (by rfl)) (zo_h hh9 (by rfl)) (Nat.zero_le _) (Nat.zero_le _)

set_option maxHeartbeats 4000000 in
set_option maxRecDepth 100000 in
theorem c_wnc_5 {G : zT} {c r w lim cnt : Nat} {tol : Int32} {cart wov lot sew mis col len lef sbt : Nat → Int32} {shd : Nat → UInt32} {sa sb sc sd : zS} {hcn hnx tln pos : Nat} {byt num : Nat → Int32} {flt : Int32} {Y : zYr} {out : Nat → Int64} (hG : zAl G = false) (hc : c ≤ 20) (hr : r ≤ 16) (hw : w ≤ r) (hn : cnt ≤ 16) (ht : tln ≤ 150) (hpt : pos ≤ tln) (hl : lim ≤ 16) (hs : ∀ j, zFinS (shd j)) (hnm : zNmOk num) : zRun G mX9_whyNotCommand 0 0 [.ref 0] (zHp (c, r, w, lim, tol, cart, wov, lot, sew, mis, cnt, col, len, lef, sbt, shd) (sa, sb, sc, sd, hcn, hnx, byt, tln, num, (1000 + 5), pos, flt) Y out) (.inr (some (.int ((if zFr 0 (nI (zNu num 0)) (nI c - 1) then (if zFr 0 (nI (zNu num 1)) 7 then 0 else 2) else 1))))) (zHp (c, r, w, lim, tol, cart, wov, lot, sew, mis, cnt, col, len, lef, sbt, shd) (sa, sb, sc, sd, hcn, hnx, byt, tln, num, (1000 + 5), pos, flt) Y out) := by
  have hn09 := (zNu_ok hnm 0).2
  have hn19 := (zNu_ok hnm 1).2
  have hn29 := (zNu_ok hnm 2).2
  have hn39 := (zNu_ok hnm 3).2
  have hn49 := (zNu_ok hnm 4).2
  refine zRun_of (by decide +kernel) rfl rfl (Nat.le_of_ble_eq_true rfl) ?_
  suffices hs : ∀ (o9 : zO) (h9 : zH), (Sum.inr (some (.int ((if zFr 0 (nI (zNu num 0)) (nI c - 1) then (if zFr 0 (nI (zNu num 1)) 7 then 0 else 2) else 1)))) : zO) = o9 → (zHp (c, r, w, lim, tol, cart, wov, lot, sew, mis, cnt, col, len, lef, sbt, shd) (sa, sb, sc, sd, hcn, hnx, byt, tln, num, (1000 + 5), pos, flt) Y out) = h9 → zPW G mX9_whyNotCommand 0 0 o9 h9 0 0 0 [(0, .ref 0)] [] (zHp (c, r, w, lim, tol, cart, wov, lot, sew, mis, cnt, col, len, lef, sbt, shd) (sa, sb, sc, sd, hcn, hnx, byt, tln, num, (1000 + 5), pos, flt) Y out) from hs _ _ rfl rfl
  intro o9 h9 ho9 hh9
  refine z_aload_n 0 dX9_whyNotCommand_0 rfl rfl ?_
  refine z_get (v := .ref 111) 3 zgo_0 rfl inX9 (by decide) zw_315 rfl rfl dX9_whyNotCommand_1 ?_
  refine z_getN (v := .ref ((1000 + 5))) 2 zgo_111 rfl inX0 (by decide) (by decide) rfl rfl dX9_whyNotCommand_4 ?_
  refine z_astore_n (lv' := [(1, .ref ((1000 + 5))), (0, .ref 0)]) dX9_whyNotCommand_7 rfl (by decide) rfl ?_
  refine z_aload_n 1 dX9_whyNotCommand_8 rfl rfl ?_
  refine z_get (v := .ref 111) 3 zgo_0 rfl inX9 (by decide) zw_315 rfl rfl dX9_whyNotCommand_9 ?_
  refine z_getN (v := .ref 112) 1 zgo_111 rfl inX0 (by decide) (by decide) rfl rfl dX9_whyNotCommand_12 ?_
  refine z_iconst (v := 0) dX9_whyNotCommand_15 (by decide) ?_
  refine z_callV (N := mX6_at) 1 [.int 0] [] lX6_at ⟨zw_570, zw_383, zw_384⟩ rfl zgo_112 rfl rfl (Nat.le_of_ble_eq_true rfl) (by decide) ⟨zlt, zlt⟩ ⟨Nat.zero_le _, Nat.zero_le _⟩ (fun _ => rfl) (c_nAt (g := 112) (v := 113) (n := 5) (f := num) (by omega) zlt zgo_112 zga_113 0) dX9_whyNotCommand_16 ?_
  refine z_top (v2 := .int (nI (zNu num 0))) (by rw [show zAtN 5 num 0 = nI (zNu num 0) from zNu_at hnm 0 (by decide)]) ?_
  refine z_istore_n (lv' := [(2, .int (nI (zNu num 0))), (1, .ref ((1000 + 5))), (0, .ref 0)]) dX9_whyNotCommand_19 rfl (by decide) rfl ?_
  refine z_aload_n 2 dX9_whyNotCommand_20 rfl rfl ?_
  refine z_get (v := .ref 111) 3 zgo_0 rfl inX9 (by decide) zw_315 rfl rfl dX9_whyNotCommand_21 ?_
  refine z_getN (v := .ref 112) 1 zgo_111 rfl inX0 (by decide) (by decide) rfl rfl dX9_whyNotCommand_24 ?_
  refine z_iconst (v := 1) dX9_whyNotCommand_27 (by decide) ?_
  refine z_callV (N := mX6_at) 1 [.int 1] [] lX6_at ⟨zw_570, zw_383, zw_384⟩ rfl zgo_112 rfl rfl (Nat.le_of_ble_eq_true rfl) (by decide) ⟨zlt, zlt⟩ ⟨Nat.zero_le _, Nat.zero_le _⟩ (fun _ => rfl) (c_nAt (g := 112) (v := 113) (n := 5) (f := num) (by omega) zlt zgo_112 zga_113 1) dX9_whyNotCommand_28 ?_
  refine z_top (v2 := .int (nI (zNu num 1))) (by rw [show zAtN 5 num 1 = nI (zNu num 1) from zNu_at hnm 1 (by decide)]) ?_
  refine z_istore_n (lv' := [(3, .int (nI (zNu num 1))), (2, .int (nI (zNu num 0))), (1, .ref ((1000 + 5))), (0, .ref 0)]) dX9_whyNotCommand_31 rfl (by decide) rfl ?_
  refine z_aload_n 3 dX9_whyNotCommand_32 rfl rfl ?_
  refine z_get (v := .ref 111) 3 zgo_0 rfl inX9 (by decide) zw_315 rfl rfl dX9_whyNotCommand_33 ?_
  refine z_getN (v := .ref 112) 1 zgo_111 rfl inX0 (by decide) (by decide) rfl rfl dX9_whyNotCommand_36 ?_
  refine z_iconst (v := 2) dX9_whyNotCommand_39 (by decide) ?_
  refine z_callV (N := mX6_at) 1 [.int 2] [] lX6_at ⟨zw_570, zw_383, zw_384⟩ rfl zgo_112 rfl rfl (Nat.le_of_ble_eq_true rfl) (by decide) ⟨zlt, zlt⟩ ⟨Nat.zero_le _, Nat.zero_le _⟩ (fun _ => rfl) (c_nAt (g := 112) (v := 113) (n := 5) (f := num) (by omega) zlt zgo_112 zga_113 2) dX9_whyNotCommand_40 ?_
  refine z_top (v2 := .int (nI (zNu num 2))) (by rw [show zAtN 5 num 2 = nI (zNu num 2) from zNu_at hnm 2 (by decide)]) ?_
  refine z_istore (lv' := [(4, .int (nI (zNu num 2))), (3, .int (nI (zNu num 1))), (2, .int (nI (zNu num 0))), (1, .ref ((1000 + 5))), (0, .ref 0)]) dX9_whyNotCommand_43 (by decide) rfl ?_
  refine z_aload_n 3 dX9_whyNotCommand_45 rfl rfl ?_
  refine z_getsW 0 (by decide) zw_571 dX9_whyNotCommand_46 ?_
  refine z_acmp_ne (i := 5) (j := 0) (tgt := 62) (by decide) (by decide) dX9_whyNotCommand_49 (by decide) (fun _ => ?_) (fun q => absurd q (by decide))
  refine z_aload_n 3 dX9_whyNotCommand_62 rfl rfl ?_
  refine z_getsW 1 (by decide) zw_577 dX9_whyNotCommand_63 ?_
  refine z_acmp_ne (i := 5) (j := 1) (tgt := 103) (by decide) (by decide) dX9_whyNotCommand_66 (by decide) (fun _ => ?_) (fun q => absurd q (by decide))
  refine z_aload_n 3 dX9_whyNotCommand_103 rfl rfl ?_
  refine z_getsW 2 (by decide) zw_591 dX9_whyNotCommand_104 ?_
  refine z_acmp_ne (i := 5) (j := 2) (tgt := 126) (by decide) (by decide) dX9_whyNotCommand_107 (by decide) (fun _ => ?_) (fun q => absurd q (by decide))
  refine z_aload_n 3 dX9_whyNotCommand_126 rfl rfl ?_
  refine z_getsW 3 (by decide) zw_603 dX9_whyNotCommand_127 ?_
  refine z_acmp_ne (i := 5) (j := 3) (tgt := 142) (by decide) (by decide) dX9_whyNotCommand_130 (by decide) (fun _ => ?_) (fun q => absurd q (by decide))
  refine z_aload_n 3 dX9_whyNotCommand_142 rfl rfl ?_
  refine z_getsW 4 (by decide) zw_609 dX9_whyNotCommand_143 ?_
  refine z_acmp_ne (i := 5) (j := 4) (tgt := 158) (by decide) (by decide) dX9_whyNotCommand_146 (by decide) (fun _ => ?_) (fun q => absurd q (by decide))
  refine z_aload_n 3 dX9_whyNotCommand_158 rfl rfl ?_
  refine z_getsW 5 (by decide) zw_615 dX9_whyNotCommand_159 ?_
  refine z_acmp_ne (i := 5) (j := 5) (tgt := 175) (by decide) (by decide) dX9_whyNotCommand_162 (by decide) (fun q => absurd rfl q) (fun _ => ?_)
  refine z_aload_n 4 dX9_whyNotCommand_165 rfl rfl ?_
  refine z_get (v := .ref 1) 0 zgo_0 rfl inX9 (by decide) zw_312 rfl rfl dX9_whyNotCommand_166 ?_
  refine z_iload_n 2 dX9_whyNotCommand_169 rfl rfl ?_
  refine z_iload_n 1 dX9_whyNotCommand_170 rfl rfl ?_
  refine z_callV (N := mX4_whyNotPlant) 2 [.int (nI (zNu num 0)), .int (nI (zNu num 1))] [] lX4_whyNotPlant ⟨zw_617, zw_618, zw_619⟩ rfl zgo_1 rfl rfl (Nat.le_of_ble_eq_true rfl) (by decide) ⟨zlt, zlt⟩ ⟨Nat.zero_le _, Nat.zero_le _⟩ (fun _ => rfl) (c_wnPlant hG hc hr hw hn (nI (zNu num 0)) (nI (zNu num 1))) dX9_whyNotCommand_171 ?_
  exact z_iret rfl dX9_whyNotCommand_174 (zo_i ho9 (by rfl)) (zo_h hh9 (by rfl)) (Nat.zero_le _) (Nat.zero_le _)

set_option maxHeartbeats 4000000 in
set_option maxRecDepth 100000 in
theorem c_wnc_6 {G : zT} {c r w lim cnt : Nat} {tol : Int32} {cart wov lot sew mis col len lef sbt : Nat → Int32} {shd : Nat → UInt32} {sa sb sc sd : zS} {hcn hnx tln pos : Nat} {byt num : Nat → Int32} {flt : Int32} {Y : zYr} {out : Nat → Int64} (hG : zAl G = false) (hc : c ≤ 20) (hr : r ≤ 16) (hw : w ≤ r) (hn : cnt ≤ 16) (ht : tln ≤ 150) (hpt : pos ≤ tln) (hl : lim ≤ 16) (hs : ∀ j, zFinS (shd j)) (hnm : zNmOk num) : zRun G mX9_whyNotCommand 0 0 [.ref 0] (zHp (c, r, w, lim, tol, cart, wov, lot, sew, mis, cnt, col, len, lef, sbt, shd) (sa, sb, sc, sd, hcn, hnx, byt, tln, num, (1000 + 6), pos, flt) Y out) (.inr (some (.int ((if zSp wov c w lim (nI (zNu num 0)) = -1 then 1 else if zAt sew (zSp wov c w lim (nI (zNu num 0)) / nI 16) (zSp wov c w lim (nI (zNu num 0)) - zSp wov c w lim (nI (zNu num 0)) / nI 16 * nI 16) == 1 then 3 else 0))))) (zHp (c, r, w, lim, tol, cart, wov, lot, sew, mis, cnt, col, len, lef, sbt, shd) (sa, sb, sc, sd, hcn, hnx, byt, tln, num, (1000 + 6), pos, flt) Y out) := by
  have hn09 := (zNu_ok hnm 0).2
  have hn19 := (zNu_ok hnm 1).2
  have hn29 := (zNu_ok hnm 2).2
  have hn39 := (zNu_ok hnm 3).2
  have hn49 := (zNu_ok hnm 4).2
  refine zRun_of (by decide +kernel) rfl rfl (Nat.le_of_ble_eq_true rfl) ?_
  suffices hs : ∀ (o9 : zO) (h9 : zH), (Sum.inr (some (.int ((if zSp wov c w lim (nI (zNu num 0)) = -1 then 1 else if zAt sew (zSp wov c w lim (nI (zNu num 0)) / nI 16) (zSp wov c w lim (nI (zNu num 0)) - zSp wov c w lim (nI (zNu num 0)) / nI 16 * nI 16) == 1 then 3 else 0)))) : zO) = o9 → (zHp (c, r, w, lim, tol, cart, wov, lot, sew, mis, cnt, col, len, lef, sbt, shd) (sa, sb, sc, sd, hcn, hnx, byt, tln, num, (1000 + 6), pos, flt) Y out) = h9 → zPW G mX9_whyNotCommand 0 0 o9 h9 0 0 0 [(0, .ref 0)] [] (zHp (c, r, w, lim, tol, cart, wov, lot, sew, mis, cnt, col, len, lef, sbt, shd) (sa, sb, sc, sd, hcn, hnx, byt, tln, num, (1000 + 6), pos, flt) Y out) from hs _ _ rfl rfl
  intro o9 h9 ho9 hh9
  refine z_aload_n 0 dX9_whyNotCommand_0 rfl rfl ?_
  refine z_get (v := .ref 111) 3 zgo_0 rfl inX9 (by decide) zw_315 rfl rfl dX9_whyNotCommand_1 ?_
  refine z_getN (v := .ref ((1000 + 6))) 2 zgo_111 rfl inX0 (by decide) (by decide) rfl rfl dX9_whyNotCommand_4 ?_
  refine z_astore_n (lv' := [(1, .ref ((1000 + 6))), (0, .ref 0)]) dX9_whyNotCommand_7 rfl (by decide) rfl ?_
  refine z_aload_n 1 dX9_whyNotCommand_8 rfl rfl ?_
  refine z_get (v := .ref 111) 3 zgo_0 rfl inX9 (by decide) zw_315 rfl rfl dX9_whyNotCommand_9 ?_
  refine z_getN (v := .ref 112) 1 zgo_111 rfl inX0 (by decide) (by decide) rfl rfl dX9_whyNotCommand_12 ?_
  refine z_iconst (v := 0) dX9_whyNotCommand_15 (by decide) ?_
  refine z_callV (N := mX6_at) 1 [.int 0] [] lX6_at ⟨zw_570, zw_383, zw_384⟩ rfl zgo_112 rfl rfl (Nat.le_of_ble_eq_true rfl) (by decide) ⟨zlt, zlt⟩ ⟨Nat.zero_le _, Nat.zero_le _⟩ (fun _ => rfl) (c_nAt (g := 112) (v := 113) (n := 5) (f := num) (by omega) zlt zgo_112 zga_113 0) dX9_whyNotCommand_16 ?_
  refine z_top (v2 := .int (nI (zNu num 0))) (by rw [show zAtN 5 num 0 = nI (zNu num 0) from zNu_at hnm 0 (by decide)]) ?_
  refine z_istore_n (lv' := [(2, .int (nI (zNu num 0))), (1, .ref ((1000 + 6))), (0, .ref 0)]) dX9_whyNotCommand_19 rfl (by decide) rfl ?_
  refine z_aload_n 2 dX9_whyNotCommand_20 rfl rfl ?_
  refine z_get (v := .ref 111) 3 zgo_0 rfl inX9 (by decide) zw_315 rfl rfl dX9_whyNotCommand_21 ?_
  refine z_getN (v := .ref 112) 1 zgo_111 rfl inX0 (by decide) (by decide) rfl rfl dX9_whyNotCommand_24 ?_
  refine z_iconst (v := 1) dX9_whyNotCommand_27 (by decide) ?_
  refine z_callV (N := mX6_at) 1 [.int 1] [] lX6_at ⟨zw_570, zw_383, zw_384⟩ rfl zgo_112 rfl rfl (Nat.le_of_ble_eq_true rfl) (by decide) ⟨zlt, zlt⟩ ⟨Nat.zero_le _, Nat.zero_le _⟩ (fun _ => rfl) (c_nAt (g := 112) (v := 113) (n := 5) (f := num) (by omega) zlt zgo_112 zga_113 1) dX9_whyNotCommand_28 ?_
  refine z_top (v2 := .int (nI (zNu num 1))) (by rw [show zAtN 5 num 1 = nI (zNu num 1) from zNu_at hnm 1 (by decide)]) ?_
  refine z_istore_n (lv' := [(3, .int (nI (zNu num 1))), (2, .int (nI (zNu num 0))), (1, .ref ((1000 + 6))), (0, .ref 0)]) dX9_whyNotCommand_31 rfl (by decide) rfl ?_
  refine z_aload_n 3 dX9_whyNotCommand_32 rfl rfl ?_
  refine z_get (v := .ref 111) 3 zgo_0 rfl inX9 (by decide) zw_315 rfl rfl dX9_whyNotCommand_33 ?_
  refine z_getN (v := .ref 112) 1 zgo_111 rfl inX0 (by decide) (by decide) rfl rfl dX9_whyNotCommand_36 ?_
  refine z_iconst (v := 2) dX9_whyNotCommand_39 (by decide) ?_
  refine z_callV (N := mX6_at) 1 [.int 2] [] lX6_at ⟨zw_570, zw_383, zw_384⟩ rfl zgo_112 rfl rfl (Nat.le_of_ble_eq_true rfl) (by decide) ⟨zlt, zlt⟩ ⟨Nat.zero_le _, Nat.zero_le _⟩ (fun _ => rfl) (c_nAt (g := 112) (v := 113) (n := 5) (f := num) (by omega) zlt zgo_112 zga_113 2) dX9_whyNotCommand_40 ?_
  refine z_top (v2 := .int (nI (zNu num 2))) (by rw [show zAtN 5 num 2 = nI (zNu num 2) from zNu_at hnm 2 (by decide)]) ?_
  refine z_istore (lv' := [(4, .int (nI (zNu num 2))), (3, .int (nI (zNu num 1))), (2, .int (nI (zNu num 0))), (1, .ref ((1000 + 6))), (0, .ref 0)]) dX9_whyNotCommand_43 (by decide) rfl ?_
  refine z_aload_n 3 dX9_whyNotCommand_45 rfl rfl ?_
  refine z_getsW 0 (by decide) zw_571 dX9_whyNotCommand_46 ?_
  refine z_acmp_ne (i := 6) (j := 0) (tgt := 62) (by decide) (by decide) dX9_whyNotCommand_49 (by decide) (fun _ => ?_) (fun q => absurd q (by decide))
  refine z_aload_n 3 dX9_whyNotCommand_62 rfl rfl ?_
  refine z_getsW 1 (by decide) zw_577 dX9_whyNotCommand_63 ?_
  refine z_acmp_ne (i := 6) (j := 1) (tgt := 103) (by decide) (by decide) dX9_whyNotCommand_66 (by decide) (fun _ => ?_) (fun q => absurd q (by decide))
  refine z_aload_n 3 dX9_whyNotCommand_103 rfl rfl ?_
  refine z_getsW 2 (by decide) zw_591 dX9_whyNotCommand_104 ?_
  refine z_acmp_ne (i := 6) (j := 2) (tgt := 126) (by decide) (by decide) dX9_whyNotCommand_107 (by decide) (fun _ => ?_) (fun q => absurd q (by decide))
  refine z_aload_n 3 dX9_whyNotCommand_126 rfl rfl ?_
  refine z_getsW 3 (by decide) zw_603 dX9_whyNotCommand_127 ?_
  refine z_acmp_ne (i := 6) (j := 3) (tgt := 142) (by decide) (by decide) dX9_whyNotCommand_130 (by decide) (fun _ => ?_) (fun q => absurd q (by decide))
  refine z_aload_n 3 dX9_whyNotCommand_142 rfl rfl ?_
  refine z_getsW 4 (by decide) zw_609 dX9_whyNotCommand_143 ?_
  refine z_acmp_ne (i := 6) (j := 4) (tgt := 158) (by decide) (by decide) dX9_whyNotCommand_146 (by decide) (fun _ => ?_) (fun q => absurd q (by decide))
  refine z_aload_n 3 dX9_whyNotCommand_158 rfl rfl ?_
  refine z_getsW 5 (by decide) zw_615 dX9_whyNotCommand_159 ?_
  refine z_acmp_ne (i := 6) (j := 5) (tgt := 175) (by decide) (by decide) dX9_whyNotCommand_162 (by decide) (fun _ => ?_) (fun q => absurd q (by decide))
  refine z_aload_n 3 dX9_whyNotCommand_175 rfl rfl ?_
  refine z_getsW 6 (by decide) zw_621 dX9_whyNotCommand_176 ?_
  refine z_acmp_ne (i := 6) (j := 6) (tgt := 193) (by decide) (by decide) dX9_whyNotCommand_179 (by decide) (fun q => absurd rfl q) (fun _ => ?_)
  refine z_aload_n 4 dX9_whyNotCommand_182 rfl rfl ?_
  refine z_get (v := .ref 1) 0 zgo_0 rfl inX9 (by decide) zw_312 rfl rfl dX9_whyNotCommand_183 ?_
  refine z_iload_n 2 dX9_whyNotCommand_186 rfl rfl ?_
  refine z_callV (N := mX4_whyNotSew) 1 [.int (nI (zNu num 0))] [] lX4_whyNotSew ⟨zw_623, zw_624, zw_625⟩ rfl zgo_1 rfl rfl (Nat.le_of_ble_eq_true rfl) (by decide) ⟨zlt, zlt⟩ ⟨Nat.zero_le _, Nat.zero_le _⟩ (fun _ => rfl) (c_wnSew hG hc hr hw hn hl (nI (zNu num 0))) dX9_whyNotCommand_187 ?_
  refine z_goto (tgt := 201) dX9_whyNotCommand_190 (by decide) ?_
  exact z_iret rfl dX9_whyNotCommand_201 (zo_i ho9 (by rfl)) (zo_h hh9 (by rfl)) (Nat.zero_le _) (Nat.zero_le _)

set_option maxHeartbeats 4000000 in
set_option maxRecDepth 100000 in
theorem c_wnc_7 {G : zT} {c r w lim cnt : Nat} {tol : Int32} {cart wov lot sew mis col len lef sbt : Nat → Int32} {shd : Nat → UInt32} {sa sb sc sd : zS} {hcn hnx tln pos : Nat} {byt num : Nat → Int32} {flt : Int32} {Y : zYr} {out : Nat → Int64} (hG : zAl G = false) (hc : c ≤ 20) (hr : r ≤ 16) (hw : w ≤ r) (hn : cnt ≤ 16) (ht : tln ≤ 150) (hpt : pos ≤ tln) (hl : lim ≤ 16) (hs : ∀ j, zFinS (shd j)) (hnm : zNmOk num) : zRun G mX9_whyNotCommand 0 0 [.ref 0] (zHp (c, r, w, lim, tol, cart, wov, lot, sew, mis, cnt, col, len, lef, sbt, shd) (sa, sb, sc, sd, hcn, hnx, byt, tln, num, (1000 + 7), pos, flt) Y out) (.inr (some (.int ((if zFr 1 (nI (zNu num 0)) (nI 16) then 0 else 2))))) (zHp (c, r, w, lim, tol, cart, wov, lot, sew, mis, cnt, col, len, lef, sbt, shd) (sa, sb, sc, sd, hcn, hnx, byt, tln, num, (1000 + 7), pos, flt) Y out) := by
  have hn09 := (zNu_ok hnm 0).2
  have hn19 := (zNu_ok hnm 1).2
  have hn29 := (zNu_ok hnm 2).2
  have hn39 := (zNu_ok hnm 3).2
  have hn49 := (zNu_ok hnm 4).2
  refine zRun_of (by decide +kernel) rfl rfl (Nat.le_of_ble_eq_true rfl) ?_
  suffices hs : ∀ (o9 : zO) (h9 : zH), (Sum.inr (some (.int ((if zFr 1 (nI (zNu num 0)) (nI 16) then 0 else 2)))) : zO) = o9 → (zHp (c, r, w, lim, tol, cart, wov, lot, sew, mis, cnt, col, len, lef, sbt, shd) (sa, sb, sc, sd, hcn, hnx, byt, tln, num, (1000 + 7), pos, flt) Y out) = h9 → zPW G mX9_whyNotCommand 0 0 o9 h9 0 0 0 [(0, .ref 0)] [] (zHp (c, r, w, lim, tol, cart, wov, lot, sew, mis, cnt, col, len, lef, sbt, shd) (sa, sb, sc, sd, hcn, hnx, byt, tln, num, (1000 + 7), pos, flt) Y out) from hs _ _ rfl rfl
  intro o9 h9 ho9 hh9
  refine z_aload_n 0 dX9_whyNotCommand_0 rfl rfl ?_
  refine z_get (v := .ref 111) 3 zgo_0 rfl inX9 (by decide) zw_315 rfl rfl dX9_whyNotCommand_1 ?_
  refine z_getN (v := .ref ((1000 + 7))) 2 zgo_111 rfl inX0 (by decide) (by decide) rfl rfl dX9_whyNotCommand_4 ?_
  refine z_astore_n (lv' := [(1, .ref ((1000 + 7))), (0, .ref 0)]) dX9_whyNotCommand_7 rfl (by decide) rfl ?_
  refine z_aload_n 1 dX9_whyNotCommand_8 rfl rfl ?_
  refine z_get (v := .ref 111) 3 zgo_0 rfl inX9 (by decide) zw_315 rfl rfl dX9_whyNotCommand_9 ?_
  refine z_getN (v := .ref 112) 1 zgo_111 rfl inX0 (by decide) (by decide) rfl rfl dX9_whyNotCommand_12 ?_
  refine z_iconst (v := 0) dX9_whyNotCommand_15 (by decide) ?_
  refine z_callV (N := mX6_at) 1 [.int 0] [] lX6_at ⟨zw_570, zw_383, zw_384⟩ rfl zgo_112 rfl rfl (Nat.le_of_ble_eq_true rfl) (by decide) ⟨zlt, zlt⟩ ⟨Nat.zero_le _, Nat.zero_le _⟩ (fun _ => rfl) (c_nAt (g := 112) (v := 113) (n := 5) (f := num) (by omega) zlt zgo_112 zga_113 0) dX9_whyNotCommand_16 ?_
  refine z_top (v2 := .int (nI (zNu num 0))) (by rw [show zAtN 5 num 0 = nI (zNu num 0) from zNu_at hnm 0 (by decide)]) ?_
  refine z_istore_n (lv' := [(2, .int (nI (zNu num 0))), (1, .ref ((1000 + 7))), (0, .ref 0)]) dX9_whyNotCommand_19 rfl (by decide) rfl ?_
  refine z_aload_n 2 dX9_whyNotCommand_20 rfl rfl ?_
  refine z_get (v := .ref 111) 3 zgo_0 rfl inX9 (by decide) zw_315 rfl rfl dX9_whyNotCommand_21 ?_
  refine z_getN (v := .ref 112) 1 zgo_111 rfl inX0 (by decide) (by decide) rfl rfl dX9_whyNotCommand_24 ?_
  refine z_iconst (v := 1) dX9_whyNotCommand_27 (by decide) ?_
  refine z_callV (N := mX6_at) 1 [.int 1] [] lX6_at ⟨zw_570, zw_383, zw_384⟩ rfl zgo_112 rfl rfl (Nat.le_of_ble_eq_true rfl) (by decide) ⟨zlt, zlt⟩ ⟨Nat.zero_le _, Nat.zero_le _⟩ (fun _ => rfl) (c_nAt (g := 112) (v := 113) (n := 5) (f := num) (by omega) zlt zgo_112 zga_113 1) dX9_whyNotCommand_28 ?_
  refine z_top (v2 := .int (nI (zNu num 1))) (by rw [show zAtN 5 num 1 = nI (zNu num 1) from zNu_at hnm 1 (by decide)]) ?_
  refine z_istore_n (lv' := [(3, .int (nI (zNu num 1))), (2, .int (nI (zNu num 0))), (1, .ref ((1000 + 7))), (0, .ref 0)]) dX9_whyNotCommand_31 rfl (by decide) rfl ?_
  refine z_aload_n 3 dX9_whyNotCommand_32 rfl rfl ?_
  refine z_get (v := .ref 111) 3 zgo_0 rfl inX9 (by decide) zw_315 rfl rfl dX9_whyNotCommand_33 ?_
  refine z_getN (v := .ref 112) 1 zgo_111 rfl inX0 (by decide) (by decide) rfl rfl dX9_whyNotCommand_36 ?_
  refine z_iconst (v := 2) dX9_whyNotCommand_39 (by decide) ?_
  refine z_callV (N := mX6_at) 1 [.int 2] [] lX6_at ⟨zw_570, zw_383, zw_384⟩ rfl zgo_112 rfl rfl (Nat.le_of_ble_eq_true rfl) (by decide) ⟨zlt, zlt⟩ ⟨Nat.zero_le _, Nat.zero_le _⟩ (fun _ => rfl) (c_nAt (g := 112) (v := 113) (n := 5) (f := num) (by omega) zlt zgo_112 zga_113 2) dX9_whyNotCommand_40 ?_
  refine z_top (v2 := .int (nI (zNu num 2))) (by rw [show zAtN 5 num 2 = nI (zNu num 2) from zNu_at hnm 2 (by decide)]) ?_
  refine z_istore (lv' := [(4, .int (nI (zNu num 2))), (3, .int (nI (zNu num 1))), (2, .int (nI (zNu num 0))), (1, .ref ((1000 + 7))), (0, .ref 0)]) dX9_whyNotCommand_43 (by decide) rfl ?_
  refine z_aload_n 3 dX9_whyNotCommand_45 rfl rfl ?_
  refine z_getsW 0 (by decide) zw_571 dX9_whyNotCommand_46 ?_
  refine z_acmp_ne (i := 7) (j := 0) (tgt := 62) (by decide) (by decide) dX9_whyNotCommand_49 (by decide) (fun _ => ?_) (fun q => absurd q (by decide))
  refine z_aload_n 3 dX9_whyNotCommand_62 rfl rfl ?_
  refine z_getsW 1 (by decide) zw_577 dX9_whyNotCommand_63 ?_
  refine z_acmp_ne (i := 7) (j := 1) (tgt := 103) (by decide) (by decide) dX9_whyNotCommand_66 (by decide) (fun _ => ?_) (fun q => absurd q (by decide))
  refine z_aload_n 3 dX9_whyNotCommand_103 rfl rfl ?_
  refine z_getsW 2 (by decide) zw_591 dX9_whyNotCommand_104 ?_
  refine z_acmp_ne (i := 7) (j := 2) (tgt := 126) (by decide) (by decide) dX9_whyNotCommand_107 (by decide) (fun _ => ?_) (fun q => absurd q (by decide))
  refine z_aload_n 3 dX9_whyNotCommand_126 rfl rfl ?_
  refine z_getsW 3 (by decide) zw_603 dX9_whyNotCommand_127 ?_
  refine z_acmp_ne (i := 7) (j := 3) (tgt := 142) (by decide) (by decide) dX9_whyNotCommand_130 (by decide) (fun _ => ?_) (fun q => absurd q (by decide))
  refine z_aload_n 3 dX9_whyNotCommand_142 rfl rfl ?_
  refine z_getsW 4 (by decide) zw_609 dX9_whyNotCommand_143 ?_
  refine z_acmp_ne (i := 7) (j := 4) (tgt := 158) (by decide) (by decide) dX9_whyNotCommand_146 (by decide) (fun _ => ?_) (fun q => absurd q (by decide))
  refine z_aload_n 3 dX9_whyNotCommand_158 rfl rfl ?_
  refine z_getsW 5 (by decide) zw_615 dX9_whyNotCommand_159 ?_
  refine z_acmp_ne (i := 7) (j := 5) (tgt := 175) (by decide) (by decide) dX9_whyNotCommand_162 (by decide) (fun _ => ?_) (fun q => absurd q (by decide))
  refine z_aload_n 3 dX9_whyNotCommand_175 rfl rfl ?_
  refine z_getsW 6 (by decide) zw_621 dX9_whyNotCommand_176 ?_
  refine z_acmp_ne (i := 7) (j := 6) (tgt := 193) (by decide) (by decide) dX9_whyNotCommand_179 (by decide) (fun _ => ?_) (fun q => absurd q (by decide))
  refine z_aload_n 4 dX9_whyNotCommand_193 rfl rfl ?_
  refine z_get (v := .ref 1) 0 zgo_0 rfl inX9 (by decide) zw_312 rfl rfl dX9_whyNotCommand_194 ?_
  refine z_iload_n 2 dX9_whyNotCommand_197 rfl rfl ?_
  refine z_callV (N := mX4_whyNotLimit) 1 [.int (nI (zNu num 0))] [] lX4_whyNotLimit ⟨zw_643, zw_644, zw_645⟩ rfl zgo_1 rfl rfl (Nat.le_of_ble_eq_true rfl) (by decide) ⟨zlt, zlt⟩ ⟨Nat.zero_le _, Nat.zero_le _⟩ (fun _ => rfl) (c_wnLimit hG hc hr hw hn (nI (zNu num 0))) dX9_whyNotCommand_198 ?_
  exact z_iret rfl dX9_whyNotCommand_201 (zo_i ho9 (by rfl)) (zo_h hh9 (by rfl)) (Nat.zero_le _) (Nat.zero_le _)

theorem c_wnc {G : zT} {c r w lim cnt : Nat} {tol : Int32} {cart wov lot sew mis col len lef sbt : Nat → Int32} {shd : Nat → UInt32} {sa sb sc sd : zS} {hcn hnx tln pos j : Nat} {byt num : Nat → Int32} {flt : Int32} {Y : zYr} {out : Nat → Int64} (hG : zAl G = false) (hc : c ≤ 20) (hr : r ≤ 16) (hw : w ≤ r) (hn : cnt ≤ 16) (ht : tln ≤ 150) (hpt : pos ≤ tln) (hl : lim ≤ 16) (hs : ∀ j, zFinS (shd j)) (hnm : zNmOk num) (hj : j < 8) : zRun G mX9_whyNotCommand 0 0 [.ref 0] (zHp (c, r, w, lim, tol, cart, wov, lot, sew, mis, cnt, col, len, lef, sbt, shd) (sa, sb, sc, sd, hcn, hnx, byt, tln, num, (1000 + j), pos, flt) Y out) (.inr (some (.int (zCw c r w lim cnt wov sew num j)))) (zHp (c, r, w, lim, tol, cart, wov, lot, sew, mis, cnt, col, len, lef, sbt, shd) (sa, sb, sc, sd, hcn, hnx, byt, tln, num, (1000 + j), pos, flt) Y out) := by
  rcases (show j = 0 ∨ j = 1 ∨ j = 2 ∨ j = 3 ∨ j = 4 ∨ j = 5 ∨ j = 6 ∨ j = 7 by omega) with rfl | rfl | rfl | rfl | rfl | rfl | rfl | rfl
  · exact c_wnc_0 hG hc hr hw hn ht hpt hl hs hnm
  · exact c_wnc_1 hG hc hr hw hn ht hpt hl hs hnm
  · exact c_wnc_2 hG hc hr hw hn ht hpt hl hs hnm
  · exact c_wnc_3 hG hc hr hw hn ht hpt hl hs hnm
  · exact c_wnc_4 hG hc hr hw hn ht hpt hl hs hnm
  · exact c_wnc_5 hG hc hr hw hn ht hpt hl hs hnm
  · exact c_wnc_6 hG hc hr hw hn ht hpt hl hs hnm
  · exact c_wnc_7 hG hc hr hw hn ht hpt hl hs hnm

set_option maxHeartbeats 4000000 in
set_option maxRecDepth 100000 in
theorem c_coc_0 {G : zT} {c r w lim cnt : Nat} {tol : Int32} {cart wov lot sew mis col len lef sbt : Nat → Int32} {shd : Nat → UInt32} {sa sb sc sd : zS} {hcn hnx tln pos : Nat} {byt num : Nat → Int32} {flt : Int32} {Y : zYr} {out : Nat → Int64} (hG : zAl G = false) (hc : c ≤ 20) (hr : r ≤ 16) (hw : w ≤ r) (hn : cnt ≤ 16) (ht : tln ≤ 150) (hpt : pos ≤ tln) (hl : lim ≤ 16) (hs : ∀ j, zFinS (shd j)) (hnm : zNmOk num) : zRun G mX9_carryOutCommand 0 0 [.ref 0] (zHp (c, r, w, lim, tol, cart, wov, lot, sew, mis, cnt, col, len, lef, sbt, shd) (sa, sb, sc, sd, hcn, hnx, byt, tln, num, (1000 + 0), pos, flt) Y out) (.inr none) (zHp ((zNu num 0), (zNu num 1), 0, lim, tol, (zFl (fun _ => 0) cart 320), wov, lot, (zFl (fun _ => 0) sew 320), (zFl (fun _ => (-1)) mis 20), cnt, col, len, lef, sbt, shd) (sa, sb, sc, sd, hcn, hnx, byt, tln, num, (1000 + 0), pos, flt) Y out) := by
  have hn09 := (zNu_ok hnm 0).2
  have hn19 := (zNu_ok hnm 1).2
  have hn29 := (zNu_ok hnm 2).2
  have hn39 := (zNu_ok hnm 3).2
  have hn49 := (zNu_ok hnm 4).2
  refine zRun_of (by decide +kernel) rfl rfl (Nat.le_of_ble_eq_true rfl) ?_
  suffices hs : ∀ (o9 : zO) (h9 : zH), (Sum.inr none : zO) = o9 → (zHp ((zNu num 0), (zNu num 1), 0, lim, tol, (zFl (fun _ => 0) cart 320), wov, lot, (zFl (fun _ => 0) sew 320), (zFl (fun _ => (-1)) mis 20), cnt, col, len, lef, sbt, shd) (sa, sb, sc, sd, hcn, hnx, byt, tln, num, (1000 + 0), pos, flt) Y out) = h9 → zPW G mX9_carryOutCommand 0 0 o9 h9 0 0 0 [(0, .ref 0)] [] (zHp (c, r, w, lim, tol, cart, wov, lot, sew, mis, cnt, col, len, lef, sbt, shd) (sa, sb, sc, sd, hcn, hnx, byt, tln, num, (1000 + 0), pos, flt) Y out) from hs _ _ rfl rfl
  intro o9 h9 ho9 hh9
  refine z_aload_n 0 dX9_carryOutCommand_0 rfl rfl ?_
  refine z_get (v := .ref 111) 3 zgo_0 rfl inX9 (by decide) zw_315 rfl rfl dX9_carryOutCommand_1 ?_
  refine z_getN (v := .ref ((1000 + 0))) 2 zgo_111 rfl inX0 (by decide) (by decide) rfl rfl dX9_carryOutCommand_4 ?_
  refine z_astore_n (lv' := [(1, .ref ((1000 + 0))), (0, .ref 0)]) dX9_carryOutCommand_7 rfl (by decide) rfl ?_
  refine z_aload_n 1 dX9_carryOutCommand_8 rfl rfl ?_
  refine z_get (v := .ref 111) 3 zgo_0 rfl inX9 (by decide) zw_315 rfl rfl dX9_carryOutCommand_9 ?_
  refine z_getN (v := .ref 112) 1 zgo_111 rfl inX0 (by decide) (by decide) rfl rfl dX9_carryOutCommand_12 ?_
  refine z_iconst (v := 0) dX9_carryOutCommand_15 (by decide) ?_
  refine z_callV (N := mX6_at) 1 [.int 0] [] lX6_at ⟨zw_570, zw_383, zw_384⟩ rfl zgo_112 rfl rfl (Nat.le_of_ble_eq_true rfl) (by decide) ⟨zlt, zlt⟩ ⟨Nat.zero_le _, Nat.zero_le _⟩ (fun _ => rfl) (c_nAt (g := 112) (v := 113) (n := 5) (f := num) (by omega) zlt zgo_112 zga_113 0) dX9_carryOutCommand_16 ?_
  refine z_top (v2 := .int (nI (zNu num 0))) (by rw [show zAtN 5 num 0 = nI (zNu num 0) from zNu_at hnm 0 (by decide)]) ?_
  refine z_istore_n (lv' := [(2, .int (nI (zNu num 0))), (1, .ref ((1000 + 0))), (0, .ref 0)]) dX9_carryOutCommand_19 rfl (by decide) rfl ?_
  refine z_aload_n 2 dX9_carryOutCommand_20 rfl rfl ?_
  refine z_get (v := .ref 111) 3 zgo_0 rfl inX9 (by decide) zw_315 rfl rfl dX9_carryOutCommand_21 ?_
  refine z_getN (v := .ref 112) 1 zgo_111 rfl inX0 (by decide) (by decide) rfl rfl dX9_carryOutCommand_24 ?_
  refine z_iconst (v := 1) dX9_carryOutCommand_27 (by decide) ?_
  refine z_callV (N := mX6_at) 1 [.int 1] [] lX6_at ⟨zw_570, zw_383, zw_384⟩ rfl zgo_112 rfl rfl (Nat.le_of_ble_eq_true rfl) (by decide) ⟨zlt, zlt⟩ ⟨Nat.zero_le _, Nat.zero_le _⟩ (fun _ => rfl) (c_nAt (g := 112) (v := 113) (n := 5) (f := num) (by omega) zlt zgo_112 zga_113 1) dX9_carryOutCommand_28 ?_
  refine z_top (v2 := .int (nI (zNu num 1))) (by rw [show zAtN 5 num 1 = nI (zNu num 1) from zNu_at hnm 1 (by decide)]) ?_
  refine z_istore_n (lv' := [(3, .int (nI (zNu num 1))), (2, .int (nI (zNu num 0))), (1, .ref ((1000 + 0))), (0, .ref 0)]) dX9_carryOutCommand_31 rfl (by decide) rfl ?_
  refine z_aload_n 3 dX9_carryOutCommand_32 rfl rfl ?_
  refine z_get (v := .ref 111) 3 zgo_0 rfl inX9 (by decide) zw_315 rfl rfl dX9_carryOutCommand_33 ?_
  refine z_getN (v := .ref 112) 1 zgo_111 rfl inX0 (by decide) (by decide) rfl rfl dX9_carryOutCommand_36 ?_
  refine z_iconst (v := 2) dX9_carryOutCommand_39 (by decide) ?_
  refine z_callV (N := mX6_at) 1 [.int 2] [] lX6_at ⟨zw_570, zw_383, zw_384⟩ rfl zgo_112 rfl rfl (Nat.le_of_ble_eq_true rfl) (by decide) ⟨zlt, zlt⟩ ⟨Nat.zero_le _, Nat.zero_le _⟩ (fun _ => rfl) (c_nAt (g := 112) (v := 113) (n := 5) (f := num) (by omega) zlt zgo_112 zga_113 2) dX9_carryOutCommand_40 ?_
  refine z_top (v2 := .int (nI (zNu num 2))) (by rw [show zAtN 5 num 2 = nI (zNu num 2) from zNu_at hnm 2 (by decide)]) ?_
  refine z_istore (lv' := [(4, .int (nI (zNu num 2))), (3, .int (nI (zNu num 1))), (2, .int (nI (zNu num 0))), (1, .ref ((1000 + 0))), (0, .ref 0)]) dX9_carryOutCommand_43 (by decide) rfl ?_
  refine z_aload_n 3 dX9_carryOutCommand_45 rfl rfl ?_
  refine z_getsW 0 (by decide) zw_571 dX9_carryOutCommand_46 ?_
  refine z_acmp_ne (i := 0) (j := 0) (tgt := 65) (by decide) (by decide) dX9_carryOutCommand_49 (by decide) (fun q => absurd rfl q) (fun _ => ?_)
  refine z_aload_n 4 dX9_carryOutCommand_52 rfl rfl ?_
  refine z_get (v := .ref 1) 0 zgo_0 rfl inX9 (by decide) zw_312 rfl rfl dX9_carryOutCommand_53 ?_
  refine z_iload_n 2 dX9_carryOutCommand_56 rfl rfl ?_
  refine z_iload_n 1 dX9_carryOutCommand_57 rfl rfl ?_
  refine z_callV (N := mX4_takeCartoon) 2 [.int (nI (zNu num 0)), .int (nI (zNu num 1))] [] lX4_takeCartoon ⟨zw_651, zw_652, zw_653⟩ rfl zgo_1 rfl rfl (Nat.le_of_ble_eq_true rfl) (by decide) ⟨zlt, zlt⟩ ⟨Nat.zero_le _, Nat.zero_le _⟩ zal (c_takeCartoon hG hc hr hw hn (zNu num 0) (zNu num 1)) dX9_carryOutCommand_58 ?_
  refine z_pop dX9_carryOutCommand_61 rfl ?_
  refine z_goto (tgt := 231) dX9_carryOutCommand_62 (by decide) ?_
  exact z_vret rfl dX9_carryOutCommand_231 ho9.symm (zo_h hh9 (by rfl)) (Nat.zero_le _) (Nat.zero_le _)

set_option maxHeartbeats 4000000 in
set_option maxRecDepth 100000 in
theorem c_coc_1 {G : zT} {c r w lim cnt : Nat} {tol : Int32} {cart wov lot sew mis col len lef sbt : Nat → Int32} {shd : Nat → UInt32} {sa sb sc sd : zS} {hcn hnx tln pos : Nat} {byt num : Nat → Int32} {flt : Int32} {Y : zYr} {out : Nat → Int64} (hG : zAl G = false) (hc : c ≤ 20) (hr : r ≤ 16) (hw : w ≤ r) (hn : cnt ≤ 16) (ht : tln ≤ 150) (hpt : pos ≤ tln) (hl : lim ≤ 16) (hs : ∀ j, zFinS (shd j)) (hnm : zNmOk num) (hxu : zNu num 0 ≤ zNu num 2) (hu : zNu num 2 < c) (hyz : zNu num 1 ≤ zNu num 3) (hz : zNu num 3 < r) : zRun G mX9_carryOutCommand 0 0 [.ref 0] (zHp (c, r, w, lim, tol, cart, wov, lot, sew, mis, cnt, col, len, lef, sbt, shd) (sa, sb, sc, sd, hcn, hnx, byt, tln, num, (1000 + 1), pos, flt) Y out) (.inr none) (zHp (c, r, w, lim, tol, (zPt c (zNu num 0) (zNu num 1) (zNu num 2) (zNu num 3) (nI (zNu num 4)) cart).1, wov, lot, sew, mis, cnt, col, len, lef, sbt, shd) (sa, sb, sc, sd, hcn, hnx, byt, tln, num, (1000 + 1), pos, flt) Y out) := by
  have hn09 := (zNu_ok hnm 0).2
  have hn19 := (zNu_ok hnm 1).2
  have hn29 := (zNu_ok hnm 2).2
  have hn39 := (zNu_ok hnm 3).2
  have hn49 := (zNu_ok hnm 4).2
  refine zRun_of (by decide +kernel) rfl rfl (Nat.le_of_ble_eq_true rfl) ?_
  suffices hs : ∀ (o9 : zO) (h9 : zH), (Sum.inr none : zO) = o9 → (zHp (c, r, w, lim, tol, (zPt c (zNu num 0) (zNu num 1) (zNu num 2) (zNu num 3) (nI (zNu num 4)) cart).1, wov, lot, sew, mis, cnt, col, len, lef, sbt, shd) (sa, sb, sc, sd, hcn, hnx, byt, tln, num, (1000 + 1), pos, flt) Y out) = h9 → zPW G mX9_carryOutCommand 0 0 o9 h9 0 0 0 [(0, .ref 0)] [] (zHp (c, r, w, lim, tol, cart, wov, lot, sew, mis, cnt, col, len, lef, sbt, shd) (sa, sb, sc, sd, hcn, hnx, byt, tln, num, (1000 + 1), pos, flt) Y out) from hs _ _ rfl rfl
  intro o9 h9 ho9 hh9
  refine z_aload_n 0 dX9_carryOutCommand_0 rfl rfl ?_
  refine z_get (v := .ref 111) 3 zgo_0 rfl inX9 (by decide) zw_315 rfl rfl dX9_carryOutCommand_1 ?_
  refine z_getN (v := .ref ((1000 + 1))) 2 zgo_111 rfl inX0 (by decide) (by decide) rfl rfl dX9_carryOutCommand_4 ?_
  refine z_astore_n (lv' := [(1, .ref ((1000 + 1))), (0, .ref 0)]) dX9_carryOutCommand_7 rfl (by decide) rfl ?_
  refine z_aload_n 1 dX9_carryOutCommand_8 rfl rfl ?_
  refine z_get (v := .ref 111) 3 zgo_0 rfl inX9 (by decide) zw_315 rfl rfl dX9_carryOutCommand_9 ?_
  refine z_getN (v := .ref 112) 1 zgo_111 rfl inX0 (by decide) (by decide) rfl rfl dX9_carryOutCommand_12 ?_
  refine z_iconst (v := 0) dX9_carryOutCommand_15 (by decide) ?_
  refine z_callV (N := mX6_at) 1 [.int 0] [] lX6_at ⟨zw_570, zw_383, zw_384⟩ rfl zgo_112 rfl rfl (Nat.le_of_ble_eq_true rfl) (by decide) ⟨zlt, zlt⟩ ⟨Nat.zero_le _, Nat.zero_le _⟩ (fun _ => rfl) (c_nAt (g := 112) (v := 113) (n := 5) (f := num) (by omega) zlt zgo_112 zga_113 0) dX9_carryOutCommand_16 ?_
  refine z_top (v2 := .int (nI (zNu num 0))) (by rw [show zAtN 5 num 0 = nI (zNu num 0) from zNu_at hnm 0 (by decide)]) ?_
  refine z_istore_n (lv' := [(2, .int (nI (zNu num 0))), (1, .ref ((1000 + 1))), (0, .ref 0)]) dX9_carryOutCommand_19 rfl (by decide) rfl ?_
  refine z_aload_n 2 dX9_carryOutCommand_20 rfl rfl ?_
  refine z_get (v := .ref 111) 3 zgo_0 rfl inX9 (by decide) zw_315 rfl rfl dX9_carryOutCommand_21 ?_
  refine z_getN (v := .ref 112) 1 zgo_111 rfl inX0 (by decide) (by decide) rfl rfl dX9_carryOutCommand_24 ?_
  refine z_iconst (v := 1) dX9_carryOutCommand_27 (by decide) ?_
  refine z_callV (N := mX6_at) 1 [.int 1] [] lX6_at ⟨zw_570, zw_383, zw_384⟩ rfl zgo_112 rfl rfl (Nat.le_of_ble_eq_true rfl) (by decide) ⟨zlt, zlt⟩ ⟨Nat.zero_le _, Nat.zero_le _⟩ (fun _ => rfl) (c_nAt (g := 112) (v := 113) (n := 5) (f := num) (by omega) zlt zgo_112 zga_113 1) dX9_carryOutCommand_28 ?_
  refine z_top (v2 := .int (nI (zNu num 1))) (by rw [show zAtN 5 num 1 = nI (zNu num 1) from zNu_at hnm 1 (by decide)]) ?_
  refine z_istore_n (lv' := [(3, .int (nI (zNu num 1))), (2, .int (nI (zNu num 0))), (1, .ref ((1000 + 1))), (0, .ref 0)]) dX9_carryOutCommand_31 rfl (by decide) rfl ?_
  refine z_aload_n 3 dX9_carryOutCommand_32 rfl rfl ?_
  refine z_get (v := .ref 111) 3 zgo_0 rfl inX9 (by decide) zw_315 rfl rfl dX9_carryOutCommand_33 ?_
  refine z_getN (v := .ref 112) 1 zgo_111 rfl inX0 (by decide) (by decide) rfl rfl dX9_carryOutCommand_36 ?_
  refine z_iconst (v := 2) dX9_carryOutCommand_39 (by decide) ?_
  refine z_callV (N := mX6_at) 1 [.int 2] [] lX6_at ⟨zw_570, zw_383, zw_384⟩ rfl zgo_112 rfl rfl (Nat.le_of_ble_eq_true rfl) (by decide) ⟨zlt, zlt⟩ ⟨Nat.zero_le _, Nat.zero_le _⟩ (fun _ => rfl) (c_nAt (g := 112) (v := 113) (n := 5) (f := num) (by omega) zlt zgo_112 zga_113 2) dX9_carryOutCommand_40 ?_
  refine z_top (v2 := .int (nI (zNu num 2))) (by rw [show zAtN 5 num 2 = nI (zNu num 2) from zNu_at hnm 2 (by decide)]) ?_
  refine z_istore (lv' := [(4, .int (nI (zNu num 2))), (3, .int (nI (zNu num 1))), (2, .int (nI (zNu num 0))), (1, .ref ((1000 + 1))), (0, .ref 0)]) dX9_carryOutCommand_43 (by decide) rfl ?_
  refine z_aload_n 3 dX9_carryOutCommand_45 rfl rfl ?_
  refine z_getsW 0 (by decide) zw_571 dX9_carryOutCommand_46 ?_
  refine z_acmp_ne (i := 1) (j := 0) (tgt := 65) (by decide) (by decide) dX9_carryOutCommand_49 (by decide) (fun _ => ?_) (fun q => absurd q (by decide))
  refine z_aload_n 3 dX9_carryOutCommand_65 rfl rfl ?_
  refine z_getsW 1 (by decide) zw_577 dX9_carryOutCommand_66 ?_
  refine z_acmp_ne (i := 1) (j := 1) (tgt := 109) (by decide) (by decide) dX9_carryOutCommand_69 (by decide) (fun q => absurd rfl q) (fun _ => ?_)
  refine z_aload_n 4 dX9_carryOutCommand_72 rfl rfl ?_
  refine z_get (v := .ref 1) 0 zgo_0 rfl inX9 (by decide) zw_312 rfl rfl dX9_carryOutCommand_73 ?_
  refine z_iload_n 2 dX9_carryOutCommand_76 rfl rfl ?_
  refine z_iload_n 1 dX9_carryOutCommand_77 rfl rfl ?_
  refine z_iload 0 dX9_carryOutCommand_78 rfl ?_
  refine z_aload_n 4 dX9_carryOutCommand_80 rfl rfl ?_
  refine z_get (v := .ref 111) 3 zgo_0 rfl inX9 (by decide) zw_315 rfl rfl dX9_carryOutCommand_81 ?_
  refine z_getN (v := .ref 112) 1 zgo_111 rfl inX0 (by decide) (by decide) rfl rfl dX9_carryOutCommand_84 ?_
  refine z_iconst (v := 3) dX9_carryOutCommand_87 (by decide) ?_
  refine z_callV (N := mX6_at) 1 [.int 3] [.int (nI (zNu num 2)), .int (nI (zNu num 1)), .int (nI (zNu num 0)), .ref 1] lX6_at ⟨zw_570, zw_383, zw_384⟩ rfl zgo_112 rfl rfl (Nat.le_of_ble_eq_true rfl) (by decide) ⟨zlt, zlt⟩ ⟨Nat.zero_le _, Nat.zero_le _⟩ (fun _ => rfl) (c_nAt (g := 112) (v := 113) (n := 5) (f := num) (by omega) zlt zgo_112 zga_113 3) dX9_carryOutCommand_88 ?_
  refine z_top (v2 := .int (nI (zNu num 3))) (by rw [show zAtN 5 num 3 = nI (zNu num 3) from zNu_at hnm 3 (by decide)]) ?_
  refine z_aload_n 4 dX9_carryOutCommand_91 rfl rfl ?_
  refine z_get (v := .ref 111) 3 zgo_0 rfl inX9 (by decide) zw_315 rfl rfl dX9_carryOutCommand_92 ?_
  refine z_getN (v := .ref 112) 1 zgo_111 rfl inX0 (by decide) (by decide) rfl rfl dX9_carryOutCommand_95 ?_
  refine z_iconst (v := 4) dX9_carryOutCommand_98 (by decide) ?_
  refine z_callV (N := mX6_at) 1 [.int 4] [.int (nI (zNu num 3)), .int (nI (zNu num 2)), .int (nI (zNu num 1)), .int (nI (zNu num 0)), .ref 1] lX6_at ⟨zw_570, zw_383, zw_384⟩ rfl zgo_112 rfl rfl (Nat.le_of_ble_eq_true rfl) (by decide) ⟨zlt, zlt⟩ ⟨Nat.zero_le _, Nat.zero_le _⟩ (fun _ => rfl) (c_nAt (g := 112) (v := 113) (n := 5) (f := num) (by omega) zlt zgo_112 zga_113 4) dX9_carryOutCommand_99 ?_
  refine z_top (v2 := .int (nI (zNu num 4))) (by rw [show zAtN 5 num 4 = nI (zNu num 4) from zNu_at hnm 4 (by decide)]) ?_
  refine z_callV (N := mX4_paint) 5 [.int (nI (zNu num 0)), .int (nI (zNu num 1)), .int (nI (zNu num 2)), .int (nI (zNu num 3)), .int (nI (zNu num 4))] [] lX4_paint ⟨zw_659, zw_660, zw_661⟩ rfl zgo_1 rfl rfl (Nat.le_of_ble_eq_true rfl) (by decide) ⟨zlt, zlt⟩ ⟨Nat.zero_le _, Nat.zero_le _⟩ zal (c_paint hG hc hr hw hn (zNu num 0) (zNu num 1) (zNu num 2) (zNu num 3) (nI (zNu num 4)) hxu hu hyz hz) dX9_carryOutCommand_102 ?_
  refine z_pop dX9_carryOutCommand_105 rfl ?_
  refine z_goto (tgt := 231) dX9_carryOutCommand_106 (by decide) ?_
  exact z_vret rfl dX9_carryOutCommand_231 ho9.symm (zo_h hh9 (by rfl)) (Nat.zero_le _) (Nat.zero_le _)

set_option maxHeartbeats 4000000 in
set_option maxRecDepth 100000 in
theorem c_coc_2 {G : zT} {c r w lim cnt : Nat} {tol : Int32} {cart wov lot sew mis col len lef sbt : Nat → Int32} {shd : Nat → UInt32} {sa sb sc sd : zS} {hcn hnx tln pos : Nat} {byt num : Nat → Int32} {flt : Int32} {Y : zYr} {out : Nat → Int64} (hG : zAl G = false) (hc : c ≤ 20) (hr : r ≤ 16) (hw : w ≤ r) (hn : cnt ≤ 16) (ht : tln ≤ 150) (hpt : pos ≤ tln) (hl : lim ≤ 16) (hs : ∀ j, zFinS (shd j)) (hnm : zNmOk num) (hn16 : cnt < 16) : zRun G mX9_carryOutCommand 0 0 [.ref 0] (zHp (c, r, w, lim, tol, cart, wov, lot, sew, mis, cnt, col, len, lef, sbt, shd) (sa, sb, sc, sd, hcn, hnx, byt, tln, num, (1000 + 2), pos, flt) Y out) (.inr none) (zHp (c, r, w, lim, tol, cart, wov, lot, sew, mis, (cnt + 1), (zPutN 16 col (nI cnt) (nI (zNu num 0))), (zPutN 16 len (nI cnt) (nI (zNu num 1))), (zPutN 16 lef (nI cnt) (nI (zNu num 1))), (zPutN 16 sbt (nI cnt) (zBo (FP.i2f (nI (zNu num 2))))), (zPutS shd (nI cnt) (zFb (zBo (FP.i2f (nI (zNu num 2))))))) (sa, sb, sc, sd, hcn, hnx, byt, tln, num, (1000 + 2), pos, flt) Y out) := by
  have hn09 := (zNu_ok hnm 0).2
  have hn19 := (zNu_ok hnm 1).2
  have hn29 := (zNu_ok hnm 2).2
  have hn39 := (zNu_ok hnm 3).2
  have hn49 := (zNu_ok hnm 4).2
  refine zRun_of (by decide +kernel) rfl rfl (Nat.le_of_ble_eq_true rfl) ?_
  suffices hs : ∀ (o9 : zO) (h9 : zH), (Sum.inr none : zO) = o9 → (zHp (c, r, w, lim, tol, cart, wov, lot, sew, mis, (cnt + 1), (zPutN 16 col (nI cnt) (nI (zNu num 0))), (zPutN 16 len (nI cnt) (nI (zNu num 1))), (zPutN 16 lef (nI cnt) (nI (zNu num 1))), (zPutN 16 sbt (nI cnt) (zBo (FP.i2f (nI (zNu num 2))))), (zPutS shd (nI cnt) (zFb (zBo (FP.i2f (nI (zNu num 2))))))) (sa, sb, sc, sd, hcn, hnx, byt, tln, num, (1000 + 2), pos, flt) Y out) = h9 → zPW G mX9_carryOutCommand 0 0 o9 h9 0 0 0 [(0, .ref 0)] [] (zHp (c, r, w, lim, tol, cart, wov, lot, sew, mis, cnt, col, len, lef, sbt, shd) (sa, sb, sc, sd, hcn, hnx, byt, tln, num, (1000 + 2), pos, flt) Y out) from hs _ _ rfl rfl
  intro o9 h9 ho9 hh9
  refine z_aload_n 0 dX9_carryOutCommand_0 rfl rfl ?_
  refine z_get (v := .ref 111) 3 zgo_0 rfl inX9 (by decide) zw_315 rfl rfl dX9_carryOutCommand_1 ?_
  refine z_getN (v := .ref ((1000 + 2))) 2 zgo_111 rfl inX0 (by decide) (by decide) rfl rfl dX9_carryOutCommand_4 ?_
  refine z_astore_n (lv' := [(1, .ref ((1000 + 2))), (0, .ref 0)]) dX9_carryOutCommand_7 rfl (by decide) rfl ?_
  refine z_aload_n 1 dX9_carryOutCommand_8 rfl rfl ?_
  refine z_get (v := .ref 111) 3 zgo_0 rfl inX9 (by decide) zw_315 rfl rfl dX9_carryOutCommand_9 ?_
  refine z_getN (v := .ref 112) 1 zgo_111 rfl inX0 (by decide) (by decide) rfl rfl dX9_carryOutCommand_12 ?_
  refine z_iconst (v := 0) dX9_carryOutCommand_15 (by decide) ?_
  refine z_callV (N := mX6_at) 1 [.int 0] [] lX6_at ⟨zw_570, zw_383, zw_384⟩ rfl zgo_112 rfl rfl (Nat.le_of_ble_eq_true rfl) (by decide) ⟨zlt, zlt⟩ ⟨Nat.zero_le _, Nat.zero_le _⟩ (fun _ => rfl) (c_nAt (g := 112) (v := 113) (n := 5) (f := num) (by omega) zlt zgo_112 zga_113 0) dX9_carryOutCommand_16 ?_
  refine z_top (v2 := .int (nI (zNu num 0))) (by rw [show zAtN 5 num 0 = nI (zNu num 0) from zNu_at hnm 0 (by decide)]) ?_
  refine z_istore_n (lv' := [(2, .int (nI (zNu num 0))), (1, .ref ((1000 + 2))), (0, .ref 0)]) dX9_carryOutCommand_19 rfl (by decide) rfl ?_
  refine z_aload_n 2 dX9_carryOutCommand_20 rfl rfl ?_
  refine z_get (v := .ref 111) 3 zgo_0 rfl inX9 (by decide) zw_315 rfl rfl dX9_carryOutCommand_21 ?_
  refine z_getN (v := .ref 112) 1 zgo_111 rfl inX0 (by decide) (by decide) rfl rfl dX9_carryOutCommand_24 ?_
  refine z_iconst (v := 1) dX9_carryOutCommand_27 (by decide) ?_
  refine z_callV (N := mX6_at) 1 [.int 1] [] lX6_at ⟨zw_570, zw_383, zw_384⟩ rfl zgo_112 rfl rfl (Nat.le_of_ble_eq_true rfl) (by decide) ⟨zlt, zlt⟩ ⟨Nat.zero_le _, Nat.zero_le _⟩ (fun _ => rfl) (c_nAt (g := 112) (v := 113) (n := 5) (f := num) (by omega) zlt zgo_112 zga_113 1) dX9_carryOutCommand_28 ?_
  refine z_top (v2 := .int (nI (zNu num 1))) (by rw [show zAtN 5 num 1 = nI (zNu num 1) from zNu_at hnm 1 (by decide)]) ?_
  refine z_istore_n (lv' := [(3, .int (nI (zNu num 1))), (2, .int (nI (zNu num 0))), (1, .ref ((1000 + 2))), (0, .ref 0)]) dX9_carryOutCommand_31 rfl (by decide) rfl ?_
  refine z_aload_n 3 dX9_carryOutCommand_32 rfl rfl ?_
  refine z_get (v := .ref 111) 3 zgo_0 rfl inX9 (by decide) zw_315 rfl rfl dX9_carryOutCommand_33 ?_
  refine z_getN (v := .ref 112) 1 zgo_111 rfl inX0 (by decide) (by decide) rfl rfl dX9_carryOutCommand_36 ?_
  refine z_iconst (v := 2) dX9_carryOutCommand_39 (by decide) ?_
  refine z_callV (N := mX6_at) 1 [.int 2] [] lX6_at ⟨zw_570, zw_383, zw_384⟩ rfl zgo_112 rfl rfl (Nat.le_of_ble_eq_true rfl) (by decide) ⟨zlt, zlt⟩ ⟨Nat.zero_le _, Nat.zero_le _⟩ (fun _ => rfl) (c_nAt (g := 112) (v := 113) (n := 5) (f := num) (by omega) zlt zgo_112 zga_113 2) dX9_carryOutCommand_40 ?_
  refine z_top (v2 := .int (nI (zNu num 2))) (by rw [show zAtN 5 num 2 = nI (zNu num 2) from zNu_at hnm 2 (by decide)]) ?_
  refine z_istore (lv' := [(4, .int (nI (zNu num 2))), (3, .int (nI (zNu num 1))), (2, .int (nI (zNu num 0))), (1, .ref ((1000 + 2))), (0, .ref 0)]) dX9_carryOutCommand_43 (by decide) rfl ?_
  refine z_aload_n 3 dX9_carryOutCommand_45 rfl rfl ?_
  refine z_getsW 0 (by decide) zw_571 dX9_carryOutCommand_46 ?_
  refine z_acmp_ne (i := 2) (j := 0) (tgt := 65) (by decide) (by decide) dX9_carryOutCommand_49 (by decide) (fun _ => ?_) (fun q => absurd q (by decide))
  refine z_aload_n 3 dX9_carryOutCommand_65 rfl rfl ?_
  refine z_getsW 1 (by decide) zw_577 dX9_carryOutCommand_66 ?_
  refine z_acmp_ne (i := 2) (j := 1) (tgt := 109) (by decide) (by decide) dX9_carryOutCommand_69 (by decide) (fun _ => ?_) (fun q => absurd q (by decide))
  refine z_aload_n 3 dX9_carryOutCommand_109 rfl rfl ?_
  refine z_getsW 2 (by decide) zw_591 dX9_carryOutCommand_110 ?_
  refine z_acmp_ne (i := 2) (j := 2) (tgt := 138) (by decide) (by decide) dX9_carryOutCommand_113 (by decide) (fun q => absurd rfl q) (fun _ => ?_)
  refine z_aload_n 4 dX9_carryOutCommand_116 rfl rfl ?_
  refine z_get (v := .ref 1) 0 zgo_0 rfl inX9 (by decide) zw_312 rfl rfl dX9_carryOutCommand_117 ?_
  refine z_getN (v := .ref 12) 10 zgo_1 rfl inX4 (by decide) (by decide) rfl rfl dX9_carryOutCommand_120 ?_
  refine z_iload_n 2 dX9_carryOutCommand_123 rfl rfl ?_
  refine z_iload_n 1 dX9_carryOutCommand_124 rfl rfl ?_
  refine z_iload 0 dX9_carryOutCommand_125 rfl ?_
  refine z_i2f dX9_carryOutCommand_127 ?_
  refine z_callSO (N := mX7_bitsOf) 1 [.float (FP.i2f (nI (zNu num 2)))] [.int (nI (zNu num 1)), .int (nI (zNu num 0)), .ref 12] lX7_bitsOf ⟨zw_362, zw_363⟩ rfl rfl (Nat.le_of_ble_eq_true rfl) (by decide) ⟨zlt, zlt⟩ hG ⟨Nat.zero_le _, Nat.zero_le _⟩ (c_bitsOf hG zlt (FP.i2f (nI (zNu num 2))) (fp_i2f _ (by omega))) dX9_carryOutCommand_128 ?_
  refine z_callV (N := mX5_include) 3 [.int (nI (zNu num 0)), .int (nI (zNu num 1)), .int (zBo (FP.i2f (nI (zNu num 2))))] [] lX5_include ⟨zw_671, zw_672, zw_673⟩ rfl zgo_12 rfl rfl (Nat.le_of_ble_eq_true rfl) (by decide) ⟨zlt, zlt⟩ ⟨Nat.zero_le _, Nat.zero_le _⟩ zal (c_include hG hc hr hw hn hn16 (nI (zNu num 0)) (nI (zNu num 1)) (zBo (FP.i2f (nI (zNu num 2))))) dX9_carryOutCommand_131 ?_
  refine z_pop dX9_carryOutCommand_134 rfl ?_
  refine z_goto (tgt := 231) dX9_carryOutCommand_135 (by decide) ?_
  exact z_vret rfl dX9_carryOutCommand_231 ho9.symm (zo_h hh9 (by rfl)) (Nat.zero_le _) (Nat.zero_le _)

set_option maxHeartbeats 4000000 in
set_option maxRecDepth 100000 in
theorem c_coc_3 {G : zT} {c r w lim cnt : Nat} {tol : Int32} {cart wov lot sew mis col len lef sbt : Nat → Int32} {shd : Nat → UInt32} {sa sb sc sd : zS} {hcn hnx tln pos : Nat} {byt num : Nat → Int32} {flt : Int32} {Y : zYr} {out : Nat → Int64} (hG : zAl G = false) (hc : c ≤ 20) (hr : r ≤ 16) (hw : w ≤ r) (hn : cnt ≤ 16) (ht : tln ≤ 150) (hpt : pos ≤ tln) (hl : lim ≤ 16) (hs : ∀ j, zFinS (shd j)) (hnm : zNmOk num) (hn9 : zNu num 0 ≤ 16) : zRun G mX9_carryOutCommand 0 0 [.ref 0] (zHp (c, r, w, lim, tol, cart, wov, lot, sew, mis, cnt, col, len, lef, sbt, shd) (sa, sb, sc, sd, hcn, hnx, byt, tln, num, (1000 + 3), pos, flt) Y out) (.inr none) (zHp (c, r, (zWs9 c r cnt cart col (zNu num 0) (w, wov, lot, lef, mis)).2.1, lim, tol, cart, (zWs9 c r cnt cart col (zNu num 0) (w, wov, lot, lef, mis)).2.2.1, (zWs9 c r cnt cart col (zNu num 0) (w, wov, lot, lef, mis)).2.2.2.1, sew, (zWs9 c r cnt cart col (zNu num 0) (w, wov, lot, lef, mis)).2.2.2.2.2, cnt, col, len, (zWs9 c r cnt cart col (zNu num 0) (w, wov, lot, lef, mis)).2.2.2.2.1, sbt, shd) (sa, sb, sc, sd, hcn, hnx, byt, tln, num, (1000 + 3), pos, flt) Y out) := by
  have hn09 := (zNu_ok hnm 0).2
  have hn19 := (zNu_ok hnm 1).2
  have hn29 := (zNu_ok hnm 2).2
  have hn39 := (zNu_ok hnm 3).2
  have hn49 := (zNu_ok hnm 4).2
  refine zRun_of (by decide +kernel) rfl rfl (Nat.le_of_ble_eq_true rfl) ?_
  suffices hs : ∀ (o9 : zO) (h9 : zH), (Sum.inr none : zO) = o9 → (zHp (c, r, (zWs9 c r cnt cart col (zNu num 0) (w, wov, lot, lef, mis)).2.1, lim, tol, cart, (zWs9 c r cnt cart col (zNu num 0) (w, wov, lot, lef, mis)).2.2.1, (zWs9 c r cnt cart col (zNu num 0) (w, wov, lot, lef, mis)).2.2.2.1, sew, (zWs9 c r cnt cart col (zNu num 0) (w, wov, lot, lef, mis)).2.2.2.2.2, cnt, col, len, (zWs9 c r cnt cart col (zNu num 0) (w, wov, lot, lef, mis)).2.2.2.2.1, sbt, shd) (sa, sb, sc, sd, hcn, hnx, byt, tln, num, (1000 + 3), pos, flt) Y out) = h9 → zPW G mX9_carryOutCommand 0 0 o9 h9 0 0 0 [(0, .ref 0)] [] (zHp (c, r, w, lim, tol, cart, wov, lot, sew, mis, cnt, col, len, lef, sbt, shd) (sa, sb, sc, sd, hcn, hnx, byt, tln, num, (1000 + 3), pos, flt) Y out) from hs _ _ rfl rfl
  intro o9 h9 ho9 hh9
  refine z_aload_n 0 dX9_carryOutCommand_0 rfl rfl ?_
  refine z_get (v := .ref 111) 3 zgo_0 rfl inX9 (by decide) zw_315 rfl rfl dX9_carryOutCommand_1 ?_
  refine z_getN (v := .ref ((1000 + 3))) 2 zgo_111 rfl inX0 (by decide) (by decide) rfl rfl dX9_carryOutCommand_4 ?_
  refine z_astore_n (lv' := [(1, .ref ((1000 + 3))), (0, .ref 0)]) dX9_carryOutCommand_7 rfl (by decide) rfl ?_
  refine z_aload_n 1 dX9_carryOutCommand_8 rfl rfl ?_
  refine z_get (v := .ref 111) 3 zgo_0 rfl inX9 (by decide) zw_315 rfl rfl dX9_carryOutCommand_9 ?_
  refine z_getN (v := .ref 112) 1 zgo_111 rfl inX0 (by decide) (by decide) rfl rfl dX9_carryOutCommand_12 ?_
  refine z_iconst (v := 0) dX9_carryOutCommand_15 (by decide) ?_
  refine z_callV (N := mX6_at) 1 [.int 0] [] lX6_at ⟨zw_570, zw_383, zw_384⟩ rfl zgo_112 rfl rfl (Nat.le_of_ble_eq_true rfl) (by decide) ⟨zlt, zlt⟩ ⟨Nat.zero_le _, Nat.zero_le _⟩ (fun _ => rfl) (c_nAt (g := 112) (v := 113) (n := 5) (f := num) (by omega) zlt zgo_112 zga_113 0) dX9_carryOutCommand_16 ?_
  refine z_top (v2 := .int (nI (zNu num 0))) (by rw [show zAtN 5 num 0 = nI (zNu num 0) from zNu_at hnm 0 (by decide)]) ?_
  refine z_istore_n (lv' := [(2, .int (nI (zNu num 0))), (1, .ref ((1000 + 3))), (0, .ref 0)]) dX9_carryOutCommand_19 rfl (by decide) rfl ?_
  refine z_aload_n 2 dX9_carryOutCommand_20 rfl rfl ?_
  refine z_get (v := .ref 111) 3 zgo_0 rfl inX9 (by decide) zw_315 rfl rfl dX9_carryOutCommand_21 ?_
  refine z_getN (v := .ref 112) 1 zgo_111 rfl inX0 (by decide) (by decide) rfl rfl dX9_carryOutCommand_24 ?_
  refine z_iconst (v := 1) dX9_carryOutCommand_27 (by decide) ?_
  refine z_callV (N := mX6_at) 1 [.int 1] [] lX6_at ⟨zw_570, zw_383, zw_384⟩ rfl zgo_112 rfl rfl (Nat.le_of_ble_eq_true rfl) (by decide) ⟨zlt, zlt⟩ ⟨Nat.zero_le _, Nat.zero_le _⟩ (fun _ => rfl) (c_nAt (g := 112) (v := 113) (n := 5) (f := num) (by omega) zlt zgo_112 zga_113 1) dX9_carryOutCommand_28 ?_
  refine z_top (v2 := .int (nI (zNu num 1))) (by rw [show zAtN 5 num 1 = nI (zNu num 1) from zNu_at hnm 1 (by decide)]) ?_
  refine z_istore_n (lv' := [(3, .int (nI (zNu num 1))), (2, .int (nI (zNu num 0))), (1, .ref ((1000 + 3))), (0, .ref 0)]) dX9_carryOutCommand_31 rfl (by decide) rfl ?_
  refine z_aload_n 3 dX9_carryOutCommand_32 rfl rfl ?_
  refine z_get (v := .ref 111) 3 zgo_0 rfl inX9 (by decide) zw_315 rfl rfl dX9_carryOutCommand_33 ?_
  refine z_getN (v := .ref 112) 1 zgo_111 rfl inX0 (by decide) (by decide) rfl rfl dX9_carryOutCommand_36 ?_
  refine z_iconst (v := 2) dX9_carryOutCommand_39 (by decide) ?_
  refine z_callV (N := mX6_at) 1 [.int 2] [] lX6_at ⟨zw_570, zw_383, zw_384⟩ rfl zgo_112 rfl rfl (Nat.le_of_ble_eq_true rfl) (by decide) ⟨zlt, zlt⟩ ⟨Nat.zero_le _, Nat.zero_le _⟩ (fun _ => rfl) (c_nAt (g := 112) (v := 113) (n := 5) (f := num) (by omega) zlt zgo_112 zga_113 2) dX9_carryOutCommand_40 ?_
  refine z_top (v2 := .int (nI (zNu num 2))) (by rw [show zAtN 5 num 2 = nI (zNu num 2) from zNu_at hnm 2 (by decide)]) ?_
  refine z_istore (lv' := [(4, .int (nI (zNu num 2))), (3, .int (nI (zNu num 1))), (2, .int (nI (zNu num 0))), (1, .ref ((1000 + 3))), (0, .ref 0)]) dX9_carryOutCommand_43 (by decide) rfl ?_
  refine z_aload_n 3 dX9_carryOutCommand_45 rfl rfl ?_
  refine z_getsW 0 (by decide) zw_571 dX9_carryOutCommand_46 ?_
  refine z_acmp_ne (i := 3) (j := 0) (tgt := 65) (by decide) (by decide) dX9_carryOutCommand_49 (by decide) (fun _ => ?_) (fun q => absurd q (by decide))
  refine z_aload_n 3 dX9_carryOutCommand_65 rfl rfl ?_
  refine z_getsW 1 (by decide) zw_577 dX9_carryOutCommand_66 ?_
  refine z_acmp_ne (i := 3) (j := 1) (tgt := 109) (by decide) (by decide) dX9_carryOutCommand_69 (by decide) (fun _ => ?_) (fun q => absurd q (by decide))
  refine z_aload_n 3 dX9_carryOutCommand_109 rfl rfl ?_
  refine z_getsW 2 (by decide) zw_591 dX9_carryOutCommand_110 ?_
  refine z_acmp_ne (i := 3) (j := 2) (tgt := 138) (by decide) (by decide) dX9_carryOutCommand_113 (by decide) (fun _ => ?_) (fun q => absurd q (by decide))
  refine z_aload_n 3 dX9_carryOutCommand_138 rfl rfl ?_
  refine z_getsW 3 (by decide) zw_603 dX9_carryOutCommand_139 ?_
  refine z_acmp_ne (i := 3) (j := 3) (tgt := 157) (by decide) (by decide) dX9_carryOutCommand_142 (by decide) (fun q => absurd rfl q) (fun _ => ?_)
  refine z_aload_n 4 dX9_carryOutCommand_145 rfl rfl ?_
  refine z_get (v := .ref 1) 0 zgo_0 rfl inX9 (by decide) zw_312 rfl rfl dX9_carryOutCommand_146 ?_
  refine z_iload_n 2 dX9_carryOutCommand_149 rfl rfl ?_
  refine z_callV (N := mX4_weaveRows) 1 [.int (nI (zNu num 0))] [] lX4_weaveRows ⟨zw_683, zw_684, zw_685⟩ rfl zgo_1 rfl rfl (Nat.le_of_ble_eq_true rfl) (by decide) ⟨zlt, zlt⟩ ⟨Nat.zero_le _, Nat.zero_le _⟩ zal (c_weaveRows hG hc hr hw hn (zNu num 0) (by omega)) dX9_carryOutCommand_150 ?_
  refine z_pop dX9_carryOutCommand_153 rfl ?_
  refine z_goto (tgt := 231) dX9_carryOutCommand_154 (by decide) ?_
  exact z_vret rfl dX9_carryOutCommand_231 ho9.symm (zo_h hh9 (by rfl)) (Nat.zero_le _) (Nat.zero_le _)

set_option maxHeartbeats 4000000 in
set_option maxRecDepth 100000 in
theorem c_coc_4 {G : zT} {c r w lim cnt : Nat} {tol : Int32} {cart wov lot sew mis col len lef sbt : Nat → Int32} {shd : Nat → UInt32} {sa sb sc sd : zS} {hcn hnx tln pos : Nat} {byt num : Nat → Int32} {flt : Int32} {Y : zYr} {out : Nat → Int64} (hG : zAl G = false) (hc : c ≤ 20) (hr : r ≤ 16) (hw : w ≤ r) (hn : cnt ≤ 16) (ht : tln ≤ 150) (hpt : pos ≤ tln) (hl : lim ≤ 16) (hs : ∀ j, zFinS (shd j)) (hnm : zNmOk num) (hnw : zNu num 0 ≤ w) : zRun G mX9_carryOutCommand 0 0 [.ref 0] (zHp (c, r, w, lim, tol, cart, wov, lot, sew, mis, cnt, col, len, lef, sbt, shd) (sa, sb, sc, sd, hcn, hnx, byt, tln, num, (1000 + 4), pos, flt) Y out) (.inr none) (zHp (c, r, (w - (zNu num 0)), lim, tol, cart, wov, lot, (zFg wov sew c (w - (zNu num 0)) lim), mis, cnt, col, len, (zUw lot c w (zNu num 0) lef), sbt, shd) (sa, sb, sc, sd, hcn, hnx, byt, tln, num, (1000 + 4), pos, flt) Y out) := by
  have hn09 := (zNu_ok hnm 0).2
  have hn19 := (zNu_ok hnm 1).2
  have hn29 := (zNu_ok hnm 2).2
  have hn39 := (zNu_ok hnm 3).2
  have hn49 := (zNu_ok hnm 4).2
  refine zRun_of (by decide +kernel) rfl rfl (Nat.le_of_ble_eq_true rfl) ?_
  suffices hs : ∀ (o9 : zO) (h9 : zH), (Sum.inr none : zO) = o9 → (zHp (c, r, (w - (zNu num 0)), lim, tol, cart, wov, lot, (zFg wov sew c (w - (zNu num 0)) lim), mis, cnt, col, len, (zUw lot c w (zNu num 0) lef), sbt, shd) (sa, sb, sc, sd, hcn, hnx, byt, tln, num, (1000 + 4), pos, flt) Y out) = h9 → zPW G mX9_carryOutCommand 0 0 o9 h9 0 0 0 [(0, .ref 0)] [] (zHp (c, r, w, lim, tol, cart, wov, lot, sew, mis, cnt, col, len, lef, sbt, shd) (sa, sb, sc, sd, hcn, hnx, byt, tln, num, (1000 + 4), pos, flt) Y out) from hs _ _ rfl rfl
  intro o9 h9 ho9 hh9
  refine z_aload_n 0 dX9_carryOutCommand_0 rfl rfl ?_
  refine z_get (v := .ref 111) 3 zgo_0 rfl inX9 (by decide) zw_315 rfl rfl dX9_carryOutCommand_1 ?_
  refine z_getN (v := .ref ((1000 + 4))) 2 zgo_111 rfl inX0 (by decide) (by decide) rfl rfl dX9_carryOutCommand_4 ?_
  refine z_astore_n (lv' := [(1, .ref ((1000 + 4))), (0, .ref 0)]) dX9_carryOutCommand_7 rfl (by decide) rfl ?_
  refine z_aload_n 1 dX9_carryOutCommand_8 rfl rfl ?_
  refine z_get (v := .ref 111) 3 zgo_0 rfl inX9 (by decide) zw_315 rfl rfl dX9_carryOutCommand_9 ?_
  refine z_getN (v := .ref 112) 1 zgo_111 rfl inX0 (by decide) (by decide) rfl rfl dX9_carryOutCommand_12 ?_
  refine z_iconst (v := 0) dX9_carryOutCommand_15 (by decide) ?_
  refine z_callV (N := mX6_at) 1 [.int 0] [] lX6_at ⟨zw_570, zw_383, zw_384⟩ rfl zgo_112 rfl rfl (Nat.le_of_ble_eq_true rfl) (by decide) ⟨zlt, zlt⟩ ⟨Nat.zero_le _, Nat.zero_le _⟩ (fun _ => rfl) (c_nAt (g := 112) (v := 113) (n := 5) (f := num) (by omega) zlt zgo_112 zga_113 0) dX9_carryOutCommand_16 ?_
  refine z_top (v2 := .int (nI (zNu num 0))) (by rw [show zAtN 5 num 0 = nI (zNu num 0) from zNu_at hnm 0 (by decide)]) ?_
  refine z_istore_n (lv' := [(2, .int (nI (zNu num 0))), (1, .ref ((1000 + 4))), (0, .ref 0)]) dX9_carryOutCommand_19 rfl (by decide) rfl ?_
  refine z_aload_n 2 dX9_carryOutCommand_20 rfl rfl ?_
  refine z_get (v := .ref 111) 3 zgo_0 rfl inX9 (by decide) zw_315 rfl rfl dX9_carryOutCommand_21 ?_
  refine z_getN (v := .ref 112) 1 zgo_111 rfl inX0 (by decide) (by decide) rfl rfl dX9_carryOutCommand_24 ?_
  refine z_iconst (v := 1) dX9_carryOutCommand_27 (by decide) ?_
  refine z_callV (N := mX6_at) 1 [.int 1] [] lX6_at ⟨zw_570, zw_383, zw_384⟩ rfl zgo_112 rfl rfl (Nat.le_of_ble_eq_true rfl) (by decide) ⟨zlt, zlt⟩ ⟨Nat.zero_le _, Nat.zero_le _⟩ (fun _ => rfl) (c_nAt (g := 112) (v := 113) (n := 5) (f := num) (by omega) zlt zgo_112 zga_113 1) dX9_carryOutCommand_28 ?_
  refine z_top (v2 := .int (nI (zNu num 1))) (by rw [show zAtN 5 num 1 = nI (zNu num 1) from zNu_at hnm 1 (by decide)]) ?_
  refine z_istore_n (lv' := [(3, .int (nI (zNu num 1))), (2, .int (nI (zNu num 0))), (1, .ref ((1000 + 4))), (0, .ref 0)]) dX9_carryOutCommand_31 rfl (by decide) rfl ?_
  refine z_aload_n 3 dX9_carryOutCommand_32 rfl rfl ?_
  refine z_get (v := .ref 111) 3 zgo_0 rfl inX9 (by decide) zw_315 rfl rfl dX9_carryOutCommand_33 ?_
  refine z_getN (v := .ref 112) 1 zgo_111 rfl inX0 (by decide) (by decide) rfl rfl dX9_carryOutCommand_36 ?_
  refine z_iconst (v := 2) dX9_carryOutCommand_39 (by decide) ?_
  refine z_callV (N := mX6_at) 1 [.int 2] [] lX6_at ⟨zw_570, zw_383, zw_384⟩ rfl zgo_112 rfl rfl (Nat.le_of_ble_eq_true rfl) (by decide) ⟨zlt, zlt⟩ ⟨Nat.zero_le _, Nat.zero_le _⟩ (fun _ => rfl) (c_nAt (g := 112) (v := 113) (n := 5) (f := num) (by omega) zlt zgo_112 zga_113 2) dX9_carryOutCommand_40 ?_
  refine z_top (v2 := .int (nI (zNu num 2))) (by rw [show zAtN 5 num 2 = nI (zNu num 2) from zNu_at hnm 2 (by decide)]) ?_
  refine z_istore (lv' := [(4, .int (nI (zNu num 2))), (3, .int (nI (zNu num 1))), (2, .int (nI (zNu num 0))), (1, .ref ((1000 + 4))), (0, .ref 0)]) dX9_carryOutCommand_43 (by decide) rfl ?_
  refine z_aload_n 3 dX9_carryOutCommand_45 rfl rfl ?_
  refine z_getsW 0 (by decide) zw_571 dX9_carryOutCommand_46 ?_
  refine z_acmp_ne (i := 4) (j := 0) (tgt := 65) (by decide) (by decide) dX9_carryOutCommand_49 (by decide) (fun _ => ?_) (fun q => absurd q (by decide))
  refine z_aload_n 3 dX9_carryOutCommand_65 rfl rfl ?_
  refine z_getsW 1 (by decide) zw_577 dX9_carryOutCommand_66 ?_
  refine z_acmp_ne (i := 4) (j := 1) (tgt := 109) (by decide) (by decide) dX9_carryOutCommand_69 (by decide) (fun _ => ?_) (fun q => absurd q (by decide))
  refine z_aload_n 3 dX9_carryOutCommand_109 rfl rfl ?_
  refine z_getsW 2 (by decide) zw_591 dX9_carryOutCommand_110 ?_
  refine z_acmp_ne (i := 4) (j := 2) (tgt := 138) (by decide) (by decide) dX9_carryOutCommand_113 (by decide) (fun _ => ?_) (fun q => absurd q (by decide))
  refine z_aload_n 3 dX9_carryOutCommand_138 rfl rfl ?_
  refine z_getsW 3 (by decide) zw_603 dX9_carryOutCommand_139 ?_
  refine z_acmp_ne (i := 4) (j := 3) (tgt := 157) (by decide) (by decide) dX9_carryOutCommand_142 (by decide) (fun _ => ?_) (fun q => absurd q (by decide))
  refine z_aload_n 3 dX9_carryOutCommand_157 rfl rfl ?_
  refine z_getsW 4 (by decide) zw_609 dX9_carryOutCommand_158 ?_
  refine z_acmp_ne (i := 4) (j := 4) (tgt := 176) (by decide) (by decide) dX9_carryOutCommand_161 (by decide) (fun q => absurd rfl q) (fun _ => ?_)
  refine z_aload_n 4 dX9_carryOutCommand_164 rfl rfl ?_
  refine z_get (v := .ref 1) 0 zgo_0 rfl inX9 (by decide) zw_312 rfl rfl dX9_carryOutCommand_165 ?_
  refine z_iload_n 2 dX9_carryOutCommand_168 rfl rfl ?_
  refine z_callV (N := mX4_unweaveRows) 1 [.int (nI (zNu num 0))] [] lX4_unweaveRows ⟨zw_712, zw_713, zw_714⟩ rfl zgo_1 rfl rfl (Nat.le_of_ble_eq_true rfl) (by decide) ⟨zlt, zlt⟩ ⟨Nat.zero_le _, Nat.zero_le _⟩ zal (c_unweaveRows hG hc hr hw hn hl (zNu num 0) hnw) dX9_carryOutCommand_169 ?_
  refine z_pop dX9_carryOutCommand_172 rfl ?_
  refine z_goto (tgt := 231) dX9_carryOutCommand_173 (by decide) ?_
  exact z_vret rfl dX9_carryOutCommand_231 ho9.symm (zo_h hh9 (by rfl)) (Nat.zero_le _) (Nat.zero_le _)

set_option maxHeartbeats 4000000 in
set_option maxRecDepth 100000 in
theorem c_coc_5 {G : zT} {c r w lim cnt : Nat} {tol : Int32} {cart wov lot sew mis col len lef sbt : Nat → Int32} {shd : Nat → UInt32} {sa sb sc sd : zS} {hcn hnx tln pos : Nat} {byt num : Nat → Int32} {flt : Int32} {Y : zYr} {out : Nat → Int64} (hG : zAl G = false) (hc : c ≤ 20) (hr : r ≤ 16) (hw : w ≤ r) (hn : cnt ≤ 16) (ht : tln ≤ 150) (hpt : pos ≤ tln) (hl : lim ≤ 16) (hs : ∀ j, zFinS (shd j)) (hnm : zNmOk num) : zRun G mX9_carryOutCommand 0 0 [.ref 0] (zHp (c, r, w, lim, tol, cart, wov, lot, sew, mis, cnt, col, len, lef, sbt, shd) (sa, sb, sc, sd, hcn, hnx, byt, tln, num, (1000 + 5), pos, flt) Y out) (.inr none) (zHp (c, r, w, lim, tol, cart, wov, lot, sew, (zPutN 20 mis (nI (zNu num 0)) (nI (zNu num 1))), cnt, col, len, lef, sbt, shd) (sa, sb, sc, sd, hcn, hnx, byt, tln, num, (1000 + 5), pos, flt) Y out) := by
  have hn09 := (zNu_ok hnm 0).2
  have hn19 := (zNu_ok hnm 1).2
  have hn29 := (zNu_ok hnm 2).2
  have hn39 := (zNu_ok hnm 3).2
  have hn49 := (zNu_ok hnm 4).2
  refine zRun_of (by decide +kernel) rfl rfl (Nat.le_of_ble_eq_true rfl) ?_
  suffices hs : ∀ (o9 : zO) (h9 : zH), (Sum.inr none : zO) = o9 → (zHp (c, r, w, lim, tol, cart, wov, lot, sew, (zPutN 20 mis (nI (zNu num 0)) (nI (zNu num 1))), cnt, col, len, lef, sbt, shd) (sa, sb, sc, sd, hcn, hnx, byt, tln, num, (1000 + 5), pos, flt) Y out) = h9 → zPW G mX9_carryOutCommand 0 0 o9 h9 0 0 0 [(0, .ref 0)] [] (zHp (c, r, w, lim, tol, cart, wov, lot, sew, mis, cnt, col, len, lef, sbt, shd) (sa, sb, sc, sd, hcn, hnx, byt, tln, num, (1000 + 5), pos, flt) Y out) from hs _ _ rfl rfl
  intro o9 h9 ho9 hh9
  refine z_aload_n 0 dX9_carryOutCommand_0 rfl rfl ?_
  refine z_get (v := .ref 111) 3 zgo_0 rfl inX9 (by decide) zw_315 rfl rfl dX9_carryOutCommand_1 ?_
  refine z_getN (v := .ref ((1000 + 5))) 2 zgo_111 rfl inX0 (by decide) (by decide) rfl rfl dX9_carryOutCommand_4 ?_
  refine z_astore_n (lv' := [(1, .ref ((1000 + 5))), (0, .ref 0)]) dX9_carryOutCommand_7 rfl (by decide) rfl ?_
  refine z_aload_n 1 dX9_carryOutCommand_8 rfl rfl ?_
  refine z_get (v := .ref 111) 3 zgo_0 rfl inX9 (by decide) zw_315 rfl rfl dX9_carryOutCommand_9 ?_
  refine z_getN (v := .ref 112) 1 zgo_111 rfl inX0 (by decide) (by decide) rfl rfl dX9_carryOutCommand_12 ?_
  refine z_iconst (v := 0) dX9_carryOutCommand_15 (by decide) ?_
  refine z_callV (N := mX6_at) 1 [.int 0] [] lX6_at ⟨zw_570, zw_383, zw_384⟩ rfl zgo_112 rfl rfl (Nat.le_of_ble_eq_true rfl) (by decide) ⟨zlt, zlt⟩ ⟨Nat.zero_le _, Nat.zero_le _⟩ (fun _ => rfl) (c_nAt (g := 112) (v := 113) (n := 5) (f := num) (by omega) zlt zgo_112 zga_113 0) dX9_carryOutCommand_16 ?_
  refine z_top (v2 := .int (nI (zNu num 0))) (by rw [show zAtN 5 num 0 = nI (zNu num 0) from zNu_at hnm 0 (by decide)]) ?_
  refine z_istore_n (lv' := [(2, .int (nI (zNu num 0))), (1, .ref ((1000 + 5))), (0, .ref 0)]) dX9_carryOutCommand_19 rfl (by decide) rfl ?_
  refine z_aload_n 2 dX9_carryOutCommand_20 rfl rfl ?_
  refine z_get (v := .ref 111) 3 zgo_0 rfl inX9 (by decide) zw_315 rfl rfl dX9_carryOutCommand_21 ?_
  refine z_getN (v := .ref 112) 1 zgo_111 rfl inX0 (by decide) (by decide) rfl rfl dX9_carryOutCommand_24 ?_
  refine z_iconst (v := 1) dX9_carryOutCommand_27 (by decide) ?_
  refine z_callV (N := mX6_at) 1 [.int 1] [] lX6_at ⟨zw_570, zw_383, zw_384⟩ rfl zgo_112 rfl rfl (Nat.le_of_ble_eq_true rfl) (by decide) ⟨zlt, zlt⟩ ⟨Nat.zero_le _, Nat.zero_le _⟩ (fun _ => rfl) (c_nAt (g := 112) (v := 113) (n := 5) (f := num) (by omega) zlt zgo_112 zga_113 1) dX9_carryOutCommand_28 ?_
  refine z_top (v2 := .int (nI (zNu num 1))) (by rw [show zAtN 5 num 1 = nI (zNu num 1) from zNu_at hnm 1 (by decide)]) ?_
  refine z_istore_n (lv' := [(3, .int (nI (zNu num 1))), (2, .int (nI (zNu num 0))), (1, .ref ((1000 + 5))), (0, .ref 0)]) dX9_carryOutCommand_31 rfl (by decide) rfl ?_
  refine z_aload_n 3 dX9_carryOutCommand_32 rfl rfl ?_
  refine z_get (v := .ref 111) 3 zgo_0 rfl inX9 (by decide) zw_315 rfl rfl dX9_carryOutCommand_33 ?_
  refine z_getN (v := .ref 112) 1 zgo_111 rfl inX0 (by decide) (by decide) rfl rfl dX9_carryOutCommand_36 ?_
  refine z_iconst (v := 2) dX9_carryOutCommand_39 (by decide) ?_
  refine z_callV (N := mX6_at) 1 [.int 2] [] lX6_at ⟨zw_570, zw_383, zw_384⟩ rfl zgo_112 rfl rfl (Nat.le_of_ble_eq_true rfl) (by decide) ⟨zlt, zlt⟩ ⟨Nat.zero_le _, Nat.zero_le _⟩ (fun _ => rfl) (c_nAt (g := 112) (v := 113) (n := 5) (f := num) (by omega) zlt zgo_112 zga_113 2) dX9_carryOutCommand_40 ?_
  refine z_top (v2 := .int (nI (zNu num 2))) (by rw [show zAtN 5 num 2 = nI (zNu num 2) from zNu_at hnm 2 (by decide)]) ?_
  refine z_istore (lv' := [(4, .int (nI (zNu num 2))), (3, .int (nI (zNu num 1))), (2, .int (nI (zNu num 0))), (1, .ref ((1000 + 5))), (0, .ref 0)]) dX9_carryOutCommand_43 (by decide) rfl ?_
  refine z_aload_n 3 dX9_carryOutCommand_45 rfl rfl ?_
  refine z_getsW 0 (by decide) zw_571 dX9_carryOutCommand_46 ?_
  refine z_acmp_ne (i := 5) (j := 0) (tgt := 65) (by decide) (by decide) dX9_carryOutCommand_49 (by decide) (fun _ => ?_) (fun q => absurd q (by decide))
  refine z_aload_n 3 dX9_carryOutCommand_65 rfl rfl ?_
  refine z_getsW 1 (by decide) zw_577 dX9_carryOutCommand_66 ?_
  refine z_acmp_ne (i := 5) (j := 1) (tgt := 109) (by decide) (by decide) dX9_carryOutCommand_69 (by decide) (fun _ => ?_) (fun q => absurd q (by decide))
  refine z_aload_n 3 dX9_carryOutCommand_109 rfl rfl ?_
  refine z_getsW 2 (by decide) zw_591 dX9_carryOutCommand_110 ?_
  refine z_acmp_ne (i := 5) (j := 2) (tgt := 138) (by decide) (by decide) dX9_carryOutCommand_113 (by decide) (fun _ => ?_) (fun q => absurd q (by decide))
  refine z_aload_n 3 dX9_carryOutCommand_138 rfl rfl ?_
  refine z_getsW 3 (by decide) zw_603 dX9_carryOutCommand_139 ?_
  refine z_acmp_ne (i := 5) (j := 3) (tgt := 157) (by decide) (by decide) dX9_carryOutCommand_142 (by decide) (fun _ => ?_) (fun q => absurd q (by decide))
  refine z_aload_n 3 dX9_carryOutCommand_157 rfl rfl ?_
  refine z_getsW 4 (by decide) zw_609 dX9_carryOutCommand_158 ?_
  refine z_acmp_ne (i := 5) (j := 4) (tgt := 176) (by decide) (by decide) dX9_carryOutCommand_161 (by decide) (fun _ => ?_) (fun q => absurd q (by decide))
  refine z_aload_n 3 dX9_carryOutCommand_176 rfl rfl ?_
  refine z_getsW 5 (by decide) zw_615 dX9_carryOutCommand_177 ?_
  refine z_acmp_ne (i := 5) (j := 5) (tgt := 196) (by decide) (by decide) dX9_carryOutCommand_180 (by decide) (fun q => absurd rfl q) (fun _ => ?_)
  refine z_aload_n 4 dX9_carryOutCommand_183 rfl rfl ?_
  refine z_get (v := .ref 1) 0 zgo_0 rfl inX9 (by decide) zw_312 rfl rfl dX9_carryOutCommand_184 ?_
  refine z_iload_n 2 dX9_carryOutCommand_187 rfl rfl ?_
  refine z_iload_n 1 dX9_carryOutCommand_188 rfl rfl ?_
  refine z_callV (N := mX4_plantMistake) 2 [.int (nI (zNu num 0)), .int (nI (zNu num 1))] [] lX4_plantMistake ⟨zw_724, zw_725, zw_726⟩ rfl zgo_1 rfl rfl (Nat.le_of_ble_eq_true rfl) (by decide) ⟨zlt, zlt⟩ ⟨Nat.zero_le _, Nat.zero_le _⟩ zal (c_plant hG hc hr hw hn (nI (zNu num 0)) (nI (zNu num 1))) dX9_carryOutCommand_189 ?_
  refine z_pop dX9_carryOutCommand_192 rfl ?_
  refine z_goto (tgt := 231) dX9_carryOutCommand_193 (by decide) ?_
  exact z_vret rfl dX9_carryOutCommand_231 ho9.symm (zo_h hh9 (by rfl)) (Nat.zero_le _) (Nat.zero_le _)

set_option maxHeartbeats 4000000 in
set_option maxRecDepth 100000 in
theorem c_coc_6 {G : zT} {c r w lim cnt : Nat} {tol : Int32} {cart wov lot sew mis col len lef sbt : Nat → Int32} {shd : Nat → UInt32} {sa sb sc sd : zS} {hcn hnx tln pos : Nat} {byt num : Nat → Int32} {flt : Int32} {Y : zYr} {out : Nat → Int64} (hG : zAl G = false) (hc : c ≤ 20) (hr : r ≤ 16) (hw : w ≤ r) (hn : cnt ≤ 16) (ht : tln ≤ 150) (hpt : pos ≤ tln) (hl : lim ≤ 16) (hs : ∀ j, zFinS (shd j)) (hnm : zNmOk num) : zRun G mX9_carryOutCommand 0 0 [.ref 0] (zHp (c, r, w, lim, tol, cart, wov, lot, sew, mis, cnt, col, len, lef, sbt, shd) (sa, sb, sc, sd, hcn, hnx, byt, tln, num, (1000 + 6), pos, flt) Y out) (.inr none) (zHp (c, r, w, lim, tol, cart, wov, lot, (zSwS wov sew c w lim (nI (zNu num 0))), mis, cnt, col, len, lef, sbt, shd) (sa, sb, sc, sd, hcn, hnx, byt, tln, num, (1000 + 6), pos, flt) Y out) := by
  have hn09 := (zNu_ok hnm 0).2
  have hn19 := (zNu_ok hnm 1).2
  have hn29 := (zNu_ok hnm 2).2
  have hn39 := (zNu_ok hnm 3).2
  have hn49 := (zNu_ok hnm 4).2
  refine zRun_of (by decide +kernel) rfl rfl (Nat.le_of_ble_eq_true rfl) ?_
  suffices hs : ∀ (o9 : zO) (h9 : zH), (Sum.inr none : zO) = o9 → (zHp (c, r, w, lim, tol, cart, wov, lot, (zSwS wov sew c w lim (nI (zNu num 0))), mis, cnt, col, len, lef, sbt, shd) (sa, sb, sc, sd, hcn, hnx, byt, tln, num, (1000 + 6), pos, flt) Y out) = h9 → zPW G mX9_carryOutCommand 0 0 o9 h9 0 0 0 [(0, .ref 0)] [] (zHp (c, r, w, lim, tol, cart, wov, lot, sew, mis, cnt, col, len, lef, sbt, shd) (sa, sb, sc, sd, hcn, hnx, byt, tln, num, (1000 + 6), pos, flt) Y out) from hs _ _ rfl rfl
  intro o9 h9 ho9 hh9
  refine z_aload_n 0 dX9_carryOutCommand_0 rfl rfl ?_
  refine z_get (v := .ref 111) 3 zgo_0 rfl inX9 (by decide) zw_315 rfl rfl dX9_carryOutCommand_1 ?_
  refine z_getN (v := .ref ((1000 + 6))) 2 zgo_111 rfl inX0 (by decide) (by decide) rfl rfl dX9_carryOutCommand_4 ?_
  refine z_astore_n (lv' := [(1, .ref ((1000 + 6))), (0, .ref 0)]) dX9_carryOutCommand_7 rfl (by decide) rfl ?_
  refine z_aload_n 1 dX9_carryOutCommand_8 rfl rfl ?_
  refine z_get (v := .ref 111) 3 zgo_0 rfl inX9 (by decide) zw_315 rfl rfl dX9_carryOutCommand_9 ?_
  refine z_getN (v := .ref 112) 1 zgo_111 rfl inX0 (by decide) (by decide) rfl rfl dX9_carryOutCommand_12 ?_
  refine z_iconst (v := 0) dX9_carryOutCommand_15 (by decide) ?_
  refine z_callV (N := mX6_at) 1 [.int 0] [] lX6_at ⟨zw_570, zw_383, zw_384⟩ rfl zgo_112 rfl rfl (Nat.le_of_ble_eq_true rfl) (by decide) ⟨zlt, zlt⟩ ⟨Nat.zero_le _, Nat.zero_le _⟩ (fun _ => rfl) (c_nAt (g := 112) (v := 113) (n := 5) (f := num) (by omega) zlt zgo_112 zga_113 0) dX9_carryOutCommand_16 ?_
  refine z_top (v2 := .int (nI (zNu num 0))) (by rw [show zAtN 5 num 0 = nI (zNu num 0) from zNu_at hnm 0 (by decide)]) ?_
  refine z_istore_n (lv' := [(2, .int (nI (zNu num 0))), (1, .ref ((1000 + 6))), (0, .ref 0)]) dX9_carryOutCommand_19 rfl (by decide) rfl ?_
  refine z_aload_n 2 dX9_carryOutCommand_20 rfl rfl ?_
  refine z_get (v := .ref 111) 3 zgo_0 rfl inX9 (by decide) zw_315 rfl rfl dX9_carryOutCommand_21 ?_
  refine z_getN (v := .ref 112) 1 zgo_111 rfl inX0 (by decide) (by decide) rfl rfl dX9_carryOutCommand_24 ?_
  refine z_iconst (v := 1) dX9_carryOutCommand_27 (by decide) ?_
  refine z_callV (N := mX6_at) 1 [.int 1] [] lX6_at ⟨zw_570, zw_383, zw_384⟩ rfl zgo_112 rfl rfl (Nat.le_of_ble_eq_true rfl) (by decide) ⟨zlt, zlt⟩ ⟨Nat.zero_le _, Nat.zero_le _⟩ (fun _ => rfl) (c_nAt (g := 112) (v := 113) (n := 5) (f := num) (by omega) zlt zgo_112 zga_113 1) dX9_carryOutCommand_28 ?_
  refine z_top (v2 := .int (nI (zNu num 1))) (by rw [show zAtN 5 num 1 = nI (zNu num 1) from zNu_at hnm 1 (by decide)]) ?_
  refine z_istore_n (lv' := [(3, .int (nI (zNu num 1))), (2, .int (nI (zNu num 0))), (1, .ref ((1000 + 6))), (0, .ref 0)]) dX9_carryOutCommand_31 rfl (by decide) rfl ?_
  refine z_aload_n 3 dX9_carryOutCommand_32 rfl rfl ?_
  refine z_get (v := .ref 111) 3 zgo_0 rfl inX9 (by decide) zw_315 rfl rfl dX9_carryOutCommand_33 ?_
  refine z_getN (v := .ref 112) 1 zgo_111 rfl inX0 (by decide) (by decide) rfl rfl dX9_carryOutCommand_36 ?_
  refine z_iconst (v := 2) dX9_carryOutCommand_39 (by decide) ?_
  refine z_callV (N := mX6_at) 1 [.int 2] [] lX6_at ⟨zw_570, zw_383, zw_384⟩ rfl zgo_112 rfl rfl (Nat.le_of_ble_eq_true rfl) (by decide) ⟨zlt, zlt⟩ ⟨Nat.zero_le _, Nat.zero_le _⟩ (fun _ => rfl) (c_nAt (g := 112) (v := 113) (n := 5) (f := num) (by omega) zlt zgo_112 zga_113 2) dX9_carryOutCommand_40 ?_
  refine z_top (v2 := .int (nI (zNu num 2))) (by rw [show zAtN 5 num 2 = nI (zNu num 2) from zNu_at hnm 2 (by decide)]) ?_
  refine z_istore (lv' := [(4, .int (nI (zNu num 2))), (3, .int (nI (zNu num 1))), (2, .int (nI (zNu num 0))), (1, .ref ((1000 + 6))), (0, .ref 0)]) dX9_carryOutCommand_43 (by decide) rfl ?_
  refine z_aload_n 3 dX9_carryOutCommand_45 rfl rfl ?_
  refine z_getsW 0 (by decide) zw_571 dX9_carryOutCommand_46 ?_
  refine z_acmp_ne (i := 6) (j := 0) (tgt := 65) (by decide) (by decide) dX9_carryOutCommand_49 (by decide) (fun _ => ?_) (fun q => absurd q (by decide))
  refine z_aload_n 3 dX9_carryOutCommand_65 rfl rfl ?_
  refine z_getsW 1 (by decide) zw_577 dX9_carryOutCommand_66 ?_
  refine z_acmp_ne (i := 6) (j := 1) (tgt := 109) (by decide) (by decide) dX9_carryOutCommand_69 (by decide) (fun _ => ?_) (fun q => absurd q (by decide))
  refine z_aload_n 3 dX9_carryOutCommand_109 rfl rfl ?_
  refine z_getsW 2 (by decide) zw_591 dX9_carryOutCommand_110 ?_
  refine z_acmp_ne (i := 6) (j := 2) (tgt := 138) (by decide) (by decide) dX9_carryOutCommand_113 (by decide) (fun _ => ?_) (fun q => absurd q (by decide))
  refine z_aload_n 3 dX9_carryOutCommand_138 rfl rfl ?_
  refine z_getsW 3 (by decide) zw_603 dX9_carryOutCommand_139 ?_
  refine z_acmp_ne (i := 6) (j := 3) (tgt := 157) (by decide) (by decide) dX9_carryOutCommand_142 (by decide) (fun _ => ?_) (fun q => absurd q (by decide))
  refine z_aload_n 3 dX9_carryOutCommand_157 rfl rfl ?_
  refine z_getsW 4 (by decide) zw_609 dX9_carryOutCommand_158 ?_
  refine z_acmp_ne (i := 6) (j := 4) (tgt := 176) (by decide) (by decide) dX9_carryOutCommand_161 (by decide) (fun _ => ?_) (fun q => absurd q (by decide))
  refine z_aload_n 3 dX9_carryOutCommand_176 rfl rfl ?_
  refine z_getsW 5 (by decide) zw_615 dX9_carryOutCommand_177 ?_
  refine z_acmp_ne (i := 6) (j := 5) (tgt := 196) (by decide) (by decide) dX9_carryOutCommand_180 (by decide) (fun _ => ?_) (fun q => absurd q (by decide))
  refine z_aload_n 3 dX9_carryOutCommand_196 rfl rfl ?_
  refine z_getsW 6 (by decide) zw_621 dX9_carryOutCommand_197 ?_
  refine z_acmp_ne (i := 6) (j := 6) (tgt := 215) (by decide) (by decide) dX9_carryOutCommand_200 (by decide) (fun q => absurd rfl q) (fun _ => ?_)
  refine z_aload_n 4 dX9_carryOutCommand_203 rfl rfl ?_
  refine z_get (v := .ref 1) 0 zgo_0 rfl inX9 (by decide) zw_312 rfl rfl dX9_carryOutCommand_204 ?_
  refine z_iload_n 2 dX9_carryOutCommand_207 rfl rfl ?_
  refine z_callV (N := mX4_sewSlit) 1 [.int (nI (zNu num 0))] [] lX4_sewSlit ⟨zw_733, zw_734, zw_735⟩ rfl zgo_1 rfl rfl (Nat.le_of_ble_eq_true rfl) (by decide) ⟨zlt, zlt⟩ ⟨Nat.zero_le _, Nat.zero_le _⟩ zal (c_sewSlit hG hc hr hw hn hl (nI (zNu num 0))) dX9_carryOutCommand_208 ?_
  refine z_pop dX9_carryOutCommand_211 rfl ?_
  refine z_goto (tgt := 231) dX9_carryOutCommand_212 (by decide) ?_
  exact z_vret rfl dX9_carryOutCommand_231 ho9.symm (zo_h hh9 (by rfl)) (Nat.zero_le _) (Nat.zero_le _)

set_option maxHeartbeats 4000000 in
set_option maxRecDepth 100000 in
theorem c_coc_7 {G : zT} {c r w lim cnt : Nat} {tol : Int32} {cart wov lot sew mis col len lef sbt : Nat → Int32} {shd : Nat → UInt32} {sa sb sc sd : zS} {hcn hnx tln pos : Nat} {byt num : Nat → Int32} {flt : Int32} {Y : zYr} {out : Nat → Int64} (hG : zAl G = false) (hc : c ≤ 20) (hr : r ≤ 16) (hw : w ≤ r) (hn : cnt ≤ 16) (ht : tln ≤ 150) (hpt : pos ≤ tln) (hl : lim ≤ 16) (hs : ∀ j, zFinS (shd j)) (hnm : zNmOk num) (ha16 : zNu num 0 ≤ 16) : zRun G mX9_carryOutCommand 0 0 [.ref 0] (zHp (c, r, w, lim, tol, cart, wov, lot, sew, mis, cnt, col, len, lef, sbt, shd) (sa, sb, sc, sd, hcn, hnx, byt, tln, num, (1000 + 7), pos, flt) Y out) (.inr none) (zHp (c, r, w, (zNu num 0), tol, cart, wov, lot, (zFg wov sew c w (zNu num 0)), mis, cnt, col, len, lef, sbt, shd) (sa, sb, sc, sd, hcn, hnx, byt, tln, num, (1000 + 7), pos, flt) Y out) := by
  have hn09 := (zNu_ok hnm 0).2
  have hn19 := (zNu_ok hnm 1).2
  have hn29 := (zNu_ok hnm 2).2
  have hn39 := (zNu_ok hnm 3).2
  have hn49 := (zNu_ok hnm 4).2
  refine zRun_of (by decide +kernel) rfl rfl (Nat.le_of_ble_eq_true rfl) ?_
  suffices hs : ∀ (o9 : zO) (h9 : zH), (Sum.inr none : zO) = o9 → (zHp (c, r, w, (zNu num 0), tol, cart, wov, lot, (zFg wov sew c w (zNu num 0)), mis, cnt, col, len, lef, sbt, shd) (sa, sb, sc, sd, hcn, hnx, byt, tln, num, (1000 + 7), pos, flt) Y out) = h9 → zPW G mX9_carryOutCommand 0 0 o9 h9 0 0 0 [(0, .ref 0)] [] (zHp (c, r, w, lim, tol, cart, wov, lot, sew, mis, cnt, col, len, lef, sbt, shd) (sa, sb, sc, sd, hcn, hnx, byt, tln, num, (1000 + 7), pos, flt) Y out) from hs _ _ rfl rfl
  intro o9 h9 ho9 hh9
  refine z_aload_n 0 dX9_carryOutCommand_0 rfl rfl ?_
  refine z_get (v := .ref 111) 3 zgo_0 rfl inX9 (by decide) zw_315 rfl rfl dX9_carryOutCommand_1 ?_
  refine z_getN (v := .ref ((1000 + 7))) 2 zgo_111 rfl inX0 (by decide) (by decide) rfl rfl dX9_carryOutCommand_4 ?_
  refine z_astore_n (lv' := [(1, .ref ((1000 + 7))), (0, .ref 0)]) dX9_carryOutCommand_7 rfl (by decide) rfl ?_
  refine z_aload_n 1 dX9_carryOutCommand_8 rfl rfl ?_
  refine z_get (v := .ref 111) 3 zgo_0 rfl inX9 (by decide) zw_315 rfl rfl dX9_carryOutCommand_9 ?_
  refine z_getN (v := .ref 112) 1 zgo_111 rfl inX0 (by decide) (by decide) rfl rfl dX9_carryOutCommand_12 ?_
  refine z_iconst (v := 0) dX9_carryOutCommand_15 (by decide) ?_
  refine z_callV (N := mX6_at) 1 [.int 0] [] lX6_at ⟨zw_570, zw_383, zw_384⟩ rfl zgo_112 rfl rfl (Nat.le_of_ble_eq_true rfl) (by decide) ⟨zlt, zlt⟩ ⟨Nat.zero_le _, Nat.zero_le _⟩ (fun _ => rfl) (c_nAt (g := 112) (v := 113) (n := 5) (f := num) (by omega) zlt zgo_112 zga_113 0) dX9_carryOutCommand_16 ?_
  refine z_top (v2 := .int (nI (zNu num 0))) (by rw [show zAtN 5 num 0 = nI (zNu num 0) from zNu_at hnm 0 (by decide)]) ?_
  refine z_istore_n (lv' := [(2, .int (nI (zNu num 0))), (1, .ref ((1000 + 7))), (0, .ref 0)]) dX9_carryOutCommand_19 rfl (by decide) rfl ?_
  refine z_aload_n 2 dX9_carryOutCommand_20 rfl rfl ?_
  refine z_get (v := .ref 111) 3 zgo_0 rfl inX9 (by decide) zw_315 rfl rfl dX9_carryOutCommand_21 ?_
  refine z_getN (v := .ref 112) 1 zgo_111 rfl inX0 (by decide) (by decide) rfl rfl dX9_carryOutCommand_24 ?_
  refine z_iconst (v := 1) dX9_carryOutCommand_27 (by decide) ?_
  refine z_callV (N := mX6_at) 1 [.int 1] [] lX6_at ⟨zw_570, zw_383, zw_384⟩ rfl zgo_112 rfl rfl (Nat.le_of_ble_eq_true rfl) (by decide) ⟨zlt, zlt⟩ ⟨Nat.zero_le _, Nat.zero_le _⟩ (fun _ => rfl) (c_nAt (g := 112) (v := 113) (n := 5) (f := num) (by omega) zlt zgo_112 zga_113 1) dX9_carryOutCommand_28 ?_
  refine z_top (v2 := .int (nI (zNu num 1))) (by rw [show zAtN 5 num 1 = nI (zNu num 1) from zNu_at hnm 1 (by decide)]) ?_
  refine z_istore_n (lv' := [(3, .int (nI (zNu num 1))), (2, .int (nI (zNu num 0))), (1, .ref ((1000 + 7))), (0, .ref 0)]) dX9_carryOutCommand_31 rfl (by decide) rfl ?_
  refine z_aload_n 3 dX9_carryOutCommand_32 rfl rfl ?_
  refine z_get (v := .ref 111) 3 zgo_0 rfl inX9 (by decide) zw_315 rfl rfl dX9_carryOutCommand_33 ?_
  refine z_getN (v := .ref 112) 1 zgo_111 rfl inX0 (by decide) (by decide) rfl rfl dX9_carryOutCommand_36 ?_
  refine z_iconst (v := 2) dX9_carryOutCommand_39 (by decide) ?_
  refine z_callV (N := mX6_at) 1 [.int 2] [] lX6_at ⟨zw_570, zw_383, zw_384⟩ rfl zgo_112 rfl rfl (Nat.le_of_ble_eq_true rfl) (by decide) ⟨zlt, zlt⟩ ⟨Nat.zero_le _, Nat.zero_le _⟩ (fun _ => rfl) (c_nAt (g := 112) (v := 113) (n := 5) (f := num) (by omega) zlt zgo_112 zga_113 2) dX9_carryOutCommand_40 ?_
  refine z_top (v2 := .int (nI (zNu num 2))) (by rw [show zAtN 5 num 2 = nI (zNu num 2) from zNu_at hnm 2 (by decide)]) ?_
  refine z_istore (lv' := [(4, .int (nI (zNu num 2))), (3, .int (nI (zNu num 1))), (2, .int (nI (zNu num 0))), (1, .ref ((1000 + 7))), (0, .ref 0)]) dX9_carryOutCommand_43 (by decide) rfl ?_
  refine z_aload_n 3 dX9_carryOutCommand_45 rfl rfl ?_
  refine z_getsW 0 (by decide) zw_571 dX9_carryOutCommand_46 ?_
  refine z_acmp_ne (i := 7) (j := 0) (tgt := 65) (by decide) (by decide) dX9_carryOutCommand_49 (by decide) (fun _ => ?_) (fun q => absurd q (by decide))
  refine z_aload_n 3 dX9_carryOutCommand_65 rfl rfl ?_
  refine z_getsW 1 (by decide) zw_577 dX9_carryOutCommand_66 ?_
  refine z_acmp_ne (i := 7) (j := 1) (tgt := 109) (by decide) (by decide) dX9_carryOutCommand_69 (by decide) (fun _ => ?_) (fun q => absurd q (by decide))
  refine z_aload_n 3 dX9_carryOutCommand_109 rfl rfl ?_
  refine z_getsW 2 (by decide) zw_591 dX9_carryOutCommand_110 ?_
  refine z_acmp_ne (i := 7) (j := 2) (tgt := 138) (by decide) (by decide) dX9_carryOutCommand_113 (by decide) (fun _ => ?_) (fun q => absurd q (by decide))
  refine z_aload_n 3 dX9_carryOutCommand_138 rfl rfl ?_
  refine z_getsW 3 (by decide) zw_603 dX9_carryOutCommand_139 ?_
  refine z_acmp_ne (i := 7) (j := 3) (tgt := 157) (by decide) (by decide) dX9_carryOutCommand_142 (by decide) (fun _ => ?_) (fun q => absurd q (by decide))
  refine z_aload_n 3 dX9_carryOutCommand_157 rfl rfl ?_
  refine z_getsW 4 (by decide) zw_609 dX9_carryOutCommand_158 ?_
  refine z_acmp_ne (i := 7) (j := 4) (tgt := 176) (by decide) (by decide) dX9_carryOutCommand_161 (by decide) (fun _ => ?_) (fun q => absurd q (by decide))
  refine z_aload_n 3 dX9_carryOutCommand_176 rfl rfl ?_
  refine z_getsW 5 (by decide) zw_615 dX9_carryOutCommand_177 ?_
  refine z_acmp_ne (i := 7) (j := 5) (tgt := 196) (by decide) (by decide) dX9_carryOutCommand_180 (by decide) (fun _ => ?_) (fun q => absurd q (by decide))
  refine z_aload_n 3 dX9_carryOutCommand_196 rfl rfl ?_
  refine z_getsW 6 (by decide) zw_621 dX9_carryOutCommand_197 ?_
  refine z_acmp_ne (i := 7) (j := 6) (tgt := 215) (by decide) (by decide) dX9_carryOutCommand_200 (by decide) (fun _ => ?_) (fun q => absurd q (by decide))
  refine z_aload_n 3 dX9_carryOutCommand_215 rfl rfl ?_
  refine z_getsW 7 (by decide) zw_750 dX9_carryOutCommand_216 ?_
  refine z_acmp_ne (i := 7) (j := 7) (tgt := 231) (by decide) (by decide) dX9_carryOutCommand_219 (by decide) (fun q => absurd rfl q) (fun _ => ?_)
  refine z_aload_n 4 dX9_carryOutCommand_222 rfl rfl ?_
  refine z_get (v := .ref 1) 0 zgo_0 rfl inX9 (by decide) zw_312 rfl rfl dX9_carryOutCommand_223 ?_
  refine z_iload_n 2 dX9_carryOutCommand_226 rfl rfl ?_
  refine z_callV (N := mX4_changeLimit) 1 [.int (nI (zNu num 0))] [] lX4_changeLimit ⟨zw_752, zw_753, zw_754⟩ rfl zgo_1 rfl rfl (Nat.le_of_ble_eq_true rfl) (by decide) ⟨zlt, zlt⟩ ⟨Nat.zero_le _, Nat.zero_le _⟩ zal (c_changeLimit hG hc hr hw hn (zNu num 0) (by omega)) dX9_carryOutCommand_227 ?_
  refine z_pop dX9_carryOutCommand_230 rfl ?_
  exact z_vret rfl dX9_carryOutCommand_231 ho9.symm (zo_h hh9 (by rfl)) (Nat.zero_le _) (Nat.zero_le _)

