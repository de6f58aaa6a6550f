def zCd (num : Nat → Int32) (j : Nat) (S : zS) : zS := match j with
  | 0 => ((zNu num 0), (zNu num 1), 0, S.2.2.2.1, S.2.2.2.2.1, (zFl (fun _ => 0) S.2.2.2.2.2.1 320), S.2.2.2.2.2.2.1, S.2.2.2.2.2.2.2.1, (zFl (fun _ => 0) S.2.2.2.2.2.2.2.2.1 320), (zFl (fun _ => (-1)) S.2.2.2.2.2.2.2.2.2.1 20), S.2.2.2.2.2.2.2.2.2.2.1, S.2.2.2.2.2.2.2.2.2.2.2.1, S.2.2.2.2.2.2.2.2.2.2.2.2.1, S.2.2.2.2.2.2.2.2.2.2.2.2.2.1, S.2.2.2.2.2.2.2.2.2.2.2.2.2.2.1, S.2.2.2.2.2.2.2.2.2.2.2.2.2.2.2)
  | 1 => (S.1, S.2.1, S.2.2.1, S.2.2.2.1, S.2.2.2.2.1, (zPt S.1 (zNu num 0) (zNu num 1) (zNu num 2) (zNu num 3) (nI (zNu num 4)) S.2.2.2.2.2.1).1, S.2.2.2.2.2.2.1, S.2.2.2.2.2.2.2.1, S.2.2.2.2.2.2.2.2.1, S.2.2.2.2.2.2.2.2.2.1, S.2.2.2.2.2.2.2.2.2.2.1, S.2.2.2.2.2.2.2.2.2.2.2.1, S.2.2.2.2.2.2.2.2.2.2.2.2.1, S.2.2.2.2.2.2.2.2.2.2.2.2.2.1, S.2.2.2.2.2.2.2.2.2.2.2.2.2.2.1, S.2.2.2.2.2.2.2.2.2.2.2.2.2.2.2)
  | 2 => (S.1, S.2.1, S.2.2.1, S.2.2.2.1, S.2.2.2.2.1, S.2.2.2.2.2.1, S.2.2.2.2.2.2.1, S.2.2.2.2.2.2.2.1, S.2.2.2.2.2.2.2.2.1, S.2.2.2.2.2.2.2.2.2.1, (S.2.2.2.2.2.2.2.2.2.2.1 + 1), (zPutN 16 S.2.2.2.2.2.2.2.2.2.2.2.1 (nI S.2.2.2.2.2.2.2.2.2.2.1) (nI (zNu num 0))), (zPutN 16 S.2.2.2.2.2.2.2.2.2.2.2.2.1 (nI S.2.2.2.2.2.2.2.2.2.2.1) (nI (zNu num 1))), (zPutN 16 S.2.2.2.2.2.2.2.2.2.2.2.2.2.1 (nI S.2.2.2.2.2.2.2.2.2.2.1) (nI (zNu num 1))), (zPutN 16 S.2.2.2.2.2.2.2.2.2.2.2.2.2.2.1 (nI S.2.2.2.2.2.2.2.2.2.2.1) (zBo (FP.i2f (nI (zNu num 2))))), (zPutS S.2.2.2.2.2.2.2.2.2.2.2.2.2.2.2 (nI S.2.2.2.2.2.2.2.2.2.2.1) (zFb (zBo (FP.i2f (nI (zNu num 2)))))))
  | 3 => (S.1, S.2.1, (zWs9 S.1 S.2.1 S.2.2.2.2.2.2.2.2.2.2.1 S.2.2.2.2.2.1 S.2.2.2.2.2.2.2.2.2.2.2.1 (zNu num 0) (S.2.2.1, S.2.2.2.2.2.2.1, S.2.2.2.2.2.2.2.1, S.2.2.2.2.2.2.2.2.2.2.2.2.2.1, S.2.2.2.2.2.2.2.2.2.1)).2.1, S.2.2.2.1, S.2.2.2.2.1, S.2.2.2.2.2.1, (zWs9 S.1 S.2.1 S.2.2.2.2.2.2.2.2.2.2.1 S.2.2.2.2.2.1 S.2.2.2.2.2.2.2.2.2.2.2.1 (zNu num 0) (S.2.2.1, S.2.2.2.2.2.2.1, S.2.2.2.2.2.2.2.1, S.2.2.2.2.2.2.2.2.2.2.2.2.2.1, S.2.2.2.2.2.2.2.2.2.1)).2.2.1, (zWs9 S.1 S.2.1 S.2.2.2.2.2.2.2.2.2.2.1 S.2.2.2.2.2.1 S.2.2.2.2.2.2.2.2.2.2.2.1 (zNu num 0) (S.2.2.1, S.2.2.2.2.2.2.1, S.2.2.2.2.2.2.2.1, S.2.2.2.2.2.2.2.2.2.2.2.2.2.1, S.2.2.2.2.2.2.2.2.2.1)).2.2.2.1, S.2.2.2.2.2.2.2.2.1, (zWs9 S.1 S.2.1 S.2.2.2.2.2.2.2.2.2.2.1 S.2.2.2.2.2.1 S.2.2.2.2.2.2.2.2.2.2.2.1 (zNu num 0) (S.2.2.1, S.2.2.2.2.2.2.1, S.2.2.2.2.2.2.2.1, S.2.2.2.2.2.2.2.2.2.2.2.2.2.1, S.2.2.2.2.2.2.2.2.2.1)).2.2.2.2.2, S.2.2.2.2.2.2.2.2.2.2.1, S.2.2.2.2.2.2.2.2.2.2.2.1, S.2.2.2.2.2.2.2.2.2.2.2.2.1, (zWs9 S.1 S.2.1 S.2.2.2.2.2.2.2.2.2.2.1 S.2.2.2.2.2.1 S.2.2.2.2.2.2.2.2.2.2.2.1 (zNu num 0) (S.2.2.1, S.2.2.2.2.2.2.1, S.2.2.2.2.2.2.2.1, S.2.2.2.2.2.2.2.2.2.2.2.2.2.1, S.2.2.2.2.2.2.2.2.2.1)).2.2.2.2.1, S.2.2.2.2.2.2.2.2.2.2.2.2.2.2.1, S.2.2.2.2.2.2.2.2.2.2.2.2.2.2.2)
  | 4 => (S.1, S.2.1, (S.2.2.1 - (zNu num 0)), S.2.2.2.1, S.2.2.2.2.1, S.2.2.2.2.2.1, S.2.2.2.2.2.2.1, S.2.2.2.2.2.2.2.1, (zFg S.2.2.2.2.2.2.1 S.2.2.2.2.2.2.2.2.1 S.1 (S.2.2.1 - (zNu num 0)) S.2.2.2.1), S.2.2.2.2.2.2.2.2.2.1, S.2.2.2.2.2.2.2.2.2.2.1, S.2.2.2.2.2.2.2.2.2.2.2.1, S.2.2.2.2.2.2.2.2.2.2.2.2.1, (zUw S.2.2.2.2.2.2.2.1 S.1 S.2.2.1 (zNu num 0) S.2.2.2.2.2.2.2.2.2.2.2.2.2.1), S.2.2.2.2.2.2.2.2.2.2.2.2.2.2.1, S.2.2.2.2.2.2.2.2.2.2.2.2.2.2.2)
  | 5 => (S.1, S.2.1, S.2.2.1, S.2.2.2.1, S.2.2.2.2.1, S.2.2.2.2.2.1, S.2.2.2.2.2.2.1, S.2.2.2.2.2.2.2.1, S.2.2.2.2.2.2.2.2.1, (zPutN 20 S.2.2.2.2.2.2.2.2.2.1 (nI (zNu num 0)) (nI (zNu num 1))), S.2.2.2.2.2.2.2.2.2.2.1, S.2.2.2.2.2.2.2.2.2.2.2.1, S.2.2.2.2.2.2.2.2.2.2.2.2.1, S.2.2.2.2.2.2.2.2.2.2.2.2.2.1, S.2.2.2.2.2.2.2.2.2.2.2.2.2.2.1, S.2.2.2.2.2.2.2.2.2.2.2.2.2.2.2)
  | 6 => (S.1, S.2.1, S.2.2.1, S.2.2.2.1, S.2.2.2.2.1, S.2.2.2.2.2.1, S.2.2.2.2.2.2.1, S.2.2.2.2.2.2.2.1, (zSwS S.2.2.2.2.2.2.1 S.2.2.2.2.2.2.2.2.1 S.1 S.2.2.1 S.2.2.2.1 (nI (zNu num 0))), S.2.2.2.2.2.2.2.2.2.1, S.2.2.2.2.2.2.2.2.2.2.1, S.2.2.2.2.2.2.2.2.2.2.2.1, S.2.2.2.2.2.2.2.2.2.2.2.2.1, S.2.2.2.2.2.2.2.2.2.2.2.2.2.1, S.2.2.2.2.2.2.2.2.2.2.2.2.2.2.1, S.2.2.2.2.2.2.2.2.2.2.2.2.2.2.2)
  | 7 => (S.1, S.2.1, S.2.2.1, (zNu num 0), S.2.2.2.2.1, S.2.2.2.2.2.1, S.2.2.2.2.2.2.1, S.2.2.2.2.2.2.2.1, (zFg S.2.2.2.2.2.2.1 S.2.2.2.2.2.2.2.2.1 S.1 S.2.2.1 (zNu num 0)), S.2.2.2.2.2.2.2.2.2.1, S.2.2.2.2.2.2.2.2.2.2.1, S.2.2.2.2.2.2.2.2.2.2.2.1, S.2.2.2.2.2.2.2.2.2.2.2.2.1, S.2.2.2.2.2.2.2.2.2.2.2.2.2.1, S.2.2.2.2.2.2.2.2.2.2.2.2.2.2.1, S.2.2.2.2.2.2.2.2.2.2.2.2.2.2.2)
  | _ => S
def zCq (num : Nat → Int32) (j : Nat) (S : zS) : Int32 := zCw S.1 S.2.1 S.2.2.1 S.2.2.2.1 S.2.2.2.2.2.2.2.2.2.2.1 S.2.2.2.2.2.2.1 S.2.2.2.2.2.2.2.2.1 num j
/-- a loom that can be worked on -/
def zSk9 (S : zS) : Prop := 1 ≤ S.1 ∧ S.1 ≤ 20 ∧ 1 ≤ S.2.1 ∧ S.2.1 ≤ 16 ∧ S.2.2.1 ≤ S.2.1 ∧ S.2.2.2.2.2.2.2.2.2.2.1 ≤ 16 ∧ S.2.2.2.1 ≤ 16 ∧ ∀ j, zFinS (S.2.2.2.2.2.2.2.2.2.2.2.2.2.2.2 j)
theorem zFr0_in {v : Int32} {n : Nat} (hn : n < 2 ^ 31) : zFr 0 v (nI n - 1) = zIn v (nI n) := by
  rw [show (0 : Int32) = nI 0 from nI_0.symm, show (1 : Int32) = nI 1 from nI_one.symm]
  exact zFr_in hn
theorem zFr1_n {n b : Nat} (hn : n < 2 ^ 31) (hb : b < 2 ^ 31) (h : zFr 1 (nI n) (nI b) = true) : 1 ≤ n ∧ n ≤ b := by
  rw [show (1 : Int32) = nI 1 from nI_one.symm] at h
  exact ⟨zFr_g (by decide) h, zFr_n hn hb h⟩
theorem zWs9_le {c r cnt : Nat} {cart col : Nat → Int32} : ∀ (n : Nat) (t : zWt), t.1 ≤ r → (zWs9 c r cnt cart col n t).2.1 ≤ r
  | 0, _, h => h
  | n + 1, t, h => by
    have h1 := zWvn_le (c := c) (cnt := cnt) (cart := cart) (col := col) h
    unfold zWs9
    split
    · exact zWs9_le n _ h1
    · exact h1
/-- what the refusal's number says of a fill -/
theorem zCq_1 {num : Nat → Int32} {S : zS} (hk : zSk9 S) (hnm : zNmOk num) (h : zCq num 1 S = 0) : zNu num 0 ≤ zNu num 2 ∧ zNu num 2 < S.1 ∧ zNu num 1 ≤ zNu num 3 ∧ zNu num 3 < S.2.1 := by
  have b0 := (zNu_ok hnm 0).2
  have b1 := (zNu_ok hnm 1).2
  have b2 := (zNu_ok hnm 2).2
  have b3 := (zNu_ok hnm 3).2
  obtain ⟨-, k1, -, k2, -⟩ := hk
  unfold zCq zCw at h
  simp only at h
  rw [zFr0_in (by omega), zFr0_in (by omega), zFr0_in (by omega), zFr0_in (by omega), zIn_n (by omega) (by omega), zIn_n (by omega) (by omega), zIn_n (by omega) (by omega), zIn_n (by omega) (by omega)] at h
  split at h
  · rename_i q
    rw [Bool.and_eq_true, Bool.and_eq_true, Bool.and_eq_true] at q
    split at h
    · exact absurd h (by decide)
    · rename_i q1
      split at h
      · exact absurd h (by decide)
      · rename_i q2
        exact ⟨m_nlt (by omega) (by omega) q1, of_decide_eq_true q.2.1, m_nlt (by omega) (by omega) q2, of_decide_eq_true q.2.2⟩
  · exact absurd h (by decide)
theorem zCq_3 {num : Nat → Int32} {S : zS} (hnm : zNmOk num) (h : zCq num 3 S = 0) : zNu num 0 ≤ 16 := by
  have b0 := (zNu_ok hnm 0).2
  unfold zCq zCw at h
  simp only at h
  split at h
  · rename_i q
    exact (zFr1_n (by omega) (by decide) q).2
  · exact absurd h (by decide)
theorem zCq_7 {num : Nat → Int32} {S : zS} (hnm : zNmOk num) (h : zCq num 7 S = 0) : 1 ≤ zNu num 0 ∧ zNu num 0 ≤ 16 := by
  have b0 := (zNu_ok hnm 0).2
  unfold zCq zCw at h
  simp only at h
  split at h
  · rename_i q
    exact zFr1_n (by omega) (by decide) q
  · exact absurd h (by decide)
theorem zCq_0 {num : Nat → Int32} {S : zS} (hnm : zNmOk num) (h : zCq num 0 S = 0) : (1 ≤ zNu num 0 ∧ zNu num 0 ≤ 20) ∧ 1 ≤ zNu num 1 ∧ zNu num 1 ≤ 16 := by
  have b0 := (zNu_ok hnm 0).2
  have b1 := (zNu_ok hnm 1).2
  unfold zCq zCw at h
  simp only at h
  split at h
  · rename_i q
    rw [Bool.and_eq_true] at q
    exact ⟨zFr1_n (by omega) (by decide) q.1, zFr1_n (by omega) (by decide) q.2⟩
  · exact absurd h (by decide)
theorem zCq_2 {num : Nat → Int32} {S : zS} (hk : zSk9 S) (h : zCq num 2 S = 0) : S.2.2.2.2.2.2.2.2.2.2.1 < 16 ∧ rShd (zBo (FP.i2f (nI (zNu num 2)))) = true := by
  obtain ⟨-, -, -, -, -, k2, -⟩ := hk
  unfold zCq zCw at h
  simp only at h
  split at h
  · rename_i q
    rw [Bool.and_eq_true, Bool.and_eq_true] at q
    split at h
    · exact absurd h (by decide)
    · rename_i q2
      refine ⟨m_nle (by decide) (by omega) q2, ?_⟩
      unfold rShd
      rw [show nI 0 = 0 from nI_0]
      exact q.2.2
  · exact absurd h (by decide)
theorem zCq_4 {num : Nat → Int32} {S : zS} (hk : zSk9 S) (hnm : zNmOk num) (h : zCq num 4 S = 0) : zNu num 0 ≤ S.2.2.1 := by
  have b0 := (zNu_ok hnm 0).2
  obtain ⟨-, -, -, k1, k2, -⟩ := hk
  unfold zCq zCw at h
  simp only at h
  split at h
  · split at h
    · exact absurd h (by decide)
    · rename_i q
      exact m_nlt (by omega) (by omega) q
  · exact absurd h (by decide)
theorem zPutS_ok {f : Nat → UInt32} {i : Int32} {x : UInt32} (hf : ∀ j, zFinS (f j)) (hx : zFinS x) : ∀ j, zFinS (zPutS f i x j) := by
  intro j
  unfold zPutS
  split
  · exact hf j
  · split
    · exact hf j
    · show zFinS (if j = i.toNatClampNeg then x else f j)
      split
      · exact hx
      · exact hf j
/-- a command leaves a loom that can be worked on -/
theorem zCd_ok {num : Nat → Int32} {j : Nat} {S : zS} (hk : zSk9 S) (hnm : zNmOk num) (h : zCq num j S = 0) : zSk9 (zCd num j S) := by
  have hk9 := hk
  obtain ⟨k1, k2, k3, k4, k5, k6, k7, k8⟩ := hk
  unfold zCd
  split
  · have q := zCq_0 hnm h
    exact ⟨q.1.1, q.1.2, q.2.1, q.2.2, Nat.zero_le _, k6, k7, k8⟩
  · exact ⟨k1, k2, k3, k4, k5, k6, k7, k8⟩
  · have q := zCq_2 hk9 h
    exact ⟨k1, k2, k3, k4, k5, q.1, k7, zPutS_ok k8 (fy_fin (rShd_v.mp q.2))⟩
  · exact ⟨k1, k2, k3, k4, zWs9_le _ _ k5, k6, k7, k8⟩
  · exact ⟨k1, k2, k3, k4, Nat.le_trans (Nat.sub_le _ _) k5, k6, k7, k8⟩
  · exact ⟨k1, k2, k3, k4, k5, k6, k7, k8⟩
  · exact ⟨k1, k2, k3, k4, k5, k6, k7, k8⟩
  · have q := zCq_7 hnm h
    exact ⟨k1, k2, k3, k4, k5, k6, q.2, k8⟩
  · exact ⟨k1, k2, k3, k4, k5, k6, k7, k8⟩

theorem c_wnq {G : zT} {S : zS} {sa sb sc sd : zS} {hcn hnx tln pos j : Nat} {byt num : Nat → Int32} {flt : Int32} {Y : zYr} {out : Nat → Int64} (hG : zAl G = false) (ht : tln ≤ 150) (hpt : pos ≤ tln) (hk : zSk9 S) (hnm : zNmOk num) (hj : j < 8) : zRun G mX9_whyNotCommand 0 0 [.ref 0] (zHp S (sa, sb, sc, sd, hcn, hnx, byt, tln, num, (1000 + j), pos, flt) Y out) (.inr (some (.int (zCq num j S)))) (zHp S (sa, sb, sc, sd, hcn, hnx, byt, tln, num, (1000 + j), pos, flt) Y out) :=
  c_wnc (c := S.1) (r := S.2.1) (w := S.2.2.1) (lim := S.2.2.2.1) (cnt := S.2.2.2.2.2.2.2.2.2.2.1) hG hk.2.1 hk.2.2.2.1 hk.2.2.2.2.1 hk.2.2.2.2.2.1 ht hpt hk.2.2.2.2.2.2.1 hk.2.2.2.2.2.2.2 hnm hj
theorem c_cod {G : zT} {S : zS} {sa sb sc sd : zS} {hcn hnx tln pos j : Nat} {byt num : Nat → Int32} {flt : Int32} {Y : zYr} {out : Nat → Int64} (hG : zAl G = false) (ht : tln ≤ 150) (hpt : pos ≤ tln) (hk : zSk9 S) (hnm : zNmOk num) (hj : j < 8) (hz : zCq num j S = 0) : zRun G mX9_carryOutCommand 0 0 [.ref 0] (zHp S (sa, sb, sc, sd, hcn, hnx, byt, tln, num, (1000 + j), pos, flt) Y out) (.inr none) (zHp (zCd num j S) (sa, sb, sc, sd, hcn, hnx, byt, tln, num, (1000 + j), pos, flt) Y out) := by
  rcases (show j = 0 ∨ j = 1 ∨ j = 2 ∨ j = 3 ∨ j = 4 ∨ j = 5 ∨ j = 6 ∨ j = 7 by omega) with rfl | rfl | rfl | rfl | rfl | rfl | rfl | rfl
  · exact c_coc_0 (c := S.1) (r := S.2.1) (w := S.2.2.1) (lim := S.2.2.2.1) (cnt := S.2.2.2.2.2.2.2.2.2.2.1) hG hk.2.1 hk.2.2.2.1 hk.2.2.2.2.1 hk.2.2.2.2.2.1 ht hpt hk.2.2.2.2.2.2.1 hk.2.2.2.2.2.2.2 hnm
  · have q := zCq_1 hk hnm hz
    exact c_coc_1 (c := S.1) (r := S.2.1) (w := S.2.2.1) (lim := S.2.2.2.1) (cnt := S.2.2.2.2.2.2.2.2.2.2.1) hG hk.2.1 hk.2.2.2.1 hk.2.2.2.2.1 hk.2.2.2.2.2.1 ht hpt hk.2.2.2.2.2.2.1 hk.2.2.2.2.2.2.2 hnm q.1 q.2.1 q.2.2.1 q.2.2.2
  · exact c_coc_2 (c := S.1) (r := S.2.1) (w := S.2.2.1) (lim := S.2.2.2.1) (cnt := S.2.2.2.2.2.2.2.2.2.2.1) hG hk.2.1 hk.2.2.2.1 hk.2.2.2.2.1 hk.2.2.2.2.2.1 ht hpt hk.2.2.2.2.2.2.1 hk.2.2.2.2.2.2.2 hnm (zCq_2 hk hz).1
  · exact c_coc_3 (c := S.1) (r := S.2.1) (w := S.2.2.1) (lim := S.2.2.2.1) (cnt := S.2.2.2.2.2.2.2.2.2.2.1) hG hk.2.1 hk.2.2.2.1 hk.2.2.2.2.1 hk.2.2.2.2.2.1 ht hpt hk.2.2.2.2.2.2.1 hk.2.2.2.2.2.2.2 hnm (zCq_3 hnm hz)
  · exact c_coc_4 (c := S.1) (r := S.2.1) (w := S.2.2.1) (lim := S.2.2.2.1) (cnt := S.2.2.2.2.2.2.2.2.2.2.1) hG hk.2.1 hk.2.2.2.1 hk.2.2.2.2.1 hk.2.2.2.2.2.1 ht hpt hk.2.2.2.2.2.2.1 hk.2.2.2.2.2.2.2 hnm (zCq_4 hk hnm hz)
  · exact c_coc_5 (c := S.1) (r := S.2.1) (w := S.2.2.1) (lim := S.2.2.2.1) (cnt := S.2.2.2.2.2.2.2.2.2.2.1) hG hk.2.1 hk.2.2.2.1 hk.2.2.2.2.1 hk.2.2.2.2.2.1 ht hpt hk.2.2.2.2.2.2.1 hk.2.2.2.2.2.2.2 hnm
  · exact c_coc_6 (c := S.1) (r := S.2.1) (w := S.2.2.1) (lim := S.2.2.2.1) (cnt := S.2.2.2.2.2.2.2.2.2.2.1) hG hk.2.1 hk.2.2.2.1 hk.2.2.2.2.1 hk.2.2.2.2.2.1 ht hpt hk.2.2.2.2.2.2.1 hk.2.2.2.2.2.2.2 hnm
  · exact c_coc_7 (c := S.1) (r := S.2.1) (w := S.2.2.1) (lim := S.2.2.2.1) (cnt := S.2.2.2.2.2.2.2.2.2.2.1) hG hk.2.1 hk.2.2.2.1 hk.2.2.2.2.1 hk.2.2.2.2.2.1 ht hpt hk.2.2.2.2.2.2.1 hk.2.2.2.2.2.2.2 hnm (zCq_7 hnm hz).2

/-- the numbers of a reading stay small -/
theorem zRd_ok {byt : Nat → Int32} {tln : Nat} : ∀ (d m p a : Nat), m + d ≤ 3 → a < 10 ^ m → ∃ n, n ≤ 999 ∧ (zRd byt tln d p (nI a)).2 = nI n
  | 0, m, p, a, hm, ha => ⟨a, by have : 10 ^ m ≤ 10 ^ 3 := Nat.pow_le_pow_right (by decide) (by omega); omega, rfl⟩
  | d + 1, m, p, a, hm, ha => by
    unfold zRd
    split
    · rename_i h
      have hx : ∃ t, 48 ≤ t ∧ t ≤ 57 ∧ zTb byt tln p = nI t := by
        have h3 := h
        unfold zFr at h3
        rw [Bool.and_eq_true] at h3
        have h4 : ¬ zTb byt tln p < nI 48 := fun q => by rw [decide_eq_true q] at h3; exact absurd h3.1 (by decide)
        have h5 : ¬ nI 57 < zTb byt tln p := fun q => by rw [decide_eq_true q] at h3; exact absurd h3.2 (by decide)
        have h6 : ¬ zTb byt tln p < 0 := fun q => h4 (Int32.lt_trans q (by decide))
        obtain ⟨t, ht, e⟩ := nI_of h6
        rw [e] at h4 h5
        exact ⟨t, m_nlt (by omega) (by decide) h4, m_nlt (by decide) (by omega) h5, e⟩
      obtain ⟨t, t1, t2, e⟩ := hx
      have hp : 10 ^ m ≤ 10 ^ 3 := Nat.pow_le_pow_right (by decide) (by omega)
      rw [e, pk_mul, nI_add, pk_sub (by omega)]
      refine zRd_ok d (m + 1) (p + 1) _ (by omega) ?_
      rw [Nat.pow_succ]
      omega
    · exact ⟨a, by have : 10 ^ m ≤ 10 ^ 3 := Nat.pow_le_pow_right (by decide) (by omega); omega, rfl⟩
theorem zNm_put {num : Nat → Int32} {i v : Int32} (h : zNmOk num) (hv : ∃ n, n ≤ 999 ∧ v = nI n) : zNmOk (zPutN 5 num i v) := by
  intro j
  unfold zPutN
  split
  · exact h j
  · split
    · exact h j
    · show ∃ n, n ≤ 999 ∧ (if j = i.toNatClampNeg then v else num j) = nI n
      split
      · exact hv
      · exact h j
theorem zRN_nm {byt : Nat → Int32} {tln : Nat} : ∀ (d i : Nat) (s : zQ4), zNmOk s.1 → zNmOk (zRN byt tln d i s).2.1
  | 0, _, _, h => h
  | d + 1, i, s, h => by
    have q : zNmOk (zPutN 5 s.1 (nI i) (zRd byt tln 3 (zPs byt tln s.2.2.1) 0).2) := zNm_put h (by rw [show (0 : Int32) = nI 0 from nI_0.symm]; exact zRd_ok 3 0 _ 0 (by decide) (by decide))
    unfold zRN
    split
    · split
      · exact zRN_nm d _ _ q
      · exact q
    · exact h
theorem zRW_nm {byt : Nat → Int32} {tln : Nat} {s : zQ4} (h : zNmOk s.1) : zNmOk (zRW byt tln s).2.1 := by
  unfold zRW
  split <;> exact h
theorem zNx_nm {byt : Nat → Int32} {tln : Nat} {s : zQ4} (h : zNmOk s.1) : zNmOk (zNx byt tln s).2.1 := by
  have h1 : zNmOk (zRW byt tln (s.1, s.2.1, zPs byt tln s.2.2.1, s.2.2.2)).2.1 := zRW_nm h
  unfold zNx
  split
  · exact h
  · split
    · have h2 := zRN_nm (byt := byt) (tln := tln) (zWq (zRW byt tln (s.1, s.2.1, zPs byt tln s.2.2.1, s.2.2.2)).2.2.1) 0 _ h1
      split
      · unfold zRS
        split <;> exact h2
      · exact h2
    · exact h1
theorem zFF_nm {byt : Nat → Int32} {tln : Nat} : ∀ (d : Nat) (s : zQ4), zNmOk s.1 → zNmOk (zFF byt tln d s).1
  | 0, _, h => h
  | d + 1, s, h => by
    unfold zFF
    split
    · exact zFF_nm d _ (zNx_nm h)
    · exact zNx_nm h
theorem zFF_ok4 {byt : Nat → Int32} {tln : Nat} : ∀ (d : Nat) (s : zQ4), zOk4 tln s → zOk4 tln (zFF byt tln d s)
  | 0, _, h => h
  | d + 1, s, h => by
    unfold zFF
    split
    · exact zFF_ok4 d _ (zNx_ok h)
    · exact zNx_ok h
/-- a run of commands: how many, the loom, the reader -/
def zRcc (byt : Nat → Int32) (tln : Nat) : Nat → zS × zQ4 → Nat × zS × zQ4
  | 0, z => (0, z)
  | d + 1, z => if (zNx byt tln z.2).1 then (if zCq (zNx byt tln z.2).2.1 (zNx byt tln z.2).2.2.1 z.1 = 0 then ((zRcc byt tln d (zCd (zNx byt tln z.2).2.1 (zNx byt tln z.2).2.2.1 z.1, (zNx byt tln z.2).2)).1 + 1, (zRcc byt tln d (zCd (zNx byt tln z.2).2.1 (zNx byt tln z.2).2.2.1 z.1, (zNx byt tln z.2).2)).2) else (0, z.1, (zNx byt tln z.2).2)) else (0, z.1, (zNx byt tln z.2).2)
theorem zRcc_f {byt : Nat → Int32} {tln d : Nat} {z : zS × zQ4} (h : (zNx byt tln z.2).1 = false) : zRcc byt tln (d + 1) z = (0, z.1, (zNx byt tln z.2).2) := if_neg (by rw [h]; decide)
theorem zRcc_n {byt : Nat → Int32} {tln d : Nat} {z : zS × zQ4} (h : (zNx byt tln z.2).1 = true) (h2 : ¬ zCq (zNx byt tln z.2).2.1 (zNx byt tln z.2).2.2.1 z.1 = 0) : zRcc byt tln (d + 1) z = (0, z.1, (zNx byt tln z.2).2) := (if_pos h).trans (if_neg h2)
theorem zRcc_t {byt : Nat → Int32} {tln d : Nat} {z : zS × zQ4} (h : (zNx byt tln z.2).1 = true) (h2 : zCq (zNx byt tln z.2).2.1 (zNx byt tln z.2).2.2.1 z.1 = 0) : zRcc byt tln (d + 1) z = ((zRcc byt tln d (zCd (zNx byt tln z.2).2.1 (zNx byt tln z.2).2.2.1 z.1, (zNx byt tln z.2).2)).1 + 1, (zRcc byt tln d (zCd (zNx byt tln z.2).2.1 (zNx byt tln z.2).2.2.1 z.1, (zNx byt tln z.2).2)).2) := (if_pos h).trans (if_pos h2)

set_option maxHeartbeats 4000000 in
set_option maxRecDepth 100000 in
theorem c_f_run_f {G : zT} {S : zS} {sa sb sc sd : zS} {hcn hnx tln wj pos : Nat} {byt num : Nat → Int32} {flt : Int32} {Y : zYr} {out : Nat → Int64} (hG : zAl G = false) (ht : tln ≤ 150) (hj9 : wj < 8) (hf : ¬ (zFF byt tln 150 (num, wj, 0, (-1))).2.2.2 = -1) : zRun G mX9_runCommands 0 0 [.ref 0] (zHp S (sa, sb, sc, sd, hcn, hnx, byt, tln, num, (1000 + wj), pos, flt) Y out) (.inr (some (.int ((-10) - (zFF byt tln 150 (num, wj, 0, (-1))).2.2.2)))) (zHp S (sa, sb, sc, sd, hcn, hnx, byt, tln, ((zFF byt tln 150 (num, wj, 0, (-1))).1), (1000 + (zFF byt tln 150 (num, wj, 0, (-1))).2.1), ((zFF byt tln 150 (num, wj, 0, (-1))).2.2.1), ((zFF byt tln 150 (num, wj, 0, (-1))).2.2.2)) Y out) := by
  refine zRun_of (by decide +kernel) rfl rfl (Nat.le_of_ble_eq_true rfl) ?_
  suffices hs : ∀ (o9 : zO) (h9 : zH), (Sum.inr (some (.int ((-10) - (zFF byt tln 150 (num, wj, 0, (-1))).2.2.2))) : zO) = o9 → (zHp S (sa, sb, sc, sd, hcn, hnx, byt, tln, ((zFF byt tln 150 (num, wj, 0, (-1))).1), (1000 + (zFF byt tln 150 (num, wj, 0, (-1))).2.1), ((zFF byt tln 150 (num, wj, 0, (-1))).2.2.1), ((zFF byt tln 150 (num, wj, 0, (-1))).2.2.2)) Y out) = h9 → zPW G mX9_runCommands 0 0 o9 h9 0 0 0 [(0, .ref 0)] [] (zHp S (sa, sb, sc, sd, hcn, hnx, byt, tln, num, (1000 + wj), pos, flt) Y out) from hs _ _ rfl rfl
  intro o9 h9 ho9 hh9
  refine z_aload_n 0 dX9_runCommands_0 rfl rfl ?_
  refine z_get (v := .ref 111) 3 zgo_0 rfl inX9 (by decide) zw_315 rfl rfl dX9_runCommands_1 ?_
  refine z_callV (N := mX0_findFault) 0 [] [] lX0_findFault ⟨zw_430, zw_431, zw_432⟩ rfl zgo_111 rfl rfl (Nat.le_of_ble_eq_true rfl) (by decide) ⟨zlt, zlt⟩ ⟨Nat.zero_le _, Nat.zero_le _⟩ zal (c_findFault hG ht hj9) dX9_runCommands_4 ?_
  refine z_istore_n (lv' := [(1, .int ((zFF byt tln 150 (num, wj, 0, (-1))).2.2.2)), (0, .ref 0)]) dX9_runCommands_7 rfl (by decide) rfl ?_
  refine z_iload_n 0 dX9_runCommands_8 rfl rfl ?_
  refine z_iconst (v := (-1)) dX9_runCommands_9 (by decide) ?_
  refine z_icmp_eq (tgt := 18) dX9_runCommands_10 (by decide) (fun c_10 => ?_) (fun c_10 => ?_)
  · exfalso; exact hf c_10
  · skip
    refine z_bipush (v := (-10)) dX9_runCommands_13 (by decide) ?_
    refine z_iload_n 0 dX9_runCommands_15 rfl rfl ?_
    refine z_isub dX9_runCommands_16 ?_
    exact z_iret rfl dX9_runCommands_17 (zo_i ho9 (by rfl)) (zo_h hh9 (by rfl)) (Nat.zero_le _) (Nat.zero_le _)

set_option maxHeartbeats 4000000 in
set_option maxRecDepth 100000 in
theorem c_f_run {G : zT} {S : zS} {sa sb sc sd : zS} {hcn hnx tln wj pos : Nat} {byt num : Nat → Int32} {flt : Int32} {Y : zYr} {out : Nat → Int64} (hG : zAl G = false) (ht : tln ≤ 150) (hj9 : wj < 8) (h4 : hnx < 4) (hc4 : hcn ≤ 4) (hk : zSk9 S) (hnm : zNmOk num) (hf : (zFF byt tln 150 (num, wj, 0, (-1))).2.2.2 = -1) : zRun G mX9_runCommands 0 0 [.ref 0] (zHp S (sa, sb, sc, sd, hcn, hnx, byt, tln, num, (1000 + wj), pos, flt) Y out) (.inr (some (.int (nI (zRcc byt tln 150 (S, (zFF byt tln 150 (num, wj, 0, (-1))).1, (zFF byt tln 150 (num, wj, 0, (-1))).2.1, 0, (-1))).1)))) (zHp ((zRcc byt tln 150 (S, (zFF byt tln 150 (num, wj, 0, (-1))).1, (zFF byt tln 150 (num, wj, 0, (-1))).2.1, 0, (-1))).2.1) (((zSvd S (sa, sb, sc, sd, hcn, hnx, byt, tln, ((zFF byt tln 150 (num, wj, 0, (-1))).1), (1000 + (zFF byt tln 150 (num, wj, 0, (-1))).2.1), ((zFF byt tln 150 (num, wj, 0, (-1))).2.2.1), ((zFF byt tln 150 (num, wj, 0, (-1))).2.2.2))).1), ((zSvd S (sa, sb, sc, sd, hcn, hnx, byt, tln, ((zFF byt tln 150 (num, wj, 0, (-1))).1), (1000 + (zFF byt tln 150 (num, wj, 0, (-1))).2.1), ((zFF byt tln 150 (num, wj, 0, (-1))).2.2.1), ((zFF byt tln 150 (num, wj, 0, (-1))).2.2.2))).2.1), ((zSvd S (sa, sb, sc, sd, hcn, hnx, byt, tln, ((zFF byt tln 150 (num, wj, 0, (-1))).1), (1000 + (zFF byt tln 150 (num, wj, 0, (-1))).2.1), ((zFF byt tln 150 (num, wj, 0, (-1))).2.2.1), ((zFF byt tln 150 (num, wj, 0, (-1))).2.2.2))).2.2.1), ((zSvd S (sa, sb, sc, sd, hcn, hnx, byt, tln, ((zFF byt tln 150 (num, wj, 0, (-1))).1), (1000 + (zFF byt tln 150 (num, wj, 0, (-1))).2.1), ((zFF byt tln 150 (num, wj, 0, (-1))).2.2.1), ((zFF byt tln 150 (num, wj, 0, (-1))).2.2.2))).2.2.2.1), ((zSvd S (sa, sb, sc, sd, hcn, hnx, byt, tln, ((zFF byt tln 150 (num, wj, 0, (-1))).1), (1000 + (zFF byt tln 150 (num, wj, 0, (-1))).2.1), ((zFF byt tln 150 (num, wj, 0, (-1))).2.2.1), ((zFF byt tln 150 (num, wj, 0, (-1))).2.2.2))).2.2.2.2.1), ((zSvd S (sa, sb, sc, sd, hcn, hnx, byt, tln, ((zFF byt tln 150 (num, wj, 0, (-1))).1), (1000 + (zFF byt tln 150 (num, wj, 0, (-1))).2.1), ((zFF byt tln 150 (num, wj, 0, (-1))).2.2.1), ((zFF byt tln 150 (num, wj, 0, (-1))).2.2.2))).2.2.2.2.2.1), byt, tln, ((zRcc byt tln 150 (S, (zFF byt tln 150 (num, wj, 0, (-1))).1, (zFF byt tln 150 (num, wj, 0, (-1))).2.1, 0, (-1))).2.2.1), (1000 + (zRcc byt tln 150 (S, (zFF byt tln 150 (num, wj, 0, (-1))).1, (zFF byt tln 150 (num, wj, 0, (-1))).2.1, 0, (-1))).2.2.2.1), ((zRcc byt tln 150 (S, (zFF byt tln 150 (num, wj, 0, (-1))).1, (zFF byt tln 150 (num, wj, 0, (-1))).2.1, 0, (-1))).2.2.2.2.1), ((zRcc byt tln 150 (S, (zFF byt tln 150 (num, wj, 0, (-1))).1, (zFF byt tln 150 (num, wj, 0, (-1))).2.1, 0, (-1))).2.2.2.2.2)) Y out) := by
  have hok4 := zFF_ok4 (byt := byt) 150 (num, wj, 0, (-1)) (show zOk4 tln (num, wj, 0, (-1)) from ⟨hj9, Nat.zero_le _⟩)
  have hnm4 := zFF_nm (byt := byt) (tln := tln) 150 (num, wj, 0, (-1)) hnm
  refine zRun_of (by decide +kernel) rfl rfl (Nat.le_of_ble_eq_true rfl) ?_
  suffices hs : ∀ (o9 : zO) (h9 : zH), (Sum.inr (some (.int (nI (zRcc byt tln 150 (S, (zFF byt tln 150 (num, wj, 0, (-1))).1, (zFF byt tln 150 (num, wj, 0, (-1))).2.1, 0, (-1))).1))) : zO) = o9 → (zHp ((zRcc byt tln 150 (S, (zFF byt tln 150 (num, wj, 0, (-1))).1, (zFF byt tln 150 (num, wj, 0, (-1))).2.1, 0, (-1))).2.1) (((zSvd S (sa, sb, sc, sd, hcn, hnx, byt, tln, ((zFF byt tln 150 (num, wj, 0, (-1))).1), (1000 + (zFF byt tln 150 (num, wj, 0, (-1))).2.1), ((zFF byt tln 150 (num, wj, 0, (-1))).2.2.1), ((zFF byt tln 150 (num, wj, 0, (-1))).2.2.2))).1), ((zSvd S (sa, sb, sc, sd, hcn, hnx, byt, tln, ((zFF byt tln 150 (num, wj, 0, (-1))).1), (1000 + (zFF byt tln 150 (num, wj, 0, (-1))).2.1), ((zFF byt tln 150 (num, wj, 0, (-1))).2.2.1), ((zFF byt tln 150 (num, wj, 0, (-1))).2.2.2))).2.1), ((zSvd S (sa, sb, sc, sd, hcn, hnx, byt, tln, ((zFF byt tln 150 (num, wj, 0, (-1))).1), (1000 + (zFF byt tln 150 (num, wj, 0, (-1))).2.1), ((zFF byt tln 150 (num, wj, 0, (-1))).2.2.1), ((zFF byt tln 150 (num, wj, 0, (-1))).2.2.2))).2.2.1), ((zSvd S (sa, sb, sc, sd, hcn, hnx, byt, tln, ((zFF byt tln 150 (num, wj, 0, (-1))).1), (1000 + (zFF byt tln 150 (num, wj, 0, (-1))).2.1), ((zFF byt tln 150 (num, wj, 0, (-1))).2.2.1), ((zFF byt tln 150 (num, wj, 0, (-1))).2.2.2))).2.2.2.1), ((zSvd S (sa, sb, sc, sd, hcn, hnx, byt, tln, ((zFF byt tln 150 (num, wj, 0, (-1))).1), (1000 + (zFF byt tln 150 (num, wj, 0, (-1))).2.1), ((zFF byt tln 150 (num, wj, 0, (-1))).2.2.1), ((zFF byt tln 150 (num, wj, 0, (-1))).2.2.2))).2.2.2.2.1), ((zSvd S (sa, sb, sc, sd, hcn, hnx, byt, tln, ((zFF byt tln 150 (num, wj, 0, (-1))).1), (1000 + (zFF byt tln 150 (num, wj, 0, (-1))).2.1), ((zFF byt tln 150 (num, wj, 0, (-1))).2.2.1), ((zFF byt tln 150 (num, wj, 0, (-1))).2.2.2))).2.2.2.2.2.1), byt, tln, ((zRcc byt tln 150 (S, (zFF byt tln 150 (num, wj, 0, (-1))).1, (zFF byt tln 150 (num, wj, 0, (-1))).2.1, 0, (-1))).2.2.1), (1000 + (zRcc byt tln 150 (S, (zFF byt tln 150 (num, wj, 0, (-1))).1, (zFF byt tln 150 (num, wj, 0, (-1))).2.1, 0, (-1))).2.2.2.1), ((zRcc byt tln 150 (S, (zFF byt tln 150 (num, wj, 0, (-1))).1, (zFF byt tln 150 (num, wj, 0, (-1))).2.1, 0, (-1))).2.2.2.2.1), ((zRcc byt tln 150 (S, (zFF byt tln 150 (num, wj, 0, (-1))).1, (zFF byt tln 150 (num, wj, 0, (-1))).2.1, 0, (-1))).2.2.2.2.2)) Y out) = h9 → zPW G mX9_runCommands 0 0 o9 h9 0 0 0 [(0, .ref 0)] [] (zHp S (sa, sb, sc, sd, hcn, hnx, byt, tln, num, (1000 + wj), pos, flt) Y out) from hs _ _ rfl rfl
  intro o9 h9 ho9 hh9
  refine z_aload_n 0 dX9_runCommands_0 rfl rfl ?_
  refine z_get (v := .ref 111) 3 zgo_0 rfl inX9 (by decide) zw_315 rfl rfl dX9_runCommands_1 ?_
  refine z_callV (N := mX0_findFault) 0 [] [] lX0_findFault ⟨zw_430, zw_431, zw_432⟩ rfl zgo_111 rfl rfl (Nat.le_of_ble_eq_true rfl) (by decide) ⟨zlt, zlt⟩ ⟨Nat.zero_le _, Nat.zero_le _⟩ zal (c_findFault hG ht hj9) dX9_runCommands_4 ?_
  refine z_istore_n (lv' := [(1, .int ((zFF byt tln 150 (num, wj, 0, (-1))).2.2.2)), (0, .ref 0)]) dX9_runCommands_7 rfl (by decide) rfl ?_
  refine z_iload_n 0 dX9_runCommands_8 rfl rfl ?_
  refine z_iconst (v := (-1)) dX9_runCommands_9 (by decide) ?_
  refine z_icmp_eq (tgt := 18) dX9_runCommands_10 (by decide) (fun c_10 => ?_) (fun c_10 => ?_)
  · skip
    refine z_aload_n 1 dX9_runCommands_18 rfl rfl ?_
    refine z_get (v := .ref 22) 1 zgo_0 rfl inX9 (by decide) zw_313 rfl rfl dX9_runCommands_19 ?_
    refine z_aload_n 1 dX9_runCommands_22 rfl rfl ?_
    refine z_get (v := .ref 1) 0 zgo_0 rfl inX9 (by decide) zw_312 rfl rfl dX9_runCommands_23 ?_
    refine z_callV (N := mX3_save) 1 [.ref 1] [] lX3_save ⟨zw_532, zw_533, zw_534⟩ rfl zgo_22 rfl rfl (Nat.le_of_ble_eq_true rfl) (by decide) ⟨zlt, zlt⟩ ⟨Nat.zero_le _, Nat.zero_le _⟩ zal (c_save (S := S) (X := (sa, sb, sc, sd, hcn, hnx, byt, tln, ((zFF byt tln 150 (num, wj, 0, (-1))).1), (1000 + (zFF byt tln 150 (num, wj, 0, (-1))).2.1), ((zFF byt tln 150 (num, wj, 0, (-1))).2.2.1), ((zFF byt tln 150 (num, wj, 0, (-1))).2.2.2))) hG h4 hc4) dX9_runCommands_26 ?_
    refine z_eqh (h2 := (zHp S (((zSvd S (sa, sb, sc, sd, hcn, hnx, byt, tln, ((zFF byt tln 150 (num, wj, 0, (-1))).1), (1000 + (zFF byt tln 150 (num, wj, 0, (-1))).2.1), ((zFF byt tln 150 (num, wj, 0, (-1))).2.2.1), ((zFF byt tln 150 (num, wj, 0, (-1))).2.2.2))).1), ((zSvd S (sa, sb, sc, sd, hcn, hnx, byt, tln, ((zFF byt tln 150 (num, wj, 0, (-1))).1), (1000 + (zFF byt tln 150 (num, wj, 0, (-1))).2.1), ((zFF byt tln 150 (num, wj, 0, (-1))).2.2.1), ((zFF byt tln 150 (num, wj, 0, (-1))).2.2.2))).2.1), ((zSvd S (sa, sb, sc, sd, hcn, hnx, byt, tln, ((zFF byt tln 150 (num, wj, 0, (-1))).1), (1000 + (zFF byt tln 150 (num, wj, 0, (-1))).2.1), ((zFF byt tln 150 (num, wj, 0, (-1))).2.2.1), ((zFF byt tln 150 (num, wj, 0, (-1))).2.2.2))).2.2.1), ((zSvd S (sa, sb, sc, sd, hcn, hnx, byt, tln, ((zFF byt tln 150 (num, wj, 0, (-1))).1), (1000 + (zFF byt tln 150 (num, wj, 0, (-1))).2.1), ((zFF byt tln 150 (num, wj, 0, (-1))).2.2.1), ((zFF byt tln 150 (num, wj, 0, (-1))).2.2.2))).2.2.2.1), ((zSvd S (sa, sb, sc, sd, hcn, hnx, byt, tln, ((zFF byt tln 150 (num, wj, 0, (-1))).1), (1000 + (zFF byt tln 150 (num, wj, 0, (-1))).2.1), ((zFF byt tln 150 (num, wj, 0, (-1))).2.2.1), ((zFF byt tln 150 (num, wj, 0, (-1))).2.2.2))).2.2.2.2.1), ((zSvd S (sa, sb, sc, sd, hcn, hnx, byt, tln, ((zFF byt tln 150 (num, wj, 0, (-1))).1), (1000 + (zFF byt tln 150 (num, wj, 0, (-1))).2.1), ((zFF byt tln 150 (num, wj, 0, (-1))).2.2.1), ((zFF byt tln 150 (num, wj, 0, (-1))).2.2.2))).2.2.2.2.2.1), byt, tln, ((zFF byt tln 150 (num, wj, 0, (-1))).1), (1000 + (zFF byt tln 150 (num, wj, 0, (-1))).2.1), ((zFF byt tln 150 (num, wj, 0, (-1))).2.2.1), ((zFF byt tln 150 (num, wj, 0, (-1))).2.2.2)) Y out)) rfl ?_
    refine z_iconst (v := 0) dX9_runCommands_29 (by decide) ?_
    refine z_istore_n (lv' := [(2, .int 0), (1, .int ((zFF byt tln 150 (num, wj, 0, (-1))).2.2.2)), (0, .ref 0)]) dX9_runCommands_30 rfl (by decide) rfl ?_
    refine z_aload_n 2 dX9_runCommands_31 rfl rfl ?_
    refine z_get (v := .ref 111) 3 zgo_0 rfl inX9 (by decide) zw_315 rfl rfl dX9_runCommands_32 ?_
    refine z_callV (N := mX0_rewind) 0 [] [] lX0_rewind ⟨zw_564, zw_435, zw_436⟩ rfl zgo_111 rfl rfl (Nat.le_of_ble_eq_true rfl) (by decide) ⟨zlt, zlt⟩ ⟨Nat.zero_le _, Nat.zero_le _⟩ zal (c_rewind hG ht hok4.1) dX9_runCommands_35 ?_
    have L38_1 : ∀ (d k : Nat) (S9 : zS) (q9 : zQ4), k ≤ 150 → 150 + 1 ≤ k + d → (zRcc byt tln 150 (S, (zFF byt tln 150 (num, wj, 0, (-1))).1, (zFF byt tln 150 (num, wj, 0, (-1))).2.1, 0, (-1))) = (k + (zRcc byt tln (150 - k) (S9, q9)).1, (zRcc byt tln (150 - k) (S9, q9)).2) → zSk9 S9 → zNmOk q9.1 → zOk4 tln q9 → zPW G mX9_runCommands 0 0 o9 h9 0 0 38 [(2, .int (nI k)), (0, .ref 0), (1, .int ((zFF byt tln 150 (num, wj, 0, (-1))).2.2.2))] [] (zHp S9 (((zSvd S (sa, sb, sc, sd, hcn, hnx, byt, tln, ((zFF byt tln 150 (num, wj, 0, (-1))).1), (1000 + (zFF byt tln 150 (num, wj, 0, (-1))).2.1), ((zFF byt tln 150 (num, wj, 0, (-1))).2.2.1), ((zFF byt tln 150 (num, wj, 0, (-1))).2.2.2))).1), ((zSvd S (sa, sb, sc, sd, hcn, hnx, byt, tln, ((zFF byt tln 150 (num, wj, 0, (-1))).1), (1000 + (zFF byt tln 150 (num, wj, 0, (-1))).2.1), ((zFF byt tln 150 (num, wj, 0, (-1))).2.2.1), ((zFF byt tln 150 (num, wj, 0, (-1))).2.2.2))).2.1), ((zSvd S (sa, sb, sc, sd, hcn, hnx, byt, tln, ((zFF byt tln 150 (num, wj, 0, (-1))).1), (1000 + (zFF byt tln 150 (num, wj, 0, (-1))).2.1), ((zFF byt tln 150 (num, wj, 0, (-1))).2.2.1), ((zFF byt tln 150 (num, wj, 0, (-1))).2.2.2))).2.2.1), ((zSvd S (sa, sb, sc, sd, hcn, hnx, byt, tln, ((zFF byt tln 150 (num, wj, 0, (-1))).1), (1000 + (zFF byt tln 150 (num, wj, 0, (-1))).2.1), ((zFF byt tln 150 (num, wj, 0, (-1))).2.2.1), ((zFF byt tln 150 (num, wj, 0, (-1))).2.2.2))).2.2.2.1), ((zSvd S (sa, sb, sc, sd, hcn, hnx, byt, tln, ((zFF byt tln 150 (num, wj, 0, (-1))).1), (1000 + (zFF byt tln 150 (num, wj, 0, (-1))).2.1), ((zFF byt tln 150 (num, wj, 0, (-1))).2.2.1), ((zFF byt tln 150 (num, wj, 0, (-1))).2.2.2))).2.2.2.2.1), ((zSvd S (sa, sb, sc, sd, hcn, hnx, byt, tln, ((zFF byt tln 150 (num, wj, 0, (-1))).1), (1000 + (zFF byt tln 150 (num, wj, 0, (-1))).2.1), ((zFF byt tln 150 (num, wj, 0, (-1))).2.2.1), ((zFF byt tln 150 (num, wj, 0, (-1))).2.2.2))).2.2.2.2.2.1), byt, tln, (q9.1), (1000 + q9.2.1), (q9.2.2.1), (q9.2.2.2)) Y out) := by
      intro d
      induction d with
      | zero => intro k S9 q9 hk hd; exact absurd hd (by omega)
      | succ d ih =>
        intro k S9 q9 hk_k hd_k he_k hk_q hnm_q hok_q
        have ih38 := ih
        clear ih
        refine z_iload_n 0 dX9_runCommands_38 rfl rfl ?_
        refine z_sipush (v := nI 150) dX9_runCommands_39 (by decide) ?_
        refine z_icmp_ge (tgt := 72) dX9_runCommands_42 (by decide) (fun c_42 => ?_) (fun c_42 => ?_)
        · skip
          have hx_k := zge (by omega) hk_k c_42
          have heN : (zRcc byt tln 150 (S, (zFF byt tln 150 (num, wj, 0, (-1))).1, (zFF byt tln 150 (num, wj, 0, (-1))).2.1, 0, (-1))) = (k, S9, q9) := by
            rw [he_k, hx_k, Nat.sub_self]
            rfl
          refine z_iload_n 0 dX9_runCommands_72 rfl rfl ?_
          exact z_iret rfl dX9_runCommands_73 (zo_i ho9 (by rw [heN])) (zo_h hh9 (by rw [heN])) (Nat.zero_le _) (Nat.zero_le _)
        · skip
          have hx_k := zlt' (by omega) hk_k c_42
          refine z_aload_n 1 dX9_runCommands_45 rfl rfl ?_
          refine z_get (v := .ref 111) 3 zgo_0 rfl inX9 (by decide) zw_315 rfl rfl dX9_runCommands_46 ?_
          refine z_callV (N := mX0_readNext) 0 [] [] lX0_readNext ⟨zw_565, zw_439, zw_440⟩ rfl zgo_111 rfl rfl (Nat.le_of_ble_eq_true rfl) (by decide) ⟨zlt, zlt⟩ ⟨Nat.zero_le _, Nat.zero_le _⟩ zal (c_readNext hG ht hok_q.1 hok_q.2) dX9_runCommands_49 ?_
          have hox := zNx_ok (byt := byt) hok_q
          have hnq := zNx_nm (byt := byt) (tln := tln) hnm_q
          refine z_if_eq (tgt := 72) dX9_runCommands_52 (by decide) (fun c_52 => ?_) (fun c_52 => ?_)
          · skip
            have b_52 := zB_0.mp c_52
            have heN : (zRcc byt tln 150 (S, (zFF byt tln 150 (num, wj, 0, (-1))).1, (zFF byt tln 150 (num, wj, 0, (-1))).2.1, 0, (-1))) = (k, S9, (zNx byt tln q9).2) := by
              rw [he_k, show 150 - k = 150 - (k + 1) + 1 by omega, zRcc_f b_52]
              rfl
            refine z_iload_n 0 dX9_runCommands_72 rfl rfl ?_
            exact z_iret rfl dX9_runCommands_73 (zo_i ho9 (by rw [heN])) (zo_h hh9 (by rw [heN])) (Nat.zero_le _) (Nat.zero_le _)
          · skip
            have b_52 := zB_tt c_52
            refine z_aload_n 1 dX9_runCommands_55 rfl rfl ?_
            refine z_callV (N := mX9_whyNotCommand) 0 [] [] lX9_whyNotCommand ⟨zw_566, zw_568, zw_17⟩ rfl zgo_0 rfl rfl (Nat.le_of_ble_eq_true rfl) (by decide) ⟨zlt, zlt⟩ ⟨Nat.zero_le _, Nat.zero_le _⟩ (fun _ => rfl) (c_wnq (S := S9) (num := (zNx byt tln q9).2.1) (j := (zNx byt tln q9).2.2.1) hG ht hox.2 hk_q hnq hox.1) dX9_runCommands_56 ?_
            refine z_if_ne (tgt := 72) dX9_runCommands_59 (by decide) (fun c_59 => ?_) (fun c_59 => ?_)
            · skip
              have heN : (zRcc byt tln 150 (S, (zFF byt tln 150 (num, wj, 0, (-1))).1, (zFF byt tln 150 (num, wj, 0, (-1))).2.1, 0, (-1))) = (k, S9, (zNx byt tln q9).2) := by
                rw [he_k, show 150 - k = 150 - (k + 1) + 1 by omega, zRcc_n b_52 c_59]
                rfl
              refine z_iload_n 0 dX9_runCommands_72 rfl rfl ?_
              exact z_iret rfl dX9_runCommands_73 (zo_i ho9 (by rw [heN])) (zo_h hh9 (by rw [heN])) (Nat.zero_le _) (Nat.zero_le _)
            · skip
              have he2 : (zRcc byt tln 150 (S, (zFF byt tln 150 (num, wj, 0, (-1))).1, (zFF byt tln 150 (num, wj, 0, (-1))).2.1, 0, (-1))) = (k + 1 + (zRcc byt tln (150 - (k + 1)) (zCd (zNx byt tln q9).2.1 (zNx byt tln q9).2.2.1 S9, (zNx byt tln q9).2)).1, (zRcc byt tln (150 - (k + 1)) (zCd (zNx byt tln q9).2.1 (zNx byt tln q9).2.2.1 S9, (zNx byt tln q9).2)).2) := by
                rw [he_k, show 150 - k = 150 - (k + 1) + 1 by omega, zRcc_t (z := (S9, q9)) b_52 c_59]
                exact Prod.ext (by show k + ((zRcc byt tln (150 - (k + 1)) (zCd (zNx byt tln q9).2.1 (zNx byt tln q9).2.2.1 S9, (zNx byt tln q9).2)).1 + 1) = k + 1 + (zRcc byt tln (150 - (k + 1)) (zCd (zNx byt tln q9).2.1 (zNx byt tln q9).2.2.1 S9, (zNx byt tln q9).2)).1; omega) rfl
              refine z_aload_n 1 dX9_runCommands_62 rfl rfl ?_
              refine z_callV (N := mX9_carryOutCommand) 0 [] [] lX9_carryOutCommand ⟨zw_647, zw_649, zw_20⟩ rfl zgo_0 rfl rfl (Nat.le_of_ble_eq_true rfl) (by decide) ⟨zlt, zlt⟩ ⟨Nat.zero_le _, Nat.zero_le _⟩ zal (c_cod (S := S9) (num := (zNx byt tln q9).2.1) (j := (zNx byt tln q9).2.2.1) hG ht hox.2 hk_q hnq hox.1 c_59) dX9_runCommands_63 ?_
              refine z_iinc (v := nI (k + 1)) (lv' := [(2, .int (nI (k + 1))), (0, .ref 0), (1, .int ((zFF byt tln 150 (num, wj, 0, (-1))).2.2.2))]) 0 dX9_runCommands_66 rfl (nI_1 k) (by decide) rfl ?_
              refine z_goto (tgt := 38) dX9_runCommands_69 (by decide) ?_
              refine z_sub [0, 1, 2] (lv' := [(2, .int (nI (k + 1))), (0, .ref 0), (1, .int ((zFF byt tln 150 (num, wj, 0, (-1))).2.2.2))]) rfl ?_
              refine z_eqs (lv2 := [(2, .int (nI (k + 1))), (0, .ref 0), (1, .int ((zFF byt tln 150 (num, wj, 0, (-1))).2.2.2))]) (h2 := (zHp (zCd (zNx byt tln q9).2.1 (zNx byt tln q9).2.2.1 S9) (((zSvd S (sa, sb, sc, sd, hcn, hnx, byt, tln, ((zFF byt tln 150 (num, wj, 0, (-1))).1), (1000 + (zFF byt tln 150 (num, wj, 0, (-1))).2.1), ((zFF byt tln 150 (num, wj, 0, (-1))).2.2.1), ((zFF byt tln 150 (num, wj, 0, (-1))).2.2.2))).1), ((zSvd S (sa, sb, sc, sd, hcn, hnx, byt, tln, ((zFF byt tln 150 (num, wj, 0, (-1))).1), (1000 + (zFF byt tln 150 (num, wj, 0, (-1))).2.1), ((zFF byt tln 150 (num, wj, 0, (-1))).2.2.1), ((zFF byt tln 150 (num, wj, 0, (-1))).2.2.2))).2.1), ((zSvd S (sa, sb, sc, sd, hcn, hnx, byt, tln, ((zFF byt tln 150 (num, wj, 0, (-1))).1), (1000 + (zFF byt tln 150 (num, wj, 0, (-1))).2.1), ((zFF byt tln 150 (num, wj, 0, (-1))).2.2.1), ((zFF byt tln 150 (num, wj, 0, (-1))).2.2.2))).2.2.1), ((zSvd S (sa, sb, sc, sd, hcn, hnx, byt, tln, ((zFF byt tln 150 (num, wj, 0, (-1))).1), (1000 + (zFF byt tln 150 (num, wj, 0, (-1))).2.1), ((zFF byt tln 150 (num, wj, 0, (-1))).2.2.1), ((zFF byt tln 150 (num, wj, 0, (-1))).2.2.2))).2.2.2.1), ((zSvd S (sa, sb, sc, sd, hcn, hnx, byt, tln, ((zFF byt tln 150 (num, wj, 0, (-1))).1), (1000 + (zFF byt tln 150 (num, wj, 0, (-1))).2.1), ((zFF byt tln 150 (num, wj, 0, (-1))).2.2.1), ((zFF byt tln 150 (num, wj, 0, (-1))).2.2.2))).2.2.2.2.1), ((zSvd S (sa, sb, sc, sd, hcn, hnx, byt, tln, ((zFF byt tln 150 (num, wj, 0, (-1))).1), (1000 + (zFF byt tln 150 (num, wj, 0, (-1))).2.1), ((zFF byt tln 150 (num, wj, 0, (-1))).2.2.1), ((zFF byt tln 150 (num, wj, 0, (-1))).2.2.2))).2.2.2.2.2.1), byt, tln, ((zNx byt tln q9).2.1), (1000 + (zNx byt tln q9).2.2.1), ((zNx byt tln q9).2.2.2.1), ((zNx byt tln q9).2.2.2.2)) Y out)) (by rfl) (by rfl) ?_
              exact ih38 (k + 1) (zCd (zNx byt tln q9).2.1 (zNx byt tln q9).2.2.1 S9) ((zNx byt tln q9).2) (by omega) (by omega) he2 (zCd_ok hk_q hnq c_59) hnq hox
    refine z_sub [0, 2, 1] (lv' := [(2, .int 0), (0, .ref 0), (1, .int ((zFF byt tln 150 (num, wj, 0, (-1))).2.2.2))]) rfl ?_
    refine z_eqs (lv2 := [(2, .int (nI 0)), (0, .ref 0), (1, .int ((zFF byt tln 150 (num, wj, 0, (-1))).2.2.2))]) (h2 := (zHp S (((zSvd S (sa, sb, sc, sd, hcn, hnx, byt, tln, ((zFF byt tln 150 (num, wj, 0, (-1))).1), (1000 + (zFF byt tln 150 (num, wj, 0, (-1))).2.1), ((zFF byt tln 150 (num, wj, 0, (-1))).2.2.1), ((zFF byt tln 150 (num, wj, 0, (-1))).2.2.2))).1), ((zSvd S (sa, sb, sc, sd, hcn, hnx, byt, tln, ((zFF byt tln 150 (num, wj, 0, (-1))).1), (1000 + (zFF byt tln 150 (num, wj, 0, (-1))).2.1), ((zFF byt tln 150 (num, wj, 0, (-1))).2.2.1), ((zFF byt tln 150 (num, wj, 0, (-1))).2.2.2))).2.1), ((zSvd S (sa, sb, sc, sd, hcn, hnx, byt, tln, ((zFF byt tln 150 (num, wj, 0, (-1))).1), (1000 + (zFF byt tln 150 (num, wj, 0, (-1))).2.1), ((zFF byt tln 150 (num, wj, 0, (-1))).2.2.1), ((zFF byt tln 150 (num, wj, 0, (-1))).2.2.2))).2.2.1), ((zSvd S (sa, sb, sc, sd, hcn, hnx, byt, tln, ((zFF byt tln 150 (num, wj, 0, (-1))).1), (1000 + (zFF byt tln 150 (num, wj, 0, (-1))).2.1), ((zFF byt tln 150 (num, wj, 0, (-1))).2.2.1), ((zFF byt tln 150 (num, wj, 0, (-1))).2.2.2))).2.2.2.1), ((zSvd S (sa, sb, sc, sd, hcn, hnx, byt, tln, ((zFF byt tln 150 (num, wj, 0, (-1))).1), (1000 + (zFF byt tln 150 (num, wj, 0, (-1))).2.1), ((zFF byt tln 150 (num, wj, 0, (-1))).2.2.1), ((zFF byt tln 150 (num, wj, 0, (-1))).2.2.2))).2.2.2.2.1), ((zSvd S (sa, sb, sc, sd, hcn, hnx, byt, tln, ((zFF byt tln 150 (num, wj, 0, (-1))).1), (1000 + (zFF byt tln 150 (num, wj, 0, (-1))).2.1), ((zFF byt tln 150 (num, wj, 0, (-1))).2.2.1), ((zFF byt tln 150 (num, wj, 0, (-1))).2.2.2))).2.2.2.2.2.1), byt, tln, (((zFF byt tln 150 (num, wj, 0, (-1))).1, (zFF byt tln 150 (num, wj, 0, (-1))).2.1, 0, (-1)).1), (1000 + ((zFF byt tln 150 (num, wj, 0, (-1))).1, (zFF byt tln 150 (num, wj, 0, (-1))).2.1, 0, (-1)).2.1), (((zFF byt tln 150 (num, wj, 0, (-1))).1, (zFF byt tln 150 (num, wj, 0, (-1))).2.1, 0, (-1)).2.2.1), (((zFF byt tln 150 (num, wj, 0, (-1))).1, (zFF byt tln 150 (num, wj, 0, (-1))).2.1, 0, (-1)).2.2.2)) Y out)) (by rfl) (by rfl) ?_
    exact L38_1 (150 + 1) 0 S ((zFF byt tln 150 (num, wj, 0, (-1))).1, (zFF byt tln 150 (num, wj, 0, (-1))).2.1, 0, (-1)) (Nat.zero_le _) (by omega) (Prod.ext (Nat.zero_add _).symm rfl) hk hnm4 ⟨hok4.1, Nat.zero_le _⟩
  · exfalso; exact c_10 hf

