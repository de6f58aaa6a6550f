/-- both sides hold the same, and the reference's thrown is k -/
def zGd (k : Int32) (out : Nat → Int64) (H : zH) : Prop := ∃ (S sa sb sc sd : zS) (hcn hnx tln wj pos : Nat) (byt num : Nat → Int32) (flt : Int32) (s past aside line need left : Nat → Int32) (slits : Nat) (slB slF slT : Nat → Int32) (at9 : Nat) (wd9 : Int32) (got : Nat → Int32) (ans : Int32) (worst : UInt32),
  zRel S s ∧ zHist sa sb sc sd hcn hnx past ∧ tln ≤ 150 ∧ wj < 8 ∧ zNmOk num ∧ rGo got ∧ H = zHp S (sa, sb, sc, sd, hcn, hnx, byt, tln, num, (1000 + wj), pos, flt) (s, past, aside, hcn, byt, tln, k, line, need, left, slits, slB, slF, slT, at9, wd9, got, ans, worst) out
def zIsH (H : zH) : Prop := ∃ (S : zS) (X : zXr) (Y : zYr) (o : Nat → Int64), H = zHp S X Y o
/-- one call of the law, with what it must show -/
def zStep (G : zT) (M1 M2 : zN) (av : List Value) (H : zH) : Prop := ∃ (mc ms : Nat) (k v : Int32) (H1 H2 : zH) (out : Nat → Int64), mc ≤ 1 ∧ ms ≤ 6 ∧ zRun G M1 mc ms (.ref 0 :: (av ++ [.ref 126])) H (.inr (some (.int k))) H1 ∧ zRun G M2 0 0 (.ref 114 :: av) H1 (.inr (some (.int v))) H2 ∧ zGd k out H2 ∧ (k = 0 → out 0 = v.toInt64) ∧ zIsH H1
theorem zSvd_t {S sa sb sc sd : zS} {hcn hnx tln wd pos : Nat} {byt num : Nat → Int32} {flt : Int32} : zSvd S (sa, sb, sc, sd, hcn, hnx, byt, tln, num, wd, pos, flt) = ((if hnx = 0 then zCp S sa else sa), (if hnx = 1 then zCp S sb else sb), (if hnx = 2 then zCp S sc else sc), (if hnx = 3 then zCp S sd else sd), min (hcn + 1) 4, (hnx + 1) % 4, byt, tln, num, wd, pos, flt) := rfl
theorem zOut0 {out : Nat → Int64} {v : Int64} : vp_updL out 0 v 0 = v := if_pos rfl
theorem zFr_nn {a b : Nat} {v : Int32} (ha : a < 2 ^ 31) (hb : b < 2 ^ 31) (h : zFr (nI a) v (nI b) = true) : ∃ n, v = nI n ∧ a ≤ n ∧ n ≤ b := by
  obtain ⟨n, h1, h2, h3⟩ := (zFr_e ha hb).mp h
  exact ⟨n, h3, h1, h2⟩
theorem zIn_nn {n : Nat} {v : Int32} (hn : n < 2 ^ 31) (h : zIn v (nI n) = true) : ∃ k, v = nI k ∧ k < n := by
  unfold zIn at h
  rw [Bool.and_eq_true, Bool.not_eq_true', Bool.not_eq_true', decide_eq_false_iff_not, decide_eq_false_iff_not] at h
  obtain ⟨k, hk, rfl⟩ := nI_of h.1
  exact ⟨k, rfl, m_nle hn hk h.2⟩
theorem nI_7 : nI 7 = 7 := by decide
theorem nI_3 : nI 3 = 3 := by decide
theorem nI_4 : nI 4 = 4 := by decide
theorem nI_5 : nI 5 = 5 := by decide

set_option maxHeartbeats 1000000 in
set_option maxRecDepth 100000 in
theorem s_begin {G : zT} (hG : zAl G = false) (hNc : zNcs G) {k0 : Int32} {out : Nat → Int64} {H : zH} (h : zGd k0 out H) (a b : Int32) : zStep G mL_begin mX10_begin [.int a, .int b] H := by
  obtain ⟨S, sa, sb, sc, sd, hcn, hnx, tln, wj, pos, byt, num, flt, s, past, aside, line, need, left, slits, slB, slF, slT, at9, wd9, got, ans, worst, hR, hH, h150, hj, hnm, hgo, rfl⟩ := h
  obtain ⟨c, r, w, lim, tol, cart, wov, lot, sew, mis, cnt, col, len, lef, sbt, shd⟩ := S
  have hE : zRe c r w lim tol cart wov lot sew mis cnt col len lef sbt shd s := hR
  have hM := hE.1
  obtain ⟨-, -, -, -, -, hc1, hc20, hr1, hr16, hw, hn, hl⟩ := hE.1
  have hs := hE.2.2.2.2.2.2.2.2.2.2.1
  have hc4 : hcn ≤ 4 := hH.1
  have h4 : hnx < 4 := hH.2.1
  by_cases z : (zFr (nI 1) a (nI 20) && zFr (nI 1) b (nI 16)) = true
  · have z2 := z
    rw [Bool.and_eq_true] at z2
    obtain ⟨a, rfl, ha⟩ := zFr_nn (by decide) (by decide) z2.1
    obtain ⟨b, rfl, hb⟩ := zFr_nn (by decide) (by decide) z2.2
    have f := c_f_begin (c := c) (r := r) (w := w) (lim := lim) (tol := tol) (cart := cart) (wov := wov) (lot := lot) (sew := sew) (mis := mis) (cnt := cnt) (col := col) (len := len) (lef := lef) (sbt := sbt) (shd := shd) (X := (sa, sb, sc, sd, hcn, hnx, byt, tln, num, (1000 + wj), pos, flt)) (Y := (s, past, aside, hcn, byt, tln, k0, line, need, left, slits, slB, slF, slT, at9, wd9, got, ans, worst)) (out := out) hG hc20 hr16 hw hn hl hs hc1 h4 hc4 a b (if_pos z)
    rw [zSvd_t] at f
    have kk := k_begin hE ha hb
    exact ⟨0, 0, 0, _, _, _, _, by decide, by decide, c_l_begin hG f, m_begin hG hM hc4 a b z, ⟨_, _, _, _, _, _, _, _, _, _, _, _, _, _, _, _, _, _, _, _, _, _, _, _, _, _, _, _, (by rw [zRel_t]; exact kk), (k_save hR hH), h150, hj, hnm, hgo, rfl⟩, fun _ => zOut0, ⟨_, _, _, _, rfl⟩⟩
  · have z' : (zFr (nI 1) a (nI 20) && zFr (nI 1) b (nI 16)) = false := by simpa using z
    exact ⟨1, 6, 1, _, _, _, _, by decide, by decide, c_l_begin_1 hG hNc (c_g_begin_0_2 (c := c) (r := r) (w := w) (lim := lim) (tol := tol) (cart := cart) (wov := wov) (lot := lot) (sew := sew) (mis := mis) (cnt := cnt) (col := col) (len := len) (lef := lef) (sbt := sbt) (shd := shd) (X := (sa, sb, sc, sd, hcn, hnx, byt, tln, num, (1000 + wj), pos, flt)) (Y := (s, past, aside, hcn, byt, tln, k0, line, need, left, slits, slB, slF, slT, at9, wd9, got, ans, worst)) (out := out) hG hc20 hr16 hw hn hl hs hc1 h4 hc4 a b (if_neg z)), m_begin_1 hG a b z', ⟨_, _, _, _, _, _, _, _, _, _, _, _, _, _, _, _, _, _, _, _, _, _, _, _, _, _, _, _, hR, hH, h150, hj, hnm, hgo, rfl⟩, fun z => absurd z (by decide), ⟨_, _, _, _, rfl⟩⟩

set_option maxHeartbeats 1000000 in
set_option maxRecDepth 100000 in
theorem s_setTolerance {G : zT} (hG : zAl G = false) (hNc : zNcs G) {k0 : Int32} {out : Nat → Int64} {H : zH} (h : zGd k0 out H) (t : Int32) : zStep G mL_setTolerance mX10_setTolerance [.int t] H := by
  obtain ⟨S, sa, sb, sc, sd, hcn, hnx, tln, wj, pos, byt, num, flt, s, past, aside, line, need, left, slits, slB, slF, slT, at9, wd9, got, ans, worst, hR, hH, h150, hj, hnm, hgo, rfl⟩ := h
  obtain ⟨c, r, w, lim, tol, cart, wov, lot, sew, mis, cnt, col, len, lef, sbt, shd⟩ := S
  have hE : zRe c r w lim tol cart wov lot sew mis cnt col len lef sbt shd s := hR
  have hM := hE.1
  obtain ⟨-, -, -, -, -, hc1, hc20, hr1, hr16, hw, hn, hl⟩ := hE.1
  have hs := hE.2.2.2.2.2.2.2.2.2.2.1
  have hc4 : hcn ≤ 4 := hH.1
  have h4 : hnx < 4 := hH.2.1
  by_cases z : rShd t = true
  · skip
    have f := c_f_setTolerance (c := c) (r := r) (w := w) (lim := lim) (tol := tol) (cart := cart) (wov := wov) (lot := lot) (sew := sew) (mis := mis) (cnt := cnt) (col := col) (len := len) (lef := lef) (sbt := sbt) (shd := shd) (X := (sa, sb, sc, sd, hcn, hnx, byt, tln, num, (1000 + wj), pos, flt)) (Y := (s, past, aside, hcn, byt, tln, k0, line, need, left, slits, slB, slF, slT, at9, wd9, got, ans, worst)) (out := out) hG hc20 hr16 hw hn hl hs hc1 h4 hc4 t z
    rw [zSvd_t] at f
    have kk := k_tol hE (rShd_v.mp z)
    exact ⟨0, 0, 0, _, _, _, _, by decide, by decide, c_l_setTolerance hG f, m_setTolerance hG hc4 t z, ⟨_, _, _, _, _, _, _, _, _, _, _, _, _, _, _, _, _, _, _, _, _, _, _, _, _, _, _, _, (by rw [zRel_t]; exact kk), (k_save hR hH), h150, hj, hnm, hgo, rfl⟩, fun _ => zOut0.trans (congrArg Int32.toInt64 (hE.2.2.1.1.symm)), ⟨_, _, _, _, rfl⟩⟩
  · have z' : rShd t = false := by simpa using z
    exact ⟨1, 6, 1, _, _, _, _, by decide, by decide, c_l_setTolerance_1 hG hNc (c_f_setTolerance_0_2 (c := c) (r := r) (w := w) (lim := lim) (tol := tol) (cart := cart) (wov := wov) (lot := lot) (sew := sew) (mis := mis) (cnt := cnt) (col := col) (len := len) (lef := lef) (sbt := sbt) (shd := shd) (X := (sa, sb, sc, sd, hcn, hnx, byt, tln, num, (1000 + wj), pos, flt)) (Y := (s, past, aside, hcn, byt, tln, k0, line, need, left, slits, slB, slF, slT, at9, wd9, got, ans, worst)) (out := out) hG hc20 hr16 hw hn hl hs hc1 h4 hc4 t z'), m_setTolerance_1 hG t z', ⟨_, _, _, _, _, _, _, _, _, _, _, _, _, _, _, _, _, _, _, _, _, _, _, _, _, _, _, _, hR, hH, h150, hj, hnm, hgo, rfl⟩, fun z => absurd z (by decide), ⟨_, _, _, _, rfl⟩⟩

set_option maxHeartbeats 1000000 in
set_option maxRecDepth 100000 in
theorem s_setLimit {G : zT} (hG : zAl G = false) (hNc : zNcs G) {k0 : Int32} {out : Nat → Int64} {H : zH} (h : zGd k0 out H) (a : Int32) : zStep G mL_setLimit mX10_setLimit [.int a] H := by
  obtain ⟨S, sa, sb, sc, sd, hcn, hnx, tln, wj, pos, byt, num, flt, s, past, aside, line, need, left, slits, slB, slF, slT, at9, wd9, got, ans, worst, hR, hH, h150, hj, hnm, hgo, rfl⟩ := h
  obtain ⟨c, r, w, lim, tol, cart, wov, lot, sew, mis, cnt, col, len, lef, sbt, shd⟩ := S
  have hE : zRe c r w lim tol cart wov lot sew mis cnt col len lef sbt shd s := hR
  have hM := hE.1
  obtain ⟨-, -, -, -, -, hc1, hc20, hr1, hr16, hw, hn, hl⟩ := hE.1
  have hs := hE.2.2.2.2.2.2.2.2.2.2.1
  have hc4 : hcn ≤ 4 := hH.1
  have h4 : hnx < 4 := hH.2.1
  by_cases z : zFr (nI 1) a (nI 16) = true
  · obtain ⟨a, rfl, ha⟩ := zFr_nn (by decide) (by decide) z
    have f := c_f_setLimit (c := c) (r := r) (w := w) (lim := lim) (tol := tol) (cart := cart) (wov := wov) (lot := lot) (sew := sew) (mis := mis) (cnt := cnt) (col := col) (len := len) (lef := lef) (sbt := sbt) (shd := shd) (X := (sa, sb, sc, sd, hcn, hnx, byt, tln, num, (1000 + wj), pos, flt)) (Y := (s, past, aside, hcn, byt, tln, k0, line, need, left, slits, slB, slF, slT, at9, wd9, got, ans, worst)) (out := out) hG hc20 hr16 hw hn hl hs hc1 h4 hc4 a ha.2 (if_pos z)
    rw [zSvd_t] at f
    have kk := k_limit hE ha.1 ha.2 slB slF slT
    exact ⟨0, 0, 0, _, _, _, _, by decide, by decide, c_l_setLimit hG f, m_setLimit hG hM hc4 a z ha.2, ⟨_, _, _, _, _, _, _, _, _, _, _, _, _, _, _, _, _, _, _, _, _, _, _, _, _, _, _, _, (by rw [zRel_t]; exact kk), (k_save hR hH), h150, hj, hnm, hgo, rfl⟩, fun _ => zOut0, ⟨_, _, _, _, rfl⟩⟩
  · have z' : zFr (nI 1) a (nI 16) = false := by simpa using z
    exact ⟨1, 6, 1, _, _, _, _, by decide, by decide, c_l_setLimit_1 hG hNc (c_g_setLimit_0_2 (c := c) (r := r) (w := w) (lim := lim) (tol := tol) (cart := cart) (wov := wov) (lot := lot) (sew := sew) (mis := mis) (cnt := cnt) (col := col) (len := len) (lef := lef) (sbt := sbt) (shd := shd) (X := (sa, sb, sc, sd, hcn, hnx, byt, tln, num, (1000 + wj), pos, flt)) (Y := (s, past, aside, hcn, byt, tln, k0, line, need, left, slits, slB, slF, slT, at9, wd9, got, ans, worst)) (out := out) hG hc20 hr16 hw hn hl hs hc1 h4 hc4 a (if_neg z)), m_setLimit_1 hG a z', ⟨_, _, _, _, _, _, _, _, _, _, _, _, _, _, _, _, _, _, _, _, _, _, _, _, _, _, _, _, hR, hH, h150, hj, hnm, hgo, rfl⟩, fun z => absurd z (by decide), ⟨_, _, _, _, rfl⟩⟩

set_option maxHeartbeats 1000000 in
set_option maxRecDepth 100000 in
theorem s_plant {G : zT} (hG : zAl G = false) (hNc : zNcs G) {k0 : Int32} {out : Nat → Int64} {H : zH} (h : zGd k0 out H) (b v : Int32) : zStep G mL_plant mX10_plant [.int b, .int v] H := by
  obtain ⟨S, sa, sb, sc, sd, hcn, hnx, tln, wj, pos, byt, num, flt, s, past, aside, line, need, left, slits, slB, slF, slT, at9, wd9, got, ans, worst, hR, hH, h150, hj, hnm, hgo, rfl⟩ := h
  obtain ⟨c, r, w, lim, tol, cart, wov, lot, sew, mis, cnt, col, len, lef, sbt, shd⟩ := S
  have hE : zRe c r w lim tol cart wov lot sew mis cnt col len lef sbt shd s := hR
  have hM := hE.1
  obtain ⟨-, -, -, -, -, hc1, hc20, hr1, hr16, hw, hn, hl⟩ := hE.1
  have hs := hE.2.2.2.2.2.2.2.2.2.2.1
  have hc4 : hcn ≤ 4 := hH.1
  have h4 : hnx < 4 := hH.2.1
  by_cases z : zIn b (nI c) = true
  · by_cases z2 : zFr (nI 0) v (nI 7) = true
    · obtain ⟨b, rfl, hb⟩ := zIn_nn (by omega) z
      obtain ⟨v, rfl, hv⟩ := zFr_nn (by decide) (by decide) z2
      have f := c_f_plant (c := c) (r := r) (w := w) (lim := lim) (tol := tol) (cart := cart) (wov := wov) (lot := lot) (sew := sew) (mis := mis) (cnt := cnt) (col := col) (len := len) (lef := lef) (sbt := sbt) (shd := shd) (X := (sa, sb, sc, sd, hcn, hnx, byt, tln, num, (1000 + wj), pos, flt)) (Y := (s, past, aside, hcn, byt, tln, k0, line, need, left, slits, slB, slF, slT, at9, wd9, got, ans, worst)) (out := out) hG hc20 hr16 hw hn hl hs hc1 h4 hc4 (nI b) (nI v) (by rw [zFr0_in (by omega : c < 2 ^ 31), if_pos z]; exact if_pos z2)
      rw [zSvd_t] at f
      have kk := k_plant hE hb (by omega : v < 8)
      exact ⟨0, 0, 0, _, _, _, _, by decide, by decide, c_l_plant hG f, m_plant hG hM hc4 b (nI v) hb z2, ⟨_, _, _, _, _, _, _, _, _, _, _, _, _, _, _, _, _, _, _, _, _, _, _, _, _, _, _, _, (by rw [zRel_t]; exact kk), (k_save hR hH), h150, hj, hnm, hgo, rfl⟩, fun _ => zOut0.trans (congrArg Int32.toInt64 (congrArg nI (q_ot (k_plant hE hb (by omega : v < 8)).2.2.2.2.2.2.2.1 hc20))), ⟨_, _, _, _, rfl⟩⟩
    · have z' : zFr (nI 0) v (nI 7) = false := by simpa using z2
      exact ⟨1, 6, 2, _, _, _, _, by decide, by decide, c_l_plant_2 hG hNc (c_f_plant_0_2 (c := c) (r := r) (w := w) (lim := lim) (tol := tol) (cart := cart) (wov := wov) (lot := lot) (sew := sew) (mis := mis) (cnt := cnt) (col := col) (len := len) (lef := lef) (sbt := sbt) (shd := shd) (X := (sa, sb, sc, sd, hcn, hnx, byt, tln, num, (1000 + wj), pos, flt)) (Y := (s, past, aside, hcn, byt, tln, k0, line, need, left, slits, slB, slF, slT, at9, wd9, got, ans, worst)) (out := out) hG hc20 hr16 hw hn hl hs hc1 h4 hc4 b v (by rw [zFr0_in (by omega : c < 2 ^ 31), if_pos z]; exact if_neg z2)), m_plant_2 hG hM b v z z', ⟨_, _, _, _, _, _, _, _, _, _, _, _, _, _, _, _, _, _, _, _, _, _, _, _, _, _, _, _, hR, hH, h150, hj, hnm, hgo, rfl⟩, fun z => absurd z (by decide), ⟨_, _, _, _, rfl⟩⟩
  · have z' : zIn b (nI c) = false := by simpa using z
    exact ⟨1, 6, 1, _, _, _, _, by decide, by decide, c_l_plant_1 hG hNc (c_f_plant_0_1 (c := c) (r := r) (w := w) (lim := lim) (tol := tol) (cart := cart) (wov := wov) (lot := lot) (sew := sew) (mis := mis) (cnt := cnt) (col := col) (len := len) (lef := lef) (sbt := sbt) (shd := shd) (X := (sa, sb, sc, sd, hcn, hnx, byt, tln, num, (1000 + wj), pos, flt)) (Y := (s, past, aside, hcn, byt, tln, k0, line, need, left, slits, slB, slF, slT, at9, wd9, got, ans, worst)) (out := out) hG hc20 hr16 hw hn hl hs hc1 h4 hc4 b v (by rw [zFr0_in (by omega : c < 2 ^ 31)]; exact if_neg z)), m_plant_1 hG hM b v z', ⟨_, _, _, _, _, _, _, _, _, _, _, _, _, _, _, _, _, _, _, _, _, _, _, _, _, _, _, _, hR, hH, h150, hj, hnm, hgo, rfl⟩, fun z => absurd z (by decide), ⟨_, _, _, _, rfl⟩⟩

set_option maxHeartbeats 1000000 in
set_option maxRecDepth 100000 in
theorem s_weave {G : zT} (hG : zAl G = false) (hNc : zNcs G) {k0 : Int32} {out : Nat → Int64} {H : zH} (h : zGd k0 out H) (n : Int32) : zStep G mL_weave mX10_weave [.int n] H := by
  obtain ⟨S, sa, sb, sc, sd, hcn, hnx, tln, wj, pos, byt, num, flt, s, past, aside, line, need, left, slits, slB, slF, slT, at9, wd9, got, ans, worst, hR, hH, h150, hj, hnm, hgo, rfl⟩ := h
  obtain ⟨c, r, w, lim, tol, cart, wov, lot, sew, mis, cnt, col, len, lef, sbt, shd⟩ := S
  have hE : zRe c r w lim tol cart wov lot sew mis cnt col len lef sbt shd s := hR
  have hM := hE.1
  obtain ⟨-, -, -, -, -, hc1, hc20, hr1, hr16, hw, hn, hl⟩ := hE.1
  have hs := hE.2.2.2.2.2.2.2.2.2.2.1
  have hc4 : hcn ≤ 4 := hH.1
  have h4 : hnx < 4 := hH.2.1
  by_cases z : zFr (nI 1) n (nI 16) = true
  · obtain ⟨n, rfl, ha⟩ := zFr_nn (by decide) (by decide) z
    have f := c_f_weave (c := c) (r := r) (w := w) (lim := lim) (tol := tol) (cart := cart) (wov := wov) (lot := lot) (sew := sew) (mis := mis) (cnt := cnt) (col := col) (len := len) (lef := lef) (sbt := sbt) (shd := shd) (X := (sa, sb, sc, sd, hcn, hnx, byt, tln, num, (1000 + wj), pos, flt)) (Y := (s, past, aside, hcn, byt, tln, k0, line, need, left, slits, slB, slF, slT, at9, wd9, got, ans, worst)) (out := out) hG hc20 hr16 hw hn hl hs hc1 h4 hc4 n ha.2 (if_pos z)
    rw [zSvd_t] at f
    have kk := (k_weave n w wov lot lef mis s line hE).2.2
    exact ⟨0, 0, 0, _, _, _, _, by decide, by decide, c_l_weave hG f, m_weave hG hM hc4 n z ha.2, ⟨_, _, _, _, _, _, _, _, _, _, _, _, _, _, _, _, _, _, _, _, _, _, _, _, _, _, _, _, (by rw [zRel_t]; exact kk), (k_save hR hH), h150, hj, hnm, hgo, rfl⟩, fun _ => zOut0.trans (congrArg Int32.toInt64 (congrArg nI (k_weave n w wov lot lef mis s line hE).1)), ⟨_, _, _, _, rfl⟩⟩
  · have z' : zFr (nI 1) n (nI 16) = false := by simpa using z
    exact ⟨1, 6, 1, _, _, _, _, by decide, by decide, c_l_weave_1 hG hNc (c_g_weave_0_2 (c := c) (r := r) (w := w) (lim := lim) (tol := tol) (cart := cart) (wov := wov) (lot := lot) (sew := sew) (mis := mis) (cnt := cnt) (col := col) (len := len) (lef := lef) (sbt := sbt) (shd := shd) (X := (sa, sb, sc, sd, hcn, hnx, byt, tln, num, (1000 + wj), pos, flt)) (Y := (s, past, aside, hcn, byt, tln, k0, line, need, left, slits, slB, slF, slT, at9, wd9, got, ans, worst)) (out := out) hG hc20 hr16 hw hn hl hs hc1 h4 hc4 n (if_neg z)), m_weave_1 hG n z', ⟨_, _, _, _, _, _, _, _, _, _, _, _, _, _, _, _, _, _, _, _, _, _, _, _, _, _, _, _, hR, hH, h150, hj, hnm, hgo, rfl⟩, fun z => absurd z (by decide), ⟨_, _, _, _, rfl⟩⟩

set_option maxHeartbeats 1000000 in
set_option maxRecDepth 100000 in
theorem s_unweave {G : zT} (hG : zAl G = false) (hNc : zNcs G) {k0 : Int32} {out : Nat → Int64} {H : zH} (h : zGd k0 out H) (n : Int32) : zStep G mL_unweave mX10_unweave [.int n] H := by
  obtain ⟨S, sa, sb, sc, sd, hcn, hnx, tln, wj, pos, byt, num, flt, s, past, aside, line, need, left, slits, slB, slF, slT, at9, wd9, got, ans, worst, hR, hH, h150, hj, hnm, hgo, rfl⟩ := h
  obtain ⟨c, r, w, lim, tol, cart, wov, lot, sew, mis, cnt, col, len, lef, sbt, shd⟩ := S
  have hE : zRe c r w lim tol cart wov lot sew mis cnt col len lef sbt shd s := hR
  have hM := hE.1
  obtain ⟨-, -, -, -, -, hc1, hc20, hr1, hr16, hw, hn, hl⟩ := hE.1
  have hs := hE.2.2.2.2.2.2.2.2.2.2.1
  have hc4 : hcn ≤ 4 := hH.1
  have h4 : hnx < 4 := hH.2.1
  by_cases z : zFr (nI 1) n (nI 16) = true
  · obtain ⟨n, rfl, ha⟩ := zFr_nn (by decide) (by decide) z
    by_cases z2 : n ≤ w
    · skip
      have f := c_f_unweave (c := c) (r := r) (w := w) (lim := lim) (tol := tol) (cart := cart) (wov := wov) (lot := lot) (sew := sew) (mis := mis) (cnt := cnt) (col := col) (len := len) (lef := lef) (sbt := sbt) (shd := shd) (X := (sa, sb, sc, sd, hcn, hnx, byt, tln, num, (1000 + wj), pos, flt)) (Y := (s, past, aside, hcn, byt, tln, k0, line, need, left, slits, slB, slF, slT, at9, wd9, got, ans, worst)) (out := out) hG hc20 hr16 hw hn hl hs hc1 h4 hc4 n z2 ((if_pos z).trans (if_neg (nI_nlt z2 (by omega))))
      rw [zSvd_t] at f
      have kk := k_unweave hE z2 slB slF slT
      exact ⟨0, 0, 0, _, _, _, _, by decide, by decide, c_l_unweave hG f, m_unweave hG hM hc4 n z ha.2 z2 (fun y b hy hb => by obtain ⟨-, j, h1, h2⟩ := hE.2.2.2.2.2.1 y b hy hb; exact Or.inr ⟨j, by omega, h2⟩), ⟨_, _, _, _, _, _, _, _, _, _, _, _, _, _, _, _, _, _, _, _, _, _, _, _, _, _, _, _, (by rw [zRel_t]; exact kk), (k_save hR hH), h150, hj, hnm, hgo, rfl⟩, fun _ => zOut0, ⟨_, _, _, _, rfl⟩⟩
    · skip
      exact ⟨1, 6, 2, _, _, _, _, by decide, by decide, c_l_unweave_2 hG hNc (c_g_unweave_0_3 (c := c) (r := r) (w := w) (lim := lim) (tol := tol) (cart := cart) (wov := wov) (lot := lot) (sew := sew) (mis := mis) (cnt := cnt) (col := col) (len := len) (lef := lef) (sbt := sbt) (shd := shd) (X := (sa, sb, sc, sd, hcn, hnx, byt, tln, num, (1000 + wj), pos, flt)) (Y := (s, past, aside, hcn, byt, tln, k0, line, need, left, slits, slB, slF, slT, at9, wd9, got, ans, worst)) (out := out) hG hc20 hr16 hw hn hl hs hc1 h4 hc4 (nI n) ((if_pos z).trans (if_pos (nI_lt (by omega) (by omega))))), m_unweave_2 hG hM n z ha.2 (by omega), ⟨_, _, _, _, _, _, _, _, _, _, _, _, _, _, _, _, _, _, _, _, _, _, _, _, _, _, _, _, hR, hH, h150, hj, hnm, hgo, rfl⟩, fun z => absurd z (by decide), ⟨_, _, _, _, rfl⟩⟩
  · have z' : zFr (nI 1) n (nI 16) = false := by simpa using z
    exact ⟨1, 6, 1, _, _, _, _, by decide, by decide, c_l_unweave_1 hG hNc (c_g_unweave_0_2 (c := c) (r := r) (w := w) (lim := lim) (tol := tol) (cart := cart) (wov := wov) (lot := lot) (sew := sew) (mis := mis) (cnt := cnt) (col := col) (len := len) (lef := lef) (sbt := sbt) (shd := shd) (X := (sa, sb, sc, sd, hcn, hnx, byt, tln, num, (1000 + wj), pos, flt)) (Y := (s, past, aside, hcn, byt, tln, k0, line, need, left, slits, slB, slF, slT, at9, wd9, got, ans, worst)) (out := out) hG hc20 hr16 hw hn hl hs hc1 h4 hc4 n (if_neg z)), m_unweave_1 hG n z', ⟨_, _, _, _, _, _, _, _, _, _, _, _, _, _, _, _, _, _, _, _, _, _, _, _, _, _, _, _, hR, hH, h150, hj, hnm, hgo, rfl⟩, fun z => absurd z (by decide), ⟨_, _, _, _, rfl⟩⟩

set_option maxHeartbeats 1000000 in
set_option maxRecDepth 100000 in
theorem s_addLot {G : zT} (hG : zAl G = false) (hNc : zNcs G) {k0 : Int32} {out : Nat → Int64} {H : zH} (h : zGd k0 out H) (v l x : Int32) : zStep G mL_addLot mX10_addLot [.int v, .int l, .int x] H := by
  obtain ⟨S, sa, sb, sc, sd, hcn, hnx, tln, wj, pos, byt, num, flt, s, past, aside, line, need, left, slits, slB, slF, slT, at9, wd9, got, ans, worst, hR, hH, h150, hj, hnm, hgo, rfl⟩ := h
  obtain ⟨c, r, w, lim, tol, cart, wov, lot, sew, mis, cnt, col, len, lef, sbt, shd⟩ := S
  have hE : zRe c r w lim tol cart wov lot sew mis cnt col len lef sbt shd s := hR
  have hM := hE.1
  obtain ⟨-, -, -, -, -, hc1, hc20, hr1, hr16, hw, hn, hl⟩ := hE.1
  have hs := hE.2.2.2.2.2.2.2.2.2.2.1
  have hc4 : hcn ≤ 4 := hH.1
  have h4 : hnx < 4 := hH.2.1
  by_cases z : (zFr (nI 0) v (nI 7) && (zFr (nI 1) l (nI 999) && rShd x)) = true
  · by_cases z2 : cnt = 16
    · skip
      exact ⟨1, 6, 2, _, _, _, _, by decide, by decide, c_l_addLot_2 hG hNc (c_f_addLot_0_3 (c := c) (r := r) (w := w) (lim := lim) (tol := tol) (cart := cart) (wov := wov) (lot := lot) (sew := sew) (mis := mis) (cnt := cnt) (col := col) (len := len) (lef := lef) (sbt := sbt) (shd := shd) (X := (sa, sb, sc, sd, hcn, hnx, byt, tln, num, (1000 + wj), pos, flt)) (Y := (s, past, aside, hcn, byt, tln, k0, line, need, left, slits, slB, slF, slT, at9, wd9, got, ans, worst)) (out := out) hG hc20 hr16 hw hn hl hs hc1 h4 hc4 v l x ((if_pos z).trans (if_pos (nI_le (by omega) (by omega))))), m_addLot_2 hG hM v l x z z2, ⟨_, _, _, _, _, _, _, _, _, _, _, _, _, _, _, _, _, _, _, _, _, _, _, _, _, _, _, _, hR, hH, h150, hj, hnm, hgo, rfl⟩, fun z => absurd z (by decide), ⟨_, _, _, _, rfl⟩⟩
    · have z3 := z
      rw [Bool.and_eq_true, Bool.and_eq_true] at z3
      obtain ⟨l, rfl, hl9⟩ := zFr_nn (by decide) (by decide) z3.2.1
      have f := c_f_addLot (c := c) (r := r) (w := w) (lim := lim) (tol := tol) (cart := cart) (wov := wov) (lot := lot) (sew := sew) (mis := mis) (cnt := cnt) (col := col) (len := len) (lef := lef) (sbt := sbt) (shd := shd) (X := (sa, sb, sc, sd, hcn, hnx, byt, tln, num, (1000 + wj), pos, flt)) (Y := (s, past, aside, hcn, byt, tln, k0, line, need, left, slits, slB, slF, slT, at9, wd9, got, ans, worst)) (out := out) hG hc20 hr16 hw hn hl hs hc1 h4 hc4 v (nI l) x (by omega) ((if_pos z).trans (if_neg (nI_ge (by omega) (by omega))))
      rw [zSvd_t] at f
      have kk := k_add (v := v) hE (by omega) hl9.2 (rShd_v.mp z3.2.2)
      exact ⟨0, 0, 0, _, _, _, _, by decide, by decide, c_l_addLot hG f, m_addLot hG hM hc4 v (nI l) x z (by omega), ⟨_, _, _, _, _, _, _, _, _, _, _, _, _, _, _, _, _, _, _, _, _, _, _, _, _, _, _, _, (by rw [zRel_t]; exact kk), (k_save hR hH), h150, hj, hnm, hgo, rfl⟩, fun _ => zOut0, ⟨_, _, _, _, rfl⟩⟩
  · have z' : (zFr (nI 0) v (nI 7) && (zFr (nI 1) l (nI 999) && rShd x)) = false := by simpa using z
    exact ⟨1, 6, 1, _, _, _, _, by decide, by decide, c_l_addLot_1 hG hNc (c_f_addLot_0_2 (c := c) (r := r) (w := w) (lim := lim) (tol := tol) (cart := cart) (wov := wov) (lot := lot) (sew := sew) (mis := mis) (cnt := cnt) (col := col) (len := len) (lef := lef) (sbt := sbt) (shd := shd) (X := (sa, sb, sc, sd, hcn, hnx, byt, tln, num, (1000 + wj), pos, flt)) (Y := (s, past, aside, hcn, byt, tln, k0, line, need, left, slits, slB, slF, slT, at9, wd9, got, ans, worst)) (out := out) hG hc20 hr16 hw hn hl hs hc1 h4 hc4 v l x (if_neg z)), m_addLot_1 hG hM v l x z', ⟨_, _, _, _, _, _, _, _, _, _, _, _, _, _, _, _, _, _, _, _, _, _, _, _, _, _, _, _, hR, hH, h150, hj, hnm, hgo, rfl⟩, fun z => absurd z (by decide), ⟨_, _, _, _, rfl⟩⟩

set_option maxHeartbeats 1000000 in
set_option maxRecDepth 100000 in
theorem s_fill {G : zT} (hG : zAl G = false) (hNc : zNcs G) {k0 : Int32} {out : Nat → Int64} {H : zH} (h : zGd k0 out H) (x y u z9 v : Int32) : zStep G mL_fill mX10_fill [.int x, .int y, .int u, .int z9, .int v] H := by
  obtain ⟨S, sa, sb, sc, sd, hcn, hnx, tln, wj, pos, byt, num, flt, s, past, aside, line, need, left, slits, slB, slF, slT, at9, wd9, got, ans, worst, hR, hH, h150, hj, hnm, hgo, rfl⟩ := h
  obtain ⟨c, r, w, lim, tol, cart, wov, lot, sew, mis, cnt, col, len, lef, sbt, shd⟩ := S
  have hE : zRe c r w lim tol cart wov lot sew mis cnt col len lef sbt shd s := hR
  have hM := hE.1
  obtain ⟨-, -, -, -, -, hc1, hc20, hr1, hr16, hw, hn, hl⟩ := hE.1
  have hs := hE.2.2.2.2.2.2.2.2.2.2.1
  have hc4 : hcn ≤ 4 := hH.1
  have h4 : hnx < 4 := hH.2.1
  by_cases z : ((zIn x (nI c) && zIn y (nI r)) && (zIn u (nI c) && zIn z9 (nI r))) = true
  · by_cases z2 : u < x ∨ z9 < y ∨ zFr (nI 0) v (nI 7) = false
    · have hk : (if (zFr 0 x (nI c - 1) && zFr 0 y (nI r - 1)) && (zFr 0 u (nI c - 1) && zFr 0 z9 (nI r - 1)) then (if u < x then (2 : Int32) else if z9 < y then 2 else if zFr 0 v 7 then 0 else 2) else 1) = 2 := by
        rw [zFr0_in (by omega : c < 2 ^ 31), zFr0_in (by omega : r < 2 ^ 31), zFr0_in (by omega : c < 2 ^ 31), zFr0_in (by omega : r < 2 ^ 31), if_pos z]
        by_cases w1 : u < x
        · exact if_pos w1
        · rw [if_neg w1]
          by_cases w2 : z9 < y
          · exact if_pos w2
          · rw [if_neg w2]
            rcases z2 with k | k | k
            · exact absurd k w1
            · exact absurd k w2
            · exact if_neg (fun q => by rw [show zFr 0 v 7 = zFr (nI 0) v (nI 7) from rfl, k] at q; exact absurd q (by decide))
      exact ⟨1, 6, 2, _, _, _, _, by decide, by decide, c_l_fill_2 hG hNc (c_g_fill_0_2 (c := c) (r := r) (w := w) (lim := lim) (tol := tol) (cart := cart) (wov := wov) (lot := lot) (sew := sew) (mis := mis) (cnt := cnt) (col := col) (len := len) (lef := lef) (sbt := sbt) (shd := shd) (X := (sa, sb, sc, sd, hcn, hnx, byt, tln, num, (1000 + wj), pos, flt)) (Y := (s, past, aside, hcn, byt, tln, k0, line, need, left, slits, slB, slF, slT, at9, wd9, got, ans, worst)) (out := out) hG hc20 hr16 hw hn hl hs hc1 h4 hc4 x y u z9 v hk), m_fill_2 hG hM x y u z9 v z z2, ⟨_, _, _, _, _, _, _, _, _, _, _, _, _, _, _, _, _, _, _, _, _, _, _, _, _, _, _, _, hR, hH, h150, hj, hnm, hgo, rfl⟩, fun z => absurd z (by decide), ⟨_, _, _, _, rfl⟩⟩
    · have z3 := z
      rw [Bool.and_eq_true, Bool.and_eq_true, Bool.and_eq_true] at z3
      obtain ⟨x, rfl, hx⟩ := zIn_nn (by omega) z3.1.1
      obtain ⟨y, rfl, hy⟩ := zIn_nn (by omega) z3.1.2
      obtain ⟨u, rfl, hu⟩ := zIn_nn (by omega) z3.2.1
      obtain ⟨z9, rfl, hz⟩ := zIn_nn (by omega) z3.2.2
      have w1 : ¬ nI u < nI x := fun k => z2 (Or.inl k)
      have w2 : ¬ nI z9 < nI y := fun k => z2 (Or.inr (Or.inl k))
      have w3 : zFr (nI 0) v (nI 7) = true := by
        cases q : zFr (nI 0) v (nI 7)
        · exact absurd (Or.inr (Or.inr q)) z2
        · rfl
      obtain ⟨v, rfl, hv⟩ := zFr_nn (by decide) (by decide) w3
      have w1' := m_nlt (by omega) (by omega) w1
      have w2' := m_nlt (by omega) (by omega) w2
      have hk : (if (zFr 0 (nI x) (nI c - 1) && zFr 0 (nI y) (nI r - 1)) && (zFr 0 (nI u) (nI c - 1) && zFr 0 (nI z9) (nI r - 1)) then (if nI u < nI x then (2 : Int32) else if nI z9 < nI y then 2 else if zFr 0 (nI v) 7 then 0 else 2) else 1) = 0 := by
        rw [zFr0_in (by omega : c < 2 ^ 31), zFr0_in (by omega : r < 2 ^ 31), zFr0_in (by omega : c < 2 ^ 31), zFr0_in (by omega : r < 2 ^ 31), if_pos z, if_neg w1, if_neg w2]
        exact if_pos w3
      have f := c_f_fill (c := c) (r := r) (w := w) (lim := lim) (tol := tol) (cart := cart) (wov := wov) (lot := lot) (sew := sew) (mis := mis) (cnt := cnt) (col := col) (len := len) (lef := lef) (sbt := sbt) (shd := shd) (X := (sa, sb, sc, sd, hcn, hnx, byt, tln, num, (1000 + wj), pos, flt)) (Y := (s, past, aside, hcn, byt, tln, k0, line, need, left, slits, slB, slF, slT, at9, wd9, got, ans, worst)) (out := out) hG hc20 hr16 hw hn hl hs hc1 h4 hc4 x y u z9 (nI v) w1' hu w2' hz hk
      rw [zSvd_t] at f
      have kk := (k_fill hE (by omega : v < 8) w1' hu w2' hz).1
      exact ⟨0, 0, 0, _, _, _, _, by decide, by decide, c_l_fill hG f, m_fill hG hM hc4 x y u z9 (nI v) w1' hu w2' hz w3, ⟨_, _, _, _, _, _, _, _, _, _, _, _, _, _, _, _, _, _, _, _, _, _, _, _, _, _, _, _, (by rw [zRel_t]; exact kk), (k_save hR hH), h150, hj, hnm, hgo, rfl⟩, fun _ => zOut0.trans (congrArg Int32.toInt64 (congrArg nI (k_fill hE (by omega : v < 8) w1' hu w2' hz).2)), ⟨_, _, _, _, rfl⟩⟩
  · have z' : ((zIn x (nI c) && zIn y (nI r)) && (zIn u (nI c) && zIn z9 (nI r))) = false := by simpa using z
    have hk : (if (zFr 0 x (nI c - 1) && zFr 0 y (nI r - 1)) && (zFr 0 u (nI c - 1) && zFr 0 z9 (nI r - 1)) then (if u < x then (2 : Int32) else if z9 < y then 2 else if zFr 0 v 7 then 0 else 2) else 1) = 1 := by
      rw [zFr0_in (by omega : c < 2 ^ 31), zFr0_in (by omega : r < 2 ^ 31), zFr0_in (by omega : c < 2 ^ 31), zFr0_in (by omega : r < 2 ^ 31)]
      exact if_neg z
    exact ⟨1, 6, 1, _, _, _, _, by decide, by decide, c_l_fill_1 hG hNc (c_g_fill_0_1 (c := c) (r := r) (w := w) (lim := lim) (tol := tol) (cart := cart) (wov := wov) (lot := lot) (sew := sew) (mis := mis) (cnt := cnt) (col := col) (len := len) (lef := lef) (sbt := sbt) (shd := shd) (X := (sa, sb, sc, sd, hcn, hnx, byt, tln, num, (1000 + wj), pos, flt)) (Y := (s, past, aside, hcn, byt, tln, k0, line, need, left, slits, slB, slF, slT, at9, wd9, got, ans, worst)) (out := out) hG hc20 hr16 hw hn hl hs hc1 h4 hc4 x y u z9 v hk), m_fill_1 hG hM x y u z9 v z', ⟨_, _, _, _, _, _, _, _, _, _, _, _, _, _, _, _, _, _, _, _, _, _, _, _, _, _, _, _, hR, hH, h150, hj, hnm, hgo, rfl⟩, fun z => absurd z (by decide), ⟨_, _, _, _, rfl⟩⟩

set_option maxHeartbeats 1000000 in
set_option maxRecDepth 100000 in
theorem s_cell {G : zT} (hG : zAl G = false) (hNc : zNcs G) {k0 : Int32} {out : Nat → Int64} {H : zH} (h : zGd k0 out H) (x y t : Int32) : zStep G mL_cell mX10_cell [.int x, .int y, .int t] H := by
  obtain ⟨S, sa, sb, sc, sd, hcn, hnx, tln, wj, pos, byt, num, flt, s, past, aside, line, need, left, slits, slB, slF, slT, at9, wd9, got, ans, worst, hR, hH, h150, hj, hnm, hgo, rfl⟩ := h
  obtain ⟨c, r, w, lim, tol, cart, wov, lot, sew, mis, cnt, col, len, lef, sbt, shd⟩ := S
  have hE : zRe c r w lim tol cart wov lot sew mis cnt col len lef sbt shd s := hR
  have hM := hE.1
  obtain ⟨-, -, -, -, -, hc1, hc20, hr1, hr16, hw, hn, hl⟩ := hE.1
  have hs := hE.2.2.2.2.2.2.2.2.2.2.1
  have hc4 : hcn ≤ 4 := hH.1
  have h4 : hnx < 4 := hH.2.1
  by_cases z : (zIn x (nI c) && zIn y (nI r)) = true
  · have hk : (zFr 0 x (nI c - 1) && zFr 0 y (nI r - 1)) = true := by
      rw [zFr0_in (by omega : c < 2 ^ 31), zFr0_in (by omega : r < 2 ^ 31)]
      exact z
    by_cases z2 : zFr (nI 0) t (nI 3) = true
    · have z3 := z
      rw [Bool.and_eq_true] at z3
      obtain ⟨x, rfl, hx⟩ := zIn_nn (by omega) z3.1
      obtain ⟨y, rfl, hy⟩ := zIn_nn (by omega) z3.2
      obtain ⟨t, rfl, ht⟩ := zFr_nn (by decide) (by decide) z2
      have f := c_f_cell (c := c) (r := r) (w := w) (lim := lim) (tol := tol) (cart := cart) (wov := wov) (lot := lot) (sew := sew) (mis := mis) (cnt := cnt) (col := col) (len := len) (lef := lef) (sbt := sbt) (shd := shd) (X := (sa, sb, sc, sd, hcn, hnx, byt, tln, num, (1000 + wj), pos, flt)) (Y := (s, past, aside, hcn, byt, tln, k0, line, need, left, slits, slB, slF, slT, at9, wd9, got, ans, worst)) (out := out) hG hc20 hr16 hw hn hl hs hc1 h4 hc4 (nI x) (nI y) (nI t) hk z2
      exact ⟨0, 0, 0, _, _, _, _, by decide, by decide, c_l_cell hG f, m_cell hG hM x y t hx hy z2 ht.2, ⟨_, _, _, _, _, _, _, _, _, _, _, _, _, _, _, _, _, _, _, _, _, _, _, _, _, _, _, _, hR, hH, h150, hj, hnm, hgo, rfl⟩, fun _ => zOut0.trans (congrArg Int32.toInt64 (q_cv hE.2.2.2.1 hE.2.2.2.2.1 hE.2.2.2.2.2.1 hn hw hx hy ht.2)), ⟨_, _, _, _, rfl⟩⟩
    · have z' : zFr (nI 0) t (nI 3) = false := by simpa using z2
      exact ⟨1, 6, 2, _, _, _, _, by decide, by decide, c_l_cell_2 hG hNc (c_f_cell_1_2 (c := c) (r := r) (w := w) (lim := lim) (tol := tol) (cart := cart) (wov := wov) (lot := lot) (sew := sew) (mis := mis) (cnt := cnt) (col := col) (len := len) (lef := lef) (sbt := sbt) (shd := shd) (X := (sa, sb, sc, sd, hcn, hnx, byt, tln, num, (1000 + wj), pos, flt)) (Y := (s, past, aside, hcn, byt, tln, k0, line, need, left, slits, slB, slF, slT, at9, wd9, got, ans, worst)) (out := out) hG hc20 hr16 hw hn hl hs hc1 h4 hc4 x y t hk z'), m_cell_2 hG hM x y t z z', ⟨_, _, _, _, _, _, _, _, _, _, _, _, _, _, _, _, _, _, _, _, _, _, _, _, _, _, _, _, hR, hH, h150, hj, hnm, hgo, rfl⟩, fun z => absurd z (by decide), ⟨_, _, _, _, rfl⟩⟩
  · have z' : (zIn x (nI c) && zIn y (nI r)) = false := by simpa using z
    have hk : (zFr 0 x (nI c - 1) && zFr 0 y (nI r - 1)) = false := by
      rw [zFr0_in (by omega : c < 2 ^ 31), zFr0_in (by omega : r < 2 ^ 31)]
      exact z'
    exact ⟨1, 6, 1, _, _, _, _, by decide, by decide, c_l_cell_1 hG hNc (c_f_cell_0_1 (c := c) (r := r) (w := w) (lim := lim) (tol := tol) (cart := cart) (wov := wov) (lot := lot) (sew := sew) (mis := mis) (cnt := cnt) (col := col) (len := len) (lef := lef) (sbt := sbt) (shd := shd) (X := (sa, sb, sc, sd, hcn, hnx, byt, tln, num, (1000 + wj), pos, flt)) (Y := (s, past, aside, hcn, byt, tln, k0, line, need, left, slits, slB, slF, slT, at9, wd9, got, ans, worst)) (out := out) hG hc20 hr16 hw hn hl hs hc1 h4 hc4 x y t hk), m_cell_1 hG hM x y t z', ⟨_, _, _, _, _, _, _, _, _, _, _, _, _, _, _, _, _, _, _, _, _, _, _, _, _, _, _, _, hR, hH, h150, hj, hnm, hgo, rfl⟩, fun z => absurd z (by decide), ⟨_, _, _, _, rfl⟩⟩

set_option maxHeartbeats 1000000 in
set_option maxRecDepth 100000 in
theorem s_row {G : zT} (hG : zAl G = false) (hNc : zNcs G) {k0 : Int32} {out : Nat → Int64} {H : zH} (h : zGd k0 out H) (y t : Int32) : zStep G mL_row mX10_row [.int y, .int t] H := by
  obtain ⟨S, sa, sb, sc, sd, hcn, hnx, tln, wj, pos, byt, num, flt, s, past, aside, line, need, left, slits, slB, slF, slT, at9, wd9, got, ans, worst, hR, hH, h150, hj, hnm, hgo, rfl⟩ := h
  obtain ⟨c, r, w, lim, tol, cart, wov, lot, sew, mis, cnt, col, len, lef, sbt, shd⟩ := S
  have hE : zRe c r w lim tol cart wov lot sew mis cnt col len lef sbt shd s := hR
  have hM := hE.1
  obtain ⟨-, -, -, -, -, hc1, hc20, hr1, hr16, hw, hn, hl⟩ := hE.1
  have hs := hE.2.2.2.2.2.2.2.2.2.2.1
  have hc4 : hcn ≤ 4 := hH.1
  have h4 : hnx < 4 := hH.2.1
  by_cases z : zIn y (nI w) = true
  · by_cases z2 : zFr (nI 0) t (nI 4) = true
    · obtain ⟨y, rfl, hy⟩ := zIn_nn (by omega) z
      obtain ⟨t, rfl, ht⟩ := zFr_nn (by decide) (by decide) z2
      have f := c_f_row (c := c) (r := r) (w := w) (lim := lim) (tol := tol) (cart := cart) (wov := wov) (lot := lot) (sew := sew) (mis := mis) (cnt := cnt) (col := col) (len := len) (lef := lef) (sbt := sbt) (shd := shd) (X := (sa, sb, sc, sd, hcn, hnx, byt, tln, num, (1000 + wj), pos, flt)) (Y := (s, past, aside, hcn, byt, tln, k0, line, need, left, slits, slB, slF, slT, at9, wd9, got, ans, worst)) (out := out) hG hc20 hr16 hw hn hl hs hc1 h4 hc4 (nI y) (nI t) z z2
      exact ⟨0, 0, 0, _, _, _, _, by decide, by decide, c_l_row hG f, m_row hG hM y t hy z2 ht.2, ⟨_, _, _, _, _, _, _, _, _, _, _, _, _, _, _, _, _, _, _, _, _, _, _, _, _, _, _, _, hR, hH, h150, hj, hnm, hgo, rfl⟩, fun _ => zOut0.trans (congrArg Int32.toInt64 (q_rv hE.2.2.2.1 hE.2.2.2.2.1 hE.2.2.2.2.2.1 hn hw hy ht.2)), ⟨_, _, _, _, rfl⟩⟩
    · have z' : zFr (nI 0) t (nI 4) = false := by simpa using z2
      exact ⟨1, 6, 2, _, _, _, _, by decide, by decide, c_l_row_2 hG hNc (c_f_row_1_2 (c := c) (r := r) (w := w) (lim := lim) (tol := tol) (cart := cart) (wov := wov) (lot := lot) (sew := sew) (mis := mis) (cnt := cnt) (col := col) (len := len) (lef := lef) (sbt := sbt) (shd := shd) (X := (sa, sb, sc, sd, hcn, hnx, byt, tln, num, (1000 + wj), pos, flt)) (Y := (s, past, aside, hcn, byt, tln, k0, line, need, left, slits, slB, slF, slT, at9, wd9, got, ans, worst)) (out := out) hG hc20 hr16 hw hn hl hs hc1 h4 hc4 y t z z'), m_row_2 hG hM y t z z', ⟨_, _, _, _, _, _, _, _, _, _, _, _, _, _, _, _, _, _, _, _, _, _, _, _, _, _, _, _, hR, hH, h150, hj, hnm, hgo, rfl⟩, fun z => absurd z (by decide), ⟨_, _, _, _, rfl⟩⟩
  · have z' : zIn y (nI w) = false := by simpa using z
    exact ⟨1, 6, 1, _, _, _, _, by decide, by decide, c_l_row_1 hG hNc (c_f_row_0_1 (c := c) (r := r) (w := w) (lim := lim) (tol := tol) (cart := cart) (wov := wov) (lot := lot) (sew := sew) (mis := mis) (cnt := cnt) (col := col) (len := len) (lef := lef) (sbt := sbt) (shd := shd) (X := (sa, sb, sc, sd, hcn, hnx, byt, tln, num, (1000 + wj), pos, flt)) (Y := (s, past, aside, hcn, byt, tln, k0, line, need, left, slits, slB, slF, slT, at9, wd9, got, ans, worst)) (out := out) hG hc20 hr16 hw hn hl hs hc1 h4 hc4 y t z'), m_row_1 hG hM y t z', ⟨_, _, _, _, _, _, _, _, _, _, _, _, _, _, _, _, _, _, _, _, _, _, _, _, _, _, _, _, hR, hH, h150, hj, hnm, hgo, rfl⟩, fun z => absurd z (by decide), ⟨_, _, _, _, rfl⟩⟩

set_option maxHeartbeats 1000000 in
set_option maxRecDepth 100000 in
theorem s_lot {G : zT} (hG : zAl G = false) (hNc : zNcs G) {k0 : Int32} {out : Nat → Int64} {H : zH} (h : zGd k0 out H) (y t : Int32) : zStep G mL_lot mX10_lot [.int y, .int t] H := by
  obtain ⟨S, sa, sb, sc, sd, hcn, hnx, tln, wj, pos, byt, num, flt, s, past, aside, line, need, left, slits, slB, slF, slT, at9, wd9, got, ans, worst, hR, hH, h150, hj, hnm, hgo, rfl⟩ := h
  obtain ⟨c, r, w, lim, tol, cart, wov, lot, sew, mis, cnt, col, len, lef, sbt, shd⟩ := S
  have hE : zRe c r w lim tol cart wov lot sew mis cnt col len lef sbt shd s := hR
  have hM := hE.1
  obtain ⟨-, -, -, -, -, hc1, hc20, hr1, hr16, hw, hn, hl⟩ := hE.1
  have hs := hE.2.2.2.2.2.2.2.2.2.2.1
  have hc4 : hcn ≤ 4 := hH.1
  have h4 : hnx < 4 := hH.2.1
  by_cases z : zIn y (nI cnt) = true
  · by_cases z2 : zFr (nI 0) t (nI 5) = true
    · obtain ⟨y, rfl, hy⟩ := zIn_nn (by omega) z
      obtain ⟨t, rfl, ht⟩ := zFr_nn (by decide) (by decide) z2
      have f := c_f_lot (c := c) (r := r) (w := w) (lim := lim) (tol := tol) (cart := cart) (wov := wov) (lot := lot) (sew := sew) (mis := mis) (cnt := cnt) (col := col) (len := len) (lef := lef) (sbt := sbt) (shd := shd) (X := (sa, sb, sc, sd, hcn, hnx, byt, tln, num, (1000 + wj), pos, flt)) (Y := (s, past, aside, hcn, byt, tln, k0, line, need, left, slits, slB, slF, slT, at9, wd9, got, ans, worst)) (out := out) hG hc20 hr16 hw hn hl hs hc1 h4 hc4 (nI y) (nI t) z z2
      exact ⟨0, 0, 0, _, _, _, _, by decide, by decide, c_l_lot hG f, m_lot hG hM y t hy z2 ht.2, ⟨_, _, _, _, _, _, _, _, _, _, _, _, _, _, _, _, _, _, _, _, _, _, _, _, _, _, _, _, hR, hH, h150, hj, hnm, hgo, rfl⟩, fun _ => zOut0.trans (congrArg Int32.toInt64 (q_lv hE.2.2.2.2.2.2.2.2.1 hE.2.2.2.2.2.1 hc20 (by omega) hn hy ht.2)), ⟨_, _, _, _, rfl⟩⟩
    · have z' : zFr (nI 0) t (nI 5) = false := by simpa using z2
      exact ⟨1, 6, 2, _, _, _, _, by decide, by decide, c_l_lot_2 hG hNc (c_f_lot_1_2 (c := c) (r := r) (w := w) (lim := lim) (tol := tol) (cart := cart) (wov := wov) (lot := lot) (sew := sew) (mis := mis) (cnt := cnt) (col := col) (len := len) (lef := lef) (sbt := sbt) (shd := shd) (X := (sa, sb, sc, sd, hcn, hnx, byt, tln, num, (1000 + wj), pos, flt)) (Y := (s, past, aside, hcn, byt, tln, k0, line, need, left, slits, slB, slF, slT, at9, wd9, got, ans, worst)) (out := out) hG hc20 hr16 hw hn hl hs hc1 h4 hc4 y t z z'), m_lot_2 hG hM y t z z', ⟨_, _, _, _, _, _, _, _, _, _, _, _, _, _, _, _, _, _, _, _, _, _, _, _, _, _, _, _, hR, hH, h150, hj, hnm, hgo, rfl⟩, fun z => absurd z (by decide), ⟨_, _, _, _, rfl⟩⟩
  · have z' : zIn y (nI cnt) = false := by simpa using z
    exact ⟨1, 6, 1, _, _, _, _, by decide, by decide, c_l_lot_1 hG hNc (c_f_lot_0_1 (c := c) (r := r) (w := w) (lim := lim) (tol := tol) (cart := cart) (wov := wov) (lot := lot) (sew := sew) (mis := mis) (cnt := cnt) (col := col) (len := len) (lef := lef) (sbt := sbt) (shd := shd) (X := (sa, sb, sc, sd, hcn, hnx, byt, tln, num, (1000 + wj), pos, flt)) (Y := (s, past, aside, hcn, byt, tln, k0, line, need, left, slits, slB, slF, slT, at9, wd9, got, ans, worst)) (out := out) hG hc20 hr16 hw hn hl hs hc1 h4 hc4 y t z'), m_lot_1 hG hM y t z', ⟨_, _, _, _, _, _, _, _, _, _, _, _, _, _, _, _, _, _, _, _, _, _, _, _, _, _, _, _, hR, hH, h150, hj, hnm, hgo, rfl⟩, fun z => absurd z (by decide), ⟨_, _, _, _, rfl⟩⟩

set_option maxHeartbeats 1000000 in
set_option maxRecDepth 100000 in
theorem s_color {G : zT} (hG : zAl G = false) (hNc : zNcs G) {k0 : Int32} {out : Nat → Int64} {H : zH} (h : zGd k0 out H) (v t : Int32) : zStep G mL_color mX10_color [.int v, .int t] H := by
  obtain ⟨S, sa, sb, sc, sd, hcn, hnx, tln, wj, pos, byt, num, flt, s, past, aside, line, need, left, slits, slB, slF, slT, at9, wd9, got, ans, worst, hR, hH, h150, hj, hnm, hgo, rfl⟩ := h
  obtain ⟨c, r, w, lim, tol, cart, wov, lot, sew, mis, cnt, col, len, lef, sbt, shd⟩ := S
  have hE : zRe c r w lim tol cart wov lot sew mis cnt col len lef sbt shd s := hR
  have hM := hE.1
  obtain ⟨-, -, -, -, -, hc1, hc20, hr1, hr16, hw, hn, hl⟩ := hE.1
  have hs := hE.2.2.2.2.2.2.2.2.2.2.1
  have hc4 : hcn ≤ 4 := hH.1
  have h4 : hnx < 4 := hH.2.1
  by_cases z : zFr (nI 0) v (nI 7) = true
  · by_cases z2 : zFr (nI 0) t (nI 5) = true
    · obtain ⟨t, rfl, ht⟩ := zFr_nn (by decide) (by decide) z2
      have hv : ¬ v = -1 := fun q => by rw [q] at z; exact absurd z (by decide)
      have f := c_f_color (c := c) (r := r) (w := w) (lim := lim) (tol := tol) (cart := cart) (wov := wov) (lot := lot) (sew := sew) (mis := mis) (cnt := cnt) (col := col) (len := len) (lef := lef) (sbt := sbt) (shd := shd) (X := (sa, sb, sc, sd, hcn, hnx, byt, tln, num, (1000 + wj), pos, flt)) (Y := (s, past, aside, hcn, byt, tln, k0, line, need, left, slits, slB, slF, slT, at9, wd9, got, ans, worst)) (out := out) hG hc20 hr16 hw hn hl hs hc1 h4 hc4 v (nI t) z z2
      exact ⟨0, 0, 0, _, _, _, _, by decide, by decide, c_l_color hG f, m_color hG hM v t z z2 ht.2, ⟨_, _, _, _, _, _, _, _, _, _, _, _, _, _, _, _, _, _, _, _, _, _, _, _, _, _, _, _, hR, hH, h150, hj, hnm, hgo, rfl⟩, fun _ => zOut0.trans (congrArg Int32.toInt64 (q_cvl hE.2.2.2.1 hE.2.2.2.2.1 hE.2.2.2.2.2.2.2.2.1 hn hw hv ht.2)), ⟨_, _, _, _, rfl⟩⟩
    · have z' : zFr (nI 0) t (nI 5) = false := by simpa using z2
      exact ⟨1, 6, 1, _, _, _, _, by decide, by decide, c_l_color_1 hG hNc (c_f_color_1_2 (c := c) (r := r) (w := w) (lim := lim) (tol := tol) (cart := cart) (wov := wov) (lot := lot) (sew := sew) (mis := mis) (cnt := cnt) (col := col) (len := len) (lef := lef) (sbt := sbt) (shd := shd) (X := (sa, sb, sc, sd, hcn, hnx, byt, tln, num, (1000 + wj), pos, flt)) (Y := (s, past, aside, hcn, byt, tln, k0, line, need, left, slits, slB, slF, slT, at9, wd9, got, ans, worst)) (out := out) hG hc20 hr16 hw hn hl hs hc1 h4 hc4 v t z z'), m_color_1 hG hM v t (by rw [z, z']; rfl), ⟨_, _, _, _, _, _, _, _, _, _, _, _, _, _, _, _, _, _, _, _, _, _, _, _, _, _, _, _, hR, hH, h150, hj, hnm, hgo, rfl⟩, fun z => absurd z (by decide), ⟨_, _, _, _, rfl⟩⟩
  · have z' : zFr (nI 0) v (nI 7) = false := by simpa using z
    exact ⟨1, 6, 1, _, _, _, _, by decide, by decide, c_l_color_1 hG hNc (c_f_color_0_2 (c := c) (r := r) (w := w) (lim := lim) (tol := tol) (cart := cart) (wov := wov) (lot := lot) (sew := sew) (mis := mis) (cnt := cnt) (col := col) (len := len) (lef := lef) (sbt := sbt) (shd := shd) (X := (sa, sb, sc, sd, hcn, hnx, byt, tln, num, (1000 + wj), pos, flt)) (Y := (s, past, aside, hcn, byt, tln, k0, line, need, left, slits, slB, slF, slT, at9, wd9, got, ans, worst)) (out := out) hG hc20 hr16 hw hn hl hs hc1 h4 hc4 v t z'), m_color_1 hG hM v t (by rw [z']; rfl), ⟨_, _, _, _, _, _, _, _, _, _, _, _, _, _, _, _, _, _, _, _, _, _, _, _, _, _, _, _, hR, hH, h150, hj, hnm, hgo, rfl⟩, fun z => absurd z (by decide), ⟨_, _, _, _, rfl⟩⟩

theorem zRe.shs {c r w lim : Nat} {tol : Int32} {cart wov lot sew mis : Nat → Int32} {cnt : Nat} {col len lef sbt : Nat → Int32} {shd : Nat → UInt32} {s : Nat → Int32} (h : zRe c r w lim tol cart wov lot sew mis cnt col len lef sbt shd s) : rShs s := fun l hl => by
  rcases hl with rfl | ⟨j, hj, rfl⟩
  · rw [show rIx (-1) 3 = 6 from by decide, h.2.2.2.2.2.2.2.2.2.2.2]
    exact Or.inr (by decide)
  · rw [rIx_n (by omega)]
    exact (h.2.2.2.2.2.2.2.2.1 j hj).2.2.2.2.2
theorem zMx0_e (x : Int32) : zMx0 x = if x < 0 then nI 0 else x := by
  unfold zMx0
  by_cases h1 : x < 0
  · rw [if_pos h1, if_neg (fun h2 => Int32.lt_irrefl (Int32.lt_trans h1 h2)), nI_0]
  · rw [if_neg h1]
    by_cases h2 : 0 < x
    · rw [if_pos h2]
    · rw [if_neg h2]
      exact Int32.le_antisymm (Int32.not_lt.mp h1) (Int32.not_lt.mp h2)
theorem zHp_len {wov : Nat → Int32} {c w lm : Nat} (hc : c ≤ 20) (hw : w ≤ 16) : (zSL (zSlP wov c w lm) c w).length < 2 ^ 20 := by
  rw [zSL_len]
  have := zSN_le (f := fun b => zCt (zSlP wov c w lm b) w) (m := 16) (fun k => Nat.le_trans (zCt_le _ _) (by omega)) c
  omega

set_option maxHeartbeats 1000000 in
set_option maxRecDepth 100000 in
theorem s_whole {G : zT} (hG : zAl G = false) (hNc : zNcs G) {k0 : Int32} {out : Nat → Int64} {H : zH} (h : zGd k0 out H) (t : Int32) : zStep G mL_whole mX10_whole [.int t] H := by
  obtain ⟨S, sa, sb, sc, sd, hcn, hnx, tln, wj, pos, byt, num, flt, s, past, aside, line, need, left, slits, slB, slF, slT, at9, wd9, got, ans, worst, hR, hH, h150, hj, hnm, hgo, rfl⟩ := h
  obtain ⟨c, r, w, lim, tol, cart, wov, lot, sew, mis, cnt, col, len, lef, sbt, shd⟩ := S
  have hE : zRe c r w lim tol cart wov lot sew mis cnt col len lef sbt shd s := hR
  have hM := hE.1
  obtain ⟨-, -, -, -, -, hc1, hc20, hr1, hr16, hw, hn, hl⟩ := hE.1
  have hs := hE.2.2.2.2.2.2.2.2.2.2.1
  have hc4 : hcn ≤ 4 := hH.1
  have h4 : hnx < 4 := hH.2.1
  by_cases z : zFr (nI 0) t (nI 14) = true
  · obtain ⟨t, rfl, ht⟩ := zFr_nn (by decide) (by decide) z
    have f := c_f_whole (c := c) (r := r) (w := w) (lim := lim) (tol := tol) (cart := cart) (wov := wov) (lot := lot) (sew := sew) (mis := mis) (cnt := cnt) (col := col) (len := len) (lef := lef) (sbt := sbt) (shd := shd) (X := (sa, sb, sc, sd, hcn, hnx, byt, tln, num, (1000 + wj), pos, flt)) (Y := (s, past, aside, hcn, byt, tln, k0, line, need, left, slits, slB, slF, slT, at9, wd9, got, ans, worst)) (out := out) hG hc20 hr16 hw hn hl hs hc1 h4 hc4 t ht.2 z
    exact ⟨0, 0, 0, _, _, _, _, by decide, by decide, c_l_whole hG f, m_whole hG hM hE.shs (fun y b hy hb => by obtain ⟨-, j, h1, h2⟩ := hE.2.2.2.2.2.1 y b hy hb; exact Or.inr ⟨j, by omega, h2⟩) (by rw [hE.2.2.1.1]; exact hE.2.2.1.2) t z ht.2, ⟨_, _, _, _, _, _, _, _, _, _, _, _, _, _, _, _, _, _, _, _, _, _, _, _, _, _, _, _, hR, hH, h150, hj, hnm, hgo, rfl⟩, fun _ => zOut0.trans (congrArg Int32.toInt64 (q_wh hE (line, slits, slB, slF, slT, worst))), ⟨_, _, _, _, rfl⟩⟩
  · have z' : zFr (nI 0) t (nI 14) = false := by simpa using z
    exact ⟨1, 6, 1, _, _, _, _, by decide, by decide, c_l_whole_1 hG hNc (c_g_whole_0_2 (c := c) (r := r) (w := w) (lim := lim) (tol := tol) (cart := cart) (wov := wov) (lot := lot) (sew := sew) (mis := mis) (cnt := cnt) (col := col) (len := len) (lef := lef) (sbt := sbt) (shd := shd) (X := (sa, sb, sc, sd, hcn, hnx, byt, tln, num, (1000 + wj), pos, flt)) (Y := (s, past, aside, hcn, byt, tln, k0, line, need, left, slits, slB, slF, slT, at9, wd9, got, ans, worst)) (out := out) hG hc20 hr16 hw hn hl hs hc1 h4 hc4 t z'), m_whole_1 hG t z', ⟨_, _, _, _, _, _, _, _, _, _, _, _, _, _, _, _, _, _, _, _, _, _, _, _, _, _, _, _, hR, hH, h150, hj, hnm, hgo, rfl⟩, fun z => absurd z (by decide), ⟨_, _, _, _, rfl⟩⟩

set_option maxHeartbeats 1000000 in
set_option maxRecDepth 100000 in
theorem s_meanShade {G : zT} (hG : zAl G = false) (hNc : zNcs G) {k0 : Int32} {out : Nat → Int64} {H : zH} (h : zGd k0 out H) (v : Int32) : zStep G mL_meanShade mX10_meanShade [.int v] H := by
  obtain ⟨S, sa, sb, sc, sd, hcn, hnx, tln, wj, pos, byt, num, flt, s, past, aside, line, need, left, slits, slB, slF, slT, at9, wd9, got, ans, worst, hR, hH, h150, hj, hnm, hgo, rfl⟩ := h
  obtain ⟨c, r, w, lim, tol, cart, wov, lot, sew, mis, cnt, col, len, lef, sbt, shd⟩ := S
  have hE : zRe c r w lim tol cart wov lot sew mis cnt col len lef sbt shd s := hR
  have hM := hE.1
  obtain ⟨-, -, -, -, -, hc1, hc20, hr1, hr16, hw, hn, hl⟩ := hE.1
  have hs := hE.2.2.2.2.2.2.2.2.2.2.1
  have hc4 : hcn ≤ 4 := hH.1
  have h4 : hnx < 4 := hH.2.1
  by_cases z : zFr (nI 0) v (nI 7) = true
  · skip
    have f := c_f_meanShade (c := c) (r := r) (w := w) (lim := lim) (tol := tol) (cart := cart) (wov := wov) (lot := lot) (sew := sew) (mis := mis) (cnt := cnt) (col := col) (len := len) (lef := lef) (sbt := sbt) (shd := shd) (X := (sa, sb, sc, sd, hcn, hnx, byt, tln, num, (1000 + wj), pos, flt)) (Y := (s, past, aside, hcn, byt, tln, k0, line, need, left, slits, slB, slF, slT, at9, wd9, got, ans, worst)) (out := out) hG hc20 hr16 hw hn hl hs hc1 h4 hc4 v z
    exact ⟨0, 0, 0, _, _, _, _, by decide, by decide, c_l_meanShade hG f, m_meanShade hG hM hE.shs (fun y b hy hb => by obtain ⟨-, j, h1, h2⟩ := hE.2.2.2.2.2.1 y b hy hb; exact Or.inr ⟨j, by omega, h2⟩) v z, ⟨_, _, _, _, _, _, _, _, _, _, _, _, _, _, _, _, _, _, _, _, _, _, _, _, _, _, _, _, hR, hH, h150, hj, hnm, hgo, rfl⟩, fun _ => zOut0.trans (congrArg Int32.toInt64 (q_mean hE.2.2.2.2.2.2.2.2.1 hE.2.2.2.2.1 hE.2.2.2.2.2.1 hn)), ⟨_, _, _, _, rfl⟩⟩
  · have z' : zFr (nI 0) v (nI 7) = false := by simpa using z
    exact ⟨1, 6, 1, _, _, _, _, by decide, by decide, c_l_meanShade_1 hG hNc (c_f_meanShade_0_2 (c := c) (r := r) (w := w) (lim := lim) (tol := tol) (cart := cart) (wov := wov) (lot := lot) (sew := sew) (mis := mis) (cnt := cnt) (col := col) (len := len) (lef := lef) (sbt := sbt) (shd := shd) (X := (sa, sb, sc, sd, hcn, hnx, byt, tln, num, (1000 + wj), pos, flt)) (Y := (s, past, aside, hcn, byt, tln, k0, line, need, left, slits, slB, slF, slT, at9, wd9, got, ans, worst)) (out := out) hG hc20 hr16 hw hn hl hs hc1 h4 hc4 v z'), m_meanShade_1 hG v z', ⟨_, _, _, _, _, _, _, _, _, _, _, _, _, _, _, _, _, _, _, _, _, _, _, _, _, _, _, _, hR, hH, h150, hj, hnm, hgo, rfl⟩, fun z => absurd z (by decide), ⟨_, _, _, _, rfl⟩⟩

set_option maxHeartbeats 1000000 in
set_option maxRecDepth 100000 in
theorem s_contrast {G : zT} (hG : zAl G = false) (hNc : zNcs G) {k0 : Int32} {out : Nat → Int64} {H : zH} (h : zGd k0 out H) (y : Int32) : zStep G mL_contrast mX10_contrast [.int y] H := by
  obtain ⟨S, sa, sb, sc, sd, hcn, hnx, tln, wj, pos, byt, num, flt, s, past, aside, line, need, left, slits, slB, slF, slT, at9, wd9, got, ans, worst, hR, hH, h150, hj, hnm, hgo, rfl⟩ := h
  obtain ⟨c, r, w, lim, tol, cart, wov, lot, sew, mis, cnt, col, len, lef, sbt, shd⟩ := S
  have hE : zRe c r w lim tol cart wov lot sew mis cnt col len lef sbt shd s := hR
  have hM := hE.1
  obtain ⟨-, -, -, -, -, hc1, hc20, hr1, hr16, hw, hn, hl⟩ := hE.1
  have hs := hE.2.2.2.2.2.2.2.2.2.2.1
  have hc4 : hcn ≤ 4 := hH.1
  have h4 : hnx < 4 := hH.2.1
  by_cases z : zIn y (nI w) = true
  · obtain ⟨y, rfl, hy⟩ := zIn_nn (by omega) z
    have f := c_f_contrast (c := c) (r := r) (w := w) (lim := lim) (tol := tol) (cart := cart) (wov := wov) (lot := lot) (sew := sew) (mis := mis) (cnt := cnt) (col := col) (len := len) (lef := lef) (sbt := sbt) (shd := shd) (X := (sa, sb, sc, sd, hcn, hnx, byt, tln, num, (1000 + wj), pos, flt)) (Y := (s, past, aside, hcn, byt, tln, k0, line, need, left, slits, slB, slF, slT, at9, wd9, got, ans, worst)) (out := out) hG hc20 hr16 hw hn hl hs hc1 h4 hc4 (nI y) z
    exact ⟨0, 0, 0, _, _, _, _, by decide, by decide, c_l_contrast hG f, m_contrast hG hM hE.shs (fun y b hy hb => by obtain ⟨-, j, h1, h2⟩ := hE.2.2.2.2.2.1 y b hy hb; exact Or.inr ⟨j, by omega, h2⟩) y hy, ⟨_, _, _, _, _, _, _, _, _, _, _, _, _, _, _, _, _, _, _, _, _, _, _, _, _, _, _, _, hR, hH, h150, hj, hnm, hgo, rfl⟩, fun _ => zOut0.trans (congrArg Int32.toInt64 (q_con hE.2.2.2.2.2.2.2.2.1 hE.2.2.2.2.1 hE.2.2.2.2.2.1 hn hc1 hy)), ⟨_, _, _, _, rfl⟩⟩
  · have z' : zIn y (nI w) = false := by simpa using z
    exact ⟨1, 6, 1, _, _, _, _, by decide, by decide, c_l_contrast_1 hG hNc (c_f_contrast_0_1 (c := c) (r := r) (w := w) (lim := lim) (tol := tol) (cart := cart) (wov := wov) (lot := lot) (sew := sew) (mis := mis) (cnt := cnt) (col := col) (len := len) (lef := lef) (sbt := sbt) (shd := shd) (X := (sa, sb, sc, sd, hcn, hnx, byt, tln, num, (1000 + wj), pos, flt)) (Y := (s, past, aside, hcn, byt, tln, k0, line, need, left, slits, slB, slF, slT, at9, wd9, got, ans, worst)) (out := out) hG hc20 hr16 hw hn hl hs hc1 h4 hc4 y z'), m_contrast_1 hG hM y z', ⟨_, _, _, _, _, _, _, _, _, _, _, _, _, _, _, _, _, _, _, _, _, _, _, _, _, _, _, _, hR, hH, h150, hj, hnm, hgo, rfl⟩, fun z => absurd z (by decide), ⟨_, _, _, _, rfl⟩⟩

set_option maxHeartbeats 1000000 in
set_option maxRecDepth 100000 in
theorem s_missing {G : zT} (hG : zAl G = false) (hNc : zNcs G) {k0 : Int32} {out : Nat → Int64} {H : zH} (h : zGd k0 out H) (v : Int32) : zStep G mL_missing mX10_missing [.int v] H := by
  obtain ⟨S, sa, sb, sc, sd, hcn, hnx, tln, wj, pos, byt, num, flt, s, past, aside, line, need, left, slits, slB, slF, slT, at9, wd9, got, ans, worst, hR, hH, h150, hj, hnm, hgo, rfl⟩ := h
  obtain ⟨c, r, w, lim, tol, cart, wov, lot, sew, mis, cnt, col, len, lef, sbt, shd⟩ := S
  have hE : zRe c r w lim tol cart wov lot sew mis cnt col len lef sbt shd s := hR
  have hM := hE.1
  obtain ⟨-, -, -, -, -, hc1, hc20, hr1, hr16, hw, hn, hl⟩ := hE.1
  have hs := hE.2.2.2.2.2.2.2.2.2.2.1
  have hc4 : hcn ≤ 4 := hH.1
  have h4 : hnx < 4 := hH.2.1
  by_cases z : zFr (nI 0) v (nI 7) = true
  · have hv : ¬ v = -1 := fun q => by rw [q] at z; exact absurd z (by decide)
    have f := c_f_missing (c := c) (r := r) (w := w) (lim := lim) (tol := tol) (cart := cart) (wov := wov) (lot := lot) (sew := sew) (mis := mis) (cnt := cnt) (col := col) (len := len) (lef := lef) (sbt := sbt) (shd := shd) (X := (sa, sb, sc, sd, hcn, hnx, byt, tln, num, (1000 + wj), pos, flt)) (Y := (s, past, aside, hcn, byt, tln, k0, line, need, left, slits, slB, slF, slT, at9, wd9, got, ans, worst)) (out := out) hG hc20 hr16 hw hn hl hs hc1 h4 hc4 v z
    exact ⟨0, 0, 0, _, _, _, _, by decide, by decide, c_l_missing hG f, m_missing hG hM v z, ⟨_, _, _, _, _, _, _, _, _, _, _, _, _, _, _, _, _, _, _, _, _, _, _, _, _, _, _, _, hR, hH, h150, hj, hnm, hgo, rfl⟩, fun _ => zOut0.trans (congrArg Int32.toInt64 ((by rw [q_uc hE.2.2.2.1 hv hw, q_lf hE.2.2.2.2.2.2.2.2.1 hn]; exact zMx0_e _))), ⟨_, _, _, _, rfl⟩⟩
  · have z' : zFr (nI 0) v (nI 7) = false := by simpa using z
    exact ⟨1, 6, 1, _, _, _, _, by decide, by decide, c_l_missing_1 hG hNc (c_f_missing_0_2 (c := c) (r := r) (w := w) (lim := lim) (tol := tol) (cart := cart) (wov := wov) (lot := lot) (sew := sew) (mis := mis) (cnt := cnt) (col := col) (len := len) (lef := lef) (sbt := sbt) (shd := shd) (X := (sa, sb, sc, sd, hcn, hnx, byt, tln, num, (1000 + wj), pos, flt)) (Y := (s, past, aside, hcn, byt, tln, k0, line, need, left, slits, slB, slF, slT, at9, wd9, got, ans, worst)) (out := out) hG hc20 hr16 hw hn hl hs hc1 h4 hc4 v z'), m_missing_1 hG hM v z', ⟨_, _, _, _, _, _, _, _, _, _, _, _, _, _, _, _, _, _, _, _, _, _, _, _, _, _, _, _, hR, hH, h150, hj, hnm, hgo, rfl⟩, fun z => absurd z (by decide), ⟨_, _, _, _, rfl⟩⟩

set_option maxHeartbeats 1000000 in
set_option maxRecDepth 100000 in
theorem s_slitsWith {G : zT} (hG : zAl G = false) (hNc : zNcs G) {k0 : Int32} {out : Nat → Int64} {H : zH} (h : zGd k0 out H) (a : Int32) : zStep G mL_slitsWith mX10_slitsWith [.int a] H := by
  obtain ⟨S, sa, sb, sc, sd, hcn, hnx, tln, wj, pos, byt, num, flt, s, past, aside, line, need, left, slits, slB, slF, slT, at9, wd9, got, ans, worst, hR, hH, h150, hj, hnm, hgo, rfl⟩ := h
  obtain ⟨c, r, w, lim, tol, cart, wov, lot, sew, mis, cnt, col, len, lef, sbt, shd⟩ := S
  have hE : zRe c r w lim tol cart wov lot sew mis cnt col len lef sbt shd s := hR
  have hM := hE.1
  obtain ⟨-, -, -, -, -, hc1, hc20, hr1, hr16, hw, hn, hl⟩ := hE.1
  have hs := hE.2.2.2.2.2.2.2.2.2.2.1
  have hc4 : hcn ≤ 4 := hH.1
  have h4 : hnx < 4 := hH.2.1
  by_cases z : zFr (nI 1) a (nI 16) = true
  · obtain ⟨a, rfl, ha⟩ := zFr_nn (by decide) (by decide) z
    have f := c_f_slitsWith (c := c) (r := r) (w := w) (lim := lim) (tol := tol) (cart := cart) (wov := wov) (lot := lot) (sew := sew) (mis := mis) (cnt := cnt) (col := col) (len := len) (lef := lef) (sbt := sbt) (shd := shd) (X := (sa, sb, sc, sd, hcn, hnx, byt, tln, num, (1000 + wj), pos, flt)) (Y := (s, past, aside, hcn, byt, tln, k0, line, need, left, slits, slB, slF, slT, at9, wd9, got, ans, worst)) (out := out) hG hc20 hr16 hw hn hl hs hc1 h4 hc4 a ha.2 (if_pos z)
    exact ⟨0, 0, 0, _, _, _, _, by decide, by decide, c_l_slitsWith hG f, m_slitsWith hG hM a z ha.2, ⟨_, _, _, _, _, _, _, _, _, _, _, _, _, _, _, _, _, _, _, _, _, _, _, _, _, _, _, _, hR, hH, h150, hj, hnm, hgo, rfl⟩, fun _ => zOut0.trans (congrArg Int32.toInt64 (congrArg nI ((zSc_l wov c w a).trans (rFd_a (lm := a) hE.2.2.2.2.1 hc1 slB slF slT).1.symm))), ⟨_, _, _, _, rfl⟩⟩
  · have z' : zFr (nI 1) a (nI 16) = false := by simpa using z
    exact ⟨1, 6, 1, _, _, _, _, by decide, by decide, c_l_slitsWith_1 hG hNc (c_g_slitsWith_0_2 (c := c) (r := r) (w := w) (lim := lim) (tol := tol) (cart := cart) (wov := wov) (lot := lot) (sew := sew) (mis := mis) (cnt := cnt) (col := col) (len := len) (lef := lef) (sbt := sbt) (shd := shd) (X := (sa, sb, sc, sd, hcn, hnx, byt, tln, num, (1000 + wj), pos, flt)) (Y := (s, past, aside, hcn, byt, tln, k0, line, need, left, slits, slB, slF, slT, at9, wd9, got, ans, worst)) (out := out) hG hc20 hr16 hw hn hl hs hc1 h4 hc4 a (if_neg z)), m_slitsWith_1 hG hM a z', ⟨_, _, _, _, _, _, _, _, _, _, _, _, _, _, _, _, _, _, _, _, _, _, _, _, _, _, _, _, hR, hH, h150, hj, hnm, hgo, rfl⟩, fun z => absurd z (by decide), ⟨_, _, _, _, rfl⟩⟩

set_option maxHeartbeats 1000000 in
set_option maxRecDepth 100000 in
theorem s_shuttlesFor {G : zT} (hG : zAl G = false) (hNc : zNcs G) {k0 : Int32} {out : Nat → Int64} {H : zH} (h : zGd k0 out H) (y : Int32) : zStep G mL_shuttlesFor mX10_shuttlesFor [.int y] H := by
  obtain ⟨S, sa, sb, sc, sd, hcn, hnx, tln, wj, pos, byt, num, flt, s, past, aside, line, need, left, slits, slB, slF, slT, at9, wd9, got, ans, worst, hR, hH, h150, hj, hnm, hgo, rfl⟩ := h
  obtain ⟨c, r, w, lim, tol, cart, wov, lot, sew, mis, cnt, col, len, lef, sbt, shd⟩ := S
  have hE : zRe c r w lim tol cart wov lot sew mis cnt col len lef sbt shd s := hR
  have hM := hE.1
  obtain ⟨-, -, -, -, -, hc1, hc20, hr1, hr16, hw, hn, hl⟩ := hE.1
  have hs := hE.2.2.2.2.2.2.2.2.2.2.1
  have hc4 : hcn ≤ 4 := hH.1
  have h4 : hnx < 4 := hH.2.1
  have hz : zIn 0 (nI c) = true := by
    rw [show (0 : Int32) = nI 0 from nI_0.symm, zIn_n (by decide) (by omega)]
    exact decide_eq_true (by omega)
  by_cases z : zIn y (nI r) = true
  · obtain ⟨y, rfl, hy⟩ := zIn_nn (by omega) z
    have f := c_f_shuttlesFor (c := c) (r := r) (w := w) (lim := lim) (tol := tol) (cart := cart) (wov := wov) (lot := lot) (sew := sew) (mis := mis) (cnt := cnt) (col := col) (len := len) (lef := lef) (sbt := sbt) (shd := shd) (X := (sa, sb, sc, sd, hcn, hnx, byt, tln, num, (1000 + wj), pos, flt)) (Y := (s, past, aside, hcn, byt, tln, k0, line, need, left, slits, slB, slF, slT, at9, wd9, got, ans, worst)) (out := out) hG hc20 hr16 hw hn hl hs hc1 h4 hc4 (nI y) (by rw [zFr0_in (by omega : c < 2 ^ 31), zFr0_in (by omega : r < 2 ^ 31), hz, z]; rfl)
    exact ⟨0, 0, 0, _, _, _, _, by decide, by decide, c_l_shuttlesFor hG f, m_shuttlesFor hG hM y hy, ⟨_, _, _, _, _, _, _, _, _, _, _, _, _, _, _, _, _, _, _, _, _, _, _, _, _, _, _, _, hR, hH, h150, hj, hnm, hgo, rfl⟩, fun _ => zOut0.trans (congrArg Int32.toInt64 (congrArg nI (hE.2.2.2.1.row hy).ru)), ⟨_, _, _, _, rfl⟩⟩
  · have z' : zIn y (nI r) = false := by simpa using z
    exact ⟨1, 6, 1, _, _, _, _, by decide, by decide, c_l_shuttlesFor_1 hG hNc (c_f_shuttlesFor_0_1 (c := c) (r := r) (w := w) (lim := lim) (tol := tol) (cart := cart) (wov := wov) (lot := lot) (sew := sew) (mis := mis) (cnt := cnt) (col := col) (len := len) (lef := lef) (sbt := sbt) (shd := shd) (X := (sa, sb, sc, sd, hcn, hnx, byt, tln, num, (1000 + wj), pos, flt)) (Y := (s, past, aside, hcn, byt, tln, k0, line, need, left, slits, slB, slF, slT, at9, wd9, got, ans, worst)) (out := out) hG hc20 hr16 hw hn hl hs hc1 h4 hc4 y (by rw [zFr0_in (by omega : c < 2 ^ 31), zFr0_in (by omega : r < 2 ^ 31), z', Bool.and_false])), m_shuttlesFor_1 hG hM y z', ⟨_, _, _, _, _, _, _, _, _, _, _, _, _, _, _, _, _, _, _, _, _, _, _, _, _, _, _, _, hR, hH, h150, hj, hnm, hgo, rfl⟩, fun z => absurd z (by decide), ⟨_, _, _, _, rfl⟩⟩

set_option maxHeartbeats 1000000 in
set_option maxRecDepth 100000 in
theorem s_slit {G : zT} (hG : zAl G = false) (hNc : zNcs G) {k0 : Int32} {out : Nat → Int64} {H : zH} (h : zGd k0 out H) (x t : Int32) : zStep G mL_slit mX10_slit [.int x, .int t] H := by
  obtain ⟨S, sa, sb, sc, sd, hcn, hnx, tln, wj, pos, byt, num, flt, s, past, aside, line, need, left, slits, slB, slF, slT, at9, wd9, got, ans, worst, hR, hH, h150, hj, hnm, hgo, rfl⟩ := h
  obtain ⟨c, r, w, lim, tol, cart, wov, lot, sew, mis, cnt, col, len, lef, sbt, shd⟩ := S
  have hE : zRe c r w lim tol cart wov lot sew mis cnt col len lef sbt shd s := hR
  have hM := hE.1
  obtain ⟨-, -, -, -, -, hc1, hc20, hr1, hr16, hw, hn, hl⟩ := hE.1
  have hs := hE.2.2.2.2.2.2.2.2.2.2.1
  have hc4 : hcn ≤ 4 := hH.1
  have h4 : hnx < 4 := hH.2.1
  obtain ⟨a1, a2⟩ := rFd_a (lm := lim) hE.2.2.2.2.1 hc1 slB slF slT
  by_cases z : x < 0
  · skip
    exact ⟨1, 6, 1, _, _, _, _, by decide, by decide, c_l_slit_1 hG hNc (c_f_slit_0_2 (c := c) (r := r) (w := w) (lim := lim) (tol := tol) (cart := cart) (wov := wov) (lot := lot) (sew := sew) (mis := mis) (cnt := cnt) (col := col) (len := len) (lef := lef) (sbt := sbt) (shd := shd) (X := (sa, sb, sc, sd, hcn, hnx, byt, tln, num, (1000 + wj), pos, flt)) (Y := (s, past, aside, hcn, byt, tln, k0, line, need, left, slits, slB, slF, slT, at9, wd9, got, ans, worst)) (out := out) hG hc20 hr16 hw hn hl hs hc1 h4 hc4 x t z), m_slit_1 hG hM x t (Or.inl z), ⟨_, _, _, _, _, _, _, _, _, _, _, _, _, _, _, _, _, _, _, _, _, _, _, _, _, _, _, _, hR, hH, h150, hj, hnm, hgo, rfl⟩, fun z => absurd z (by decide), ⟨_, _, _, _, rfl⟩⟩
  · by_cases z2 : zFr (nI 0) t (nI 3) = true
    · obtain ⟨t, rfl, ht⟩ := zFr_nn (by decide) (by decide) z2
      obtain ⟨k, hk, rfl⟩ := nI_of z
      by_cases z3 : k < (zSL (zSlP wov c w lim) c w).length
      · obtain ⟨b, y, p1, -, p3, p4, p5⟩ := zSL_at z3
        obtain ⟨s1, s2, s3, s4, s5, s6, s7⟩ := k_place hE.2.2.2.2.1 hE.2.2.2.2.2.2.1 hk p1
        have f := c_f_slit (c := c) (r := r) (w := w) (lim := lim) (tol := tol) (cart := cart) (wov := wov) (lot := lot) (sew := sew) (mis := mis) (cnt := cnt) (col := col) (len := len) (lef := lef) (sbt := sbt) (shd := shd) (X := (sa, sb, sc, sd, hcn, hnx, byt, tln, num, (1000 + wj), pos, flt)) (Y := (s, past, aside, hcn, byt, tln, k0, line, need, left, slits, slB, slF, slT, at9, wd9, got, ans, worst)) (out := out) hG hc20 hr16 hw hn hl hs hc1 h4 hc4 (nI k) (nI t) z z2 (16 * b + y) s1 (by omega)
        exact ⟨0, 0, 0, _, _, _, _, by decide, by decide, c_l_slit hG f, m_slit hG hM k t z2 ht.2 (by rw [a1]; exact z3), ⟨_, _, _, _, _, _, _, _, _, _, _, _, _, _, _, _, _, _, _, _, _, _, _, _, _, _, _, _, hR, hH, h150, hj, hnm, hgo, rfl⟩, fun _ => zOut0.trans (congrArg Int32.toInt64 ((by rw [show (16 * b + y) / 16 = b by omega, show (16 * b + y) % 16 = y by omega]; exact (q_sl hE.2.2.2.2.1 hE.2.2.2.2.2.2.1 hc1 slB slF slT p1 ht.2).symm))), ⟨_, _, _, _, rfl⟩⟩
      · skip
        have f := c_f_slit_no (c := c) (r := r) (w := w) (lim := lim) (tol := tol) (cart := cart) (wov := wov) (lot := lot) (sew := sew) (mis := mis) (cnt := cnt) (col := col) (len := len) (lef := lef) (sbt := sbt) (shd := shd) (X := (sa, sb, sc, sd, hcn, hnx, byt, tln, num, (1000 + wj), pos, flt)) (Y := (s, past, aside, hcn, byt, tln, k0, line, need, left, slits, slB, slF, slT, at9, wd9, got, ans, worst)) (out := out) hG hc20 hr16 hw hn hl hs hc1 h4 hc4 (nI k) (nI t) z z2 (k_noplace hc20 (by omega) hk (by omega))
        exact ⟨0, 0, 0, _, _, _, _, by decide, by decide, c_l_slit hG f, m_slit_no hG hM k (nI t) hk z2 (by rw [a1]; omega), ⟨_, _, _, _, _, _, _, _, _, _, _, _, _, _, _, _, _, _, _, _, _, _, _, _, _, _, _, _, hR, hH, h150, hj, hnm, hgo, rfl⟩, fun _ => zOut0.trans (congrArg Int32.toInt64 (rfl)), ⟨_, _, _, _, rfl⟩⟩
    · have z' : zFr (nI 0) t (nI 3) = false := by simpa using z2
      exact ⟨1, 6, 1, _, _, _, _, by decide, by decide, c_l_slit_1 hG hNc (c_f_slit_1_2 (c := c) (r := r) (w := w) (lim := lim) (tol := tol) (cart := cart) (wov := wov) (lot := lot) (sew := sew) (mis := mis) (cnt := cnt) (col := col) (len := len) (lef := lef) (sbt := sbt) (shd := shd) (X := (sa, sb, sc, sd, hcn, hnx, byt, tln, num, (1000 + wj), pos, flt)) (Y := (s, past, aside, hcn, byt, tln, k0, line, need, left, slits, slB, slF, slT, at9, wd9, got, ans, worst)) (out := out) hG hc20 hr16 hw hn hl hs hc1 h4 hc4 x t z z'), m_slit_1 hG hM x t (Or.inr z'), ⟨_, _, _, _, _, _, _, _, _, _, _, _, _, _, _, _, _, _, _, _, _, _, _, _, _, _, _, _, hR, hH, h150, hj, hnm, hgo, rfl⟩, fun z => absurd z (by decide), ⟨_, _, _, _, rfl⟩⟩

set_option maxHeartbeats 1000000 in
set_option maxRecDepth 100000 in
theorem s_sew {G : zT} (hG : zAl G = false) (hNc : zNcs G) {k0 : Int32} {out : Nat → Int64} {H : zH} (h : zGd k0 out H) (x : Int32) : zStep G mL_sew mX10_sew [.int x] H := by
  obtain ⟨S, sa, sb, sc, sd, hcn, hnx, tln, wj, pos, byt, num, flt, s, past, aside, line, need, left, slits, slB, slF, slT, at9, wd9, got, ans, worst, hR, hH, h150, hj, hnm, hgo, rfl⟩ := h
  obtain ⟨c, r, w, lim, tol, cart, wov, lot, sew, mis, cnt, col, len, lef, sbt, shd⟩ := S
  have hE : zRe c r w lim tol cart wov lot sew mis cnt col len lef sbt shd s := hR
  have hM := hE.1
  obtain ⟨-, -, -, -, -, hc1, hc20, hr1, hr16, hw, hn, hl⟩ := hE.1
  have hs := hE.2.2.2.2.2.2.2.2.2.2.1
  have hc4 : hcn ≤ 4 := hH.1
  have h4 : hnx < 4 := hH.2.1
  obtain ⟨a1, a2⟩ := rFd_a (lm := lim) hE.2.2.2.2.1 hc1 slB slF slT
  have hlen := zHp_len (wov := wov) (lm := lim) hc20 (by omega : w ≤ 16)
  by_cases z : zIn x (nI (rFd s w lim (c - 1) (0, slB, slF, slT)).1) = true
  · obtain ⟨k, rfl, hk⟩ := zIn_nn (by rw [a1]; omega) z
    have hk' := hk
    rw [a1] at hk'
    obtain ⟨b, y, p1, -, p3, p4, p5⟩ := zSL_at hk'
    obtain ⟨s1, s2, s3, s4, s5, s6, s7⟩ := k_place hE.2.2.2.2.1 hE.2.2.2.2.2.2.1 (by omega) p1
    obtain ⟨q1, q2, -⟩ := a2 _ _ p1
    have ex := rSx_n q1 q2 s6 s7
    by_cases z2 : (s (1051 + 16 * b + y) == nI 1) = true
    · skip
      exact ⟨1, 6, 2, _, _, _, _, by decide, by decide, c_l_sew_2 hG hNc (c_f_sew_0_3 (c := c) (r := r) (w := w) (lim := lim) (tol := tol) (cart := cart) (wov := wov) (lot := lot) (sew := sew) (mis := mis) (cnt := cnt) (col := col) (len := len) (lef := lef) (sbt := sbt) (shd := shd) (X := (sa, sb, sc, sd, hcn, hnx, byt, tln, num, (1000 + wj), pos, flt)) (Y := (s, past, aside, hcn, byt, tln, k0, line, need, left, slits, slB, slF, slT, at9, wd9, got, ans, worst)) (out := out) hG hc20 hr16 hw hn hl hs hc1 h4 hc4 (nI k) (by rw [if_neg s2, s4, s3, s5]; exact if_pos z2)), m_sew_2 hG hM k hk (by rw [ex]; exact z2), ⟨_, _, _, _, _, _, _, _, _, _, _, _, _, _, _, _, _, _, _, _, _, _, _, _, _, _, _, _, hR, hH, h150, hj, hnm, hgo, rfl⟩, fun z => absurd z (by decide), ⟨_, _, _, _, rfl⟩⟩
    · have z' : (s (1051 + 16 * b + y) == nI 1) = false := by simpa using z2
      have f := c_f_sew (c := c) (r := r) (w := w) (lim := lim) (tol := tol) (cart := cart) (wov := wov) (lot := lot) (sew := sew) (mis := mis) (cnt := cnt) (col := col) (len := len) (lef := lef) (sbt := sbt) (shd := shd) (X := (sa, sb, sc, sd, hcn, hnx, byt, tln, num, (1000 + wj), pos, flt)) (Y := (s, past, aside, hcn, byt, tln, k0, line, need, left, slits, slB, slF, slT, at9, wd9, got, ans, worst)) (out := out) hG hc20 hr16 hw hn hl hs hc1 h4 hc4 (nI k) (by rw [if_neg s2, s4, s3, s5]; exact if_neg z2)
      rw [zSvd_t] at f
      have kk := (k_sew hE slB slF slT hk).1
      exact ⟨0, 0, 0, _, _, _, _, by decide, by decide, c_l_sew hG f, m_sew hG hM hc4 k hk (by rw [ex]; exact z'), ⟨_, _, _, _, _, _, _, _, _, _, _, _, _, _, _, _, _, _, _, _, _, _, _, _, _, _, _, _, (by rw [zRel_t]; exact kk), (k_save hR hH), h150, hj, hnm, hgo, rfl⟩, fun _ => zOut0.trans (congrArg Int32.toInt64 ((k_sew hE slB slF slT hk).2)), ⟨_, _, _, _, rfl⟩⟩
  · have z' : zIn x (nI (rFd s w lim (c - 1) (0, slB, slF, slT)).1) = false := by simpa using z
    have hp : zSp wov c w lim x = -1 := by
      by_cases q : x < 0
      · exact zSp_neg hc20 (by omega) q
      · obtain ⟨k, hk, rfl⟩ := nI_of q
        refine k_noplace hc20 (by omega) hk (Nat.le_of_not_lt fun q2 => z ?_)
        rw [a1, zIn_n hk (by omega)]
        exact decide_eq_true q2
    exact ⟨1, 6, 1, _, _, _, _, by decide, by decide, c_l_sew_1 hG hNc (c_f_sew_0_1 (c := c) (r := r) (w := w) (lim := lim) (tol := tol) (cart := cart) (wov := wov) (lot := lot) (sew := sew) (mis := mis) (cnt := cnt) (col := col) (len := len) (lef := lef) (sbt := sbt) (shd := shd) (X := (sa, sb, sc, sd, hcn, hnx, byt, tln, num, (1000 + wj), pos, flt)) (Y := (s, past, aside, hcn, byt, tln, k0, line, need, left, slits, slB, slF, slT, at9, wd9, got, ans, worst)) (out := out) hG hc20 hr16 hw hn hl hs hc1 h4 hc4 x (if_pos hp)), m_sew_1 hG hM x z', ⟨_, _, _, _, _, _, _, _, _, _, _, _, _, _, _, _, _, _, _, _, _, _, _, _, _, _, _, _, hR, hH, h150, hj, hnm, hgo, rfl⟩, fun z => absurd z (by decide), ⟨_, _, _, _, rfl⟩⟩
