/-- both sides hold the same, and the reference's thrown is k -/
def zGd (k : Int32) (out : Nat → Int64) (H : zH) : Prop := ∃ (S sa sb sc sd : zS) (hcn hnx tln wj pos : Nat) (byt num : Nat → Int32) (flt : Int32) (s past aside line need left : Nat → Int32) (slits : Nat) (slB slF slT : Nat → Int32) (at9 : Nat) (wd9 : Int32) (got : Nat → Int32) (ans : Int32) (worst : UInt32),
  zRel S s ∧ zHist sa sb sc sd hcn hnx past ∧ tln ≤ 150 ∧ wj < 8 ∧ pos ≤ tln ∧ zNmOk num ∧ rGo got ∧ H = zHp S (sa, sb, sc, sd, hcn, hnx, byt, tln, num, (1000 + wj), pos, flt) (s, past, aside, hcn, byt, tln, k, line, need, left, slits, slB, slF, slT, at9, wd9, got, ans, worst) out
/-- one call of the law, with what it must show -/
def zStep (G : zT) (M1 M2 : zN) (av : List Value) (H : zH) : Prop := ∃ (mc ms : Nat) (k v : Int32) (H1 H2 : zH) (out : Nat → Int64), mc ≤ 1 ∧ ms ≤ 6 ∧ zRun G M1 mc ms (.ref 0 :: (av ++ [.ref 126])) H (.inr (some (.int k))) H1 ∧ zRun G M2 0 0 (.ref 114 :: av) H1 (.inr (some (.int v))) H2 ∧ zGd k out H2 ∧ (k = 0 → out 0 = v.toInt64)
theorem zSvd_t {S sa sb sc sd : zS} {hcn hnx tln wd pos : Nat} {byt num : Nat → Int32} {flt : Int32} : zSvd S (sa, sb, sc, sd, hcn, hnx, byt, tln, num, wd, pos, flt) = ((if hnx = 0 then zCp S sa else sa), (if hnx = 1 then zCp S sb else sb), (if hnx = 2 then zCp S sc else sc), (if hnx = 3 then zCp S sd else sd), min (hcn + 1) 4, (hnx + 1) % 4, byt, tln, num, wd, pos, flt) := rfl
theorem zOut0 {out : Nat → Int64} {v : Int64} : vp_updL out 0 v 0 = v := if_pos rfl
theorem zFr_nn {a b : Nat} {v : Int32} (ha : a < 2 ^ 31) (hb : b < 2 ^ 31) (h : zFr (nI a) v (nI b) = true) : ∃ n, v = nI n ∧ a ≤ n ∧ n ≤ b := by
  obtain ⟨n, h1, h2, h3⟩ := (zFr_e ha hb).mp h
  exact ⟨n, h3, h1, h2⟩
theorem zIn_nn {n : Nat} {v : Int32} (hn : n < 2 ^ 31) (h : zIn v (nI n) = true) : ∃ k, v = nI k ∧ k < n := by
  unfold zIn at h
  rw [Bool.and_eq_true, Bool.not_eq_true', Bool.not_eq_true', decide_eq_false_iff_not, decide_eq_false_iff_not] at h
  obtain ⟨k, hk, rfl⟩ := nI_of h.1
  exact ⟨k, rfl, m_nle hn hk h.2⟩
theorem nI_7 : nI 7 = 7 := by decide
theorem nI_3 : nI 3 = 3 := by decide
theorem nI_4 : nI 4 = 4 := by decide
theorem nI_5 : nI 5 = 5 := by decide

set_option maxHeartbeats 1000000 in
set_option maxRecDepth 100000 in
theorem s_begin {G : zT} (hG : zAl G = false) (hNc : zNcs G) {k0 : Int32} {out : Nat → Int64} {H : zH} (h : zGd k0 out H) (a b : Int32) : zStep G mL_begin mX10_begin [.int a, .int b] H := by
  obtain ⟨S, sa, sb, sc, sd, hcn, hnx, tln, wj, pos, byt, num, flt, s, past, aside, line, need, left, slits, slB, slF, slT, at9, wd9, got, ans, worst, hR, hH, h150, hj, hpos, hnm, hgo, rfl⟩ := h
  obtain ⟨c, r, w, lim, tol, cart, wov, lot, sew, mis, cnt, col, len, lef, sbt, shd⟩ := S
  have hE : zRe c r w lim tol cart wov lot sew mis cnt col len lef sbt shd s := hR
  have hM := hE.1
  obtain ⟨-, -, -, -, -, hc1, hc20, hr1, hr16, hw, hn, hl⟩ := hE.1
  have hs := hE.2.2.2.2.2.2.2.2.2.2.1
  have hc4 : hcn ≤ 4 := hH.1
  have h4 : hnx < 4 := hH.2.1
  by_cases z : (zFr (nI 1) a (nI 20) && zFr (nI 1) b (nI 16)) = true
  · have z2 := z
    rw [Bool.and_eq_true] at z2
    obtain ⟨a, rfl, ha⟩ := zFr_nn (by decide) (by decide) z2.1
    obtain ⟨b, rfl, hb⟩ := zFr_nn (by decide) (by decide) z2.2
    have f := c_f_begin (c := c) (r := r) (w := w) (lim := lim) (tol := tol) (cart := cart) (wov := wov) (lot := lot) (sew := sew) (mis := mis) (cnt := cnt) (col := col) (len := len) (lef := lef) (sbt := sbt) (shd := shd) (X := (sa, sb, sc, sd, hcn, hnx, byt, tln, num, (1000 + wj), pos, flt)) (Y := (s, past, aside, hcn, byt, tln, k0, line, need, left, slits, slB, slF, slT, at9, wd9, got, ans, worst)) (out := out) hG hc20 hr16 hw hn hl hs hc1 h4 hc4 a b (if_pos z)
    rw [zSvd_t] at f
    have kk := k_begin hE ha hb
    exact ⟨0, 0, 0, _, _, _, _, by decide, by decide, c_l_begin hG f, m_begin hG hM hc4 a b z, ⟨_, _, _, _, _, _, _, _, _, _, _, _, _, _, _, _, _, _, _, _, _, _, _, _, _, _, _, _, (by rw [zRel_t]; exact kk), (k_save hR hH), h150, hj, hpos, hnm, hgo, rfl⟩, fun _ => zOut0⟩
  · have z' : (zFr (nI 1) a (nI 20) && zFr (nI 1) b (nI 16)) = false := by simpa using z
    exact ⟨1, 6, 1, _, _, _, _, by decide, by decide, c_l_begin_1 hG hNc (c_g_begin_0_2 (c := c) (r := r) (w := w) (lim := lim) (tol := tol) (cart := cart) (wov := wov) (lot := lot) (sew := sew) (mis := mis) (cnt := cnt) (col := col) (len := len) (lef := lef) (sbt := sbt) (shd := shd) (X := (sa, sb, sc, sd, hcn, hnx, byt, tln, num, (1000 + wj), pos, flt)) (Y := (s, past, aside, hcn, byt, tln, k0, line, need, left, slits, slB, slF, slT, at9, wd9, got, ans, worst)) (out := out) hG hc20 hr16 hw hn hl hs hc1 h4 hc4 a b (if_neg z)), m_begin_1 hG a b z', ⟨_, _, _, _, _, _, _, _, _, _, _, _, _, _, _, _, _, _, _, _, _, _, _, _, _, _, _, _, hR, hH, h150, hj, hpos, hnm, hgo, rfl⟩, fun z => absurd z (by decide)⟩

set_option maxHeartbeats 1000000 in
set_option maxRecDepth 100000 in
theorem s_setTolerance {G : zT} (hG : zAl G = false) (hNc : zNcs G) {k0 : Int32} {out : Nat → Int64} {H : zH} (h : zGd k0 out H) (t : Int32) : zStep G mL_setTolerance mX10_setTolerance [.int t] H := by
  obtain ⟨S, sa, sb, sc, sd, hcn, hnx, tln, wj, pos, byt, num, flt, s, past, aside, line, need, left, slits, slB, slF, slT, at9, wd9, got, ans, worst, hR, hH, h150, hj, hpos, hnm, hgo, rfl⟩ := h
  obtain ⟨c, r, w, lim, tol, cart, wov, lot, sew, mis, cnt, col, len, lef, sbt, shd⟩ := S
  have hE : zRe c r w lim tol cart wov lot sew mis cnt col len lef sbt shd s := hR
  have hM := hE.1
  obtain ⟨-, -, -, -, -, hc1, hc20, hr1, hr16, hw, hn, hl⟩ := hE.1
  have hs := hE.2.2.2.2.2.2.2.2.2.2.1
  have hc4 : hcn ≤ 4 := hH.1
  have h4 : hnx < 4 := hH.2.1
  by_cases z : rShd t = true
  · skip
    have f := c_f_setTolerance (c := c) (r := r) (w := w) (lim := lim) (tol := tol) (cart := cart) (wov := wov) (lot := lot) (sew := sew) (mis := mis) (cnt := cnt) (col := col) (len := len) (lef := lef) (sbt := sbt) (shd := shd) (X := (sa, sb, sc, sd, hcn, hnx, byt, tln, num, (1000 + wj), pos, flt)) (Y := (s, past, aside, hcn, byt, tln, k0, line, need, left, slits, slB, slF, slT, at9, wd9, got, ans, worst)) (out := out) hG hc20 hr16 hw hn hl hs hc1 h4 hc4 t z
    rw [zSvd_t] at f
    have kk := k_tol hE (rShd_v.mp z)
    exact ⟨0, 0, 0, _, _, _, _, by decide, by decide, c_l_setTolerance hG f, m_setTolerance hG hc4 t z, ⟨_, _, _, _, _, _, _, _, _, _, _, _, _, _, _, _, _, _, _, _, _, _, _, _, _, _, _, _, (by rw [zRel_t]; exact kk), (k_save hR hH), h150, hj, hpos, hnm, hgo, rfl⟩, fun _ => zOut0.trans (congrArg Int32.toInt64 (hE.2.2.1.1.symm))⟩
  · have z' : rShd t = false := by simpa using z
    exact ⟨1, 6, 1, _, _, _, _, by decide, by decide, c_l_setTolerance_1 hG hNc (c_f_setTolerance_0_2 (c := c) (r := r) (w := w) (lim := lim) (tol := tol) (cart := cart) (wov := wov) (lot := lot) (sew := sew) (mis := mis) (cnt := cnt) (col := col) (len := len) (lef := lef) (sbt := sbt) (shd := shd) (X := (sa, sb, sc, sd, hcn, hnx, byt, tln, num, (1000 + wj), pos, flt)) (Y := (s, past, aside, hcn, byt, tln, k0, line, need, left, slits, slB, slF, slT, at9, wd9, got, ans, worst)) (out := out) hG hc20 hr16 hw hn hl hs hc1 h4 hc4 t z'), m_setTolerance_1 hG t z', ⟨_, _, _, _, _, _, _, _, _, _, _, _, _, _, _, _, _, _, _, _, _, _, _, _, _, _, _, _, hR, hH, h150, hj, hpos, hnm, hgo, rfl⟩, fun z => absurd z (by decide)⟩

set_option maxHeartbeats 1000000 in
set_option maxRecDepth 100000 in
theorem s_setLimit {G : zT} (hG : zAl G = false) (hNc : zNcs G) {k0 : Int32} {out : Nat → Int64} {H : zH} (h : zGd k0 out H) (a : Int32) : zStep G mL_setLimit mX10_setLimit [.int a] H := by
  obtain ⟨S, sa, sb, sc, sd, hcn, hnx, tln, wj, pos, byt, num, flt, s, past, aside, line, need, left, slits, slB, slF, slT, at9, wd9, got, ans, worst, hR, hH, h150, hj, hpos, hnm, hgo, rfl⟩ := h
  obtain ⟨c, r, w, lim, tol, cart, wov, lot, sew, mis, cnt, col, len, lef, sbt, shd⟩ := S
  have hE : zRe c r w lim tol cart wov lot sew mis cnt col len lef sbt shd s := hR
  have hM := hE.1
  obtain ⟨-, -, -, -, -, hc1, hc20, hr1, hr16, hw, hn, hl⟩ := hE.1
  have hs := hE.2.2.2.2.2.2.2.2.2.2.1
  have hc4 : hcn ≤ 4 := hH.1
  have h4 : hnx < 4 := hH.2.1
  by_cases z : zFr (nI 1) a (nI 16) = true
  · obtain ⟨a, rfl, ha⟩ := zFr_nn (by decide) (by decide) z
    have f := c_f_setLimit (c := c) (r := r) (w := w) (lim := lim) (tol := tol) (cart := cart) (wov := wov) (lot := lot) (sew := sew) (mis := mis) (cnt := cnt) (col := col) (len := len) (lef := lef) (sbt := sbt) (shd := shd) (X := (sa, sb, sc, sd, hcn, hnx, byt, tln, num, (1000 + wj), pos, flt)) (Y := (s, past, aside, hcn, byt, tln, k0, line, need, left, slits, slB, slF, slT, at9, wd9, got, ans, worst)) (out := out) hG hc20 hr16 hw hn hl hs hc1 h4 hc4 a ha.2 (if_pos z)
    rw [zSvd_t] at f
    have kk := k_limit hE ha.1 ha.2 slB slF slT
    exact ⟨0, 0, 0, _, _, _, _, by decide, by decide, c_l_setLimit hG f, m_setLimit hG hM hc4 a z ha.2, ⟨_, _, _, _, _, _, _, _, _, _, _, _, _, _, _, _, _, _, _, _, _, _, _, _, _, _, _, _, (by rw [zRel_t]; exact kk), (k_save hR hH), h150, hj, hpos, hnm, hgo, rfl⟩, fun _ => zOut0⟩
  · have z' : zFr (nI 1) a (nI 16) = false := by simpa using z
    exact ⟨1, 6, 1, _, _, _, _, by decide, by decide, c_l_setLimit_1 hG hNc (c_g_setLimit_0_2 (c := c) (r := r) (w := w) (lim := lim) (tol := tol) (cart := cart) (wov := wov) (lot := lot) (sew := sew) (mis := mis) (cnt := cnt) (col := col) (len := len) (lef := lef) (sbt := sbt) (shd := shd) (X := (sa, sb, sc, sd, hcn, hnx, byt, tln, num, (1000 + wj), pos, flt)) (Y := (s, past, aside, hcn, byt, tln, k0, line, need, left, slits, slB, slF, slT, at9, wd9, got, ans, worst)) (out := out) hG hc20 hr16 hw hn hl hs hc1 h4 hc4 a (if_neg z)), m_setLimit_1 hG a z', ⟨_, _, _, _, _, _, _, _, _, _, _, _, _, _, _, _, _, _, _, _, _, _, _, _, _, _, _, _, hR, hH, h150, hj, hpos, hnm, hgo, rfl⟩, fun z => absurd z (by decide)⟩

set_option maxHeartbeats 1000000 in
set_option maxRecDepth 100000 in
theorem s_plant {G : zT} (hG : zAl G = false) (hNc : zNcs G) {k0 : Int32} {out : Nat → Int64} {H : zH} (h : zGd k0 out H) (b v : Int32) : zStep G mL_plant mX10_plant [.int b, .int v] H := by
  obtain ⟨S, sa, sb, sc, sd, hcn, hnx, tln, wj, pos, byt, num, flt, s, past, aside, line, need, left, slits, slB, slF, slT, at9, wd9, got, ans, worst, hR, hH, h150, hj, hpos, hnm, hgo, rfl⟩ := h
  obtain ⟨c, r, w, lim, tol, cart, wov, lot, sew, mis, cnt, col, len, lef, sbt, shd⟩ := S
  have hE : zRe c r w lim tol cart wov lot sew mis cnt col len lef sbt shd s := hR
  have hM := hE.1
  obtain ⟨-, -, -, -, -, hc1, hc20, hr1, hr16, hw, hn, hl⟩ := hE.1
  have hs := hE.2.2.2.2.2.2.2.2.2.2.1
  have hc4 : hcn ≤ 4 := hH.1
  have h4 : hnx < 4 := hH.2.1
  by_cases z : zIn b (nI c) = true
  · by_cases z2 : zFr (nI 0) v (nI 7) = true
    · obtain ⟨b, rfl, hb⟩ := zIn_nn (by omega) z
      obtain ⟨v, rfl, hv⟩ := zFr_nn (by decide) (by decide) z2
      have f := c_f_plant (c := c) (r := r) (w := w) (lim := lim) (tol := tol) (cart := cart) (wov := wov) (lot := lot) (sew := sew) (mis := mis) (cnt := cnt) (col := col) (len := len) (lef := lef) (sbt := sbt) (shd := shd) (X := (sa, sb, sc, sd, hcn, hnx, byt, tln, num, (1000 + wj), pos, flt)) (Y := (s, past, aside, hcn, byt, tln, k0, line, need, left, slits, slB, slF, slT, at9, wd9, got, ans, worst)) (out := out) hG hc20 hr16 hw hn hl hs hc1 h4 hc4 (nI b) (nI v) (by rw [zFr0_in (by omega : c < 2 ^ 31), if_pos z]; exact if_pos z2)
      rw [zSvd_t] at f
      have kk := k_plant hE hb (by omega : v < 8)
      exact ⟨0, 0, 0, _, _, _, _, by decide, by decide, c_l_plant hG f, m_plant hG hM hc4 b (nI v) hb z2, ⟨_, _, _, _, _, _, _, _, _, _, _, _, _, _, _, _, _, _, _, _, _, _, _, _, _, _, _, _, (by rw [zRel_t]; exact kk), (k_save hR hH), h150, hj, hpos, hnm, hgo, rfl⟩, fun _ => zOut0.trans (congrArg Int32.toInt64 (congrArg nI (q_ot (k_plant hE hb (by omega : v < 8)).2.2.2.2.2.2.2.1 hc20)))⟩
    · have z' : zFr (nI 0) v (nI 7) = false := by simpa using z2
      exact ⟨1, 6, 2, _, _, _, _, by decide, by decide, c_l_plant_2 hG hNc (c_f_plant_0_2 (c := c) (r := r) (w := w) (lim := lim) (tol := tol) (cart := cart) (wov := wov) (lot := lot) (sew := sew) (mis := mis) (cnt := cnt) (col := col) (len := len) (lef := lef) (sbt := sbt) (shd := shd) (X := (sa, sb, sc, sd, hcn, hnx, byt, tln, num, (1000 + wj), pos, flt)) (Y := (s, past, aside, hcn, byt, tln, k0, line, need, left, slits, slB, slF, slT, at9, wd9, got, ans, worst)) (out := out) hG hc20 hr16 hw hn hl hs hc1 h4 hc4 b v (by rw [zFr0_in (by omega : c < 2 ^ 31), if_pos z]; exact if_neg z2)), m_plant_2 hG hM b v z z', ⟨_, _, _, _, _, _, _, _, _, _, _, _, _, _, _, _, _, _, _, _, _, _, _, _, _, _, _, _, hR, hH, h150, hj, hpos, hnm, hgo, rfl⟩, fun z => absurd z (by decide)⟩
  · have z' : zIn b (nI c) = false := by simpa using z
    exact ⟨1, 6, 1, _, _, _, _, by decide, by decide, c_l_plant_1 hG hNc (c_f_plant_0_1 (c := c) (r := r) (w := w) (lim := lim) (tol := tol) (cart := cart) (wov := wov) (lot := lot) (sew := sew) (mis := mis) (cnt := cnt) (col := col) (len := len) (lef := lef) (sbt := sbt) (shd := shd) (X := (sa, sb, sc, sd, hcn, hnx, byt, tln, num, (1000 + wj), pos, flt)) (Y := (s, past, aside, hcn, byt, tln, k0, line, need, left, slits, slB, slF, slT, at9, wd9, got, ans, worst)) (out := out) hG hc20 hr16 hw hn hl hs hc1 h4 hc4 b v (by rw [zFr0_in (by omega : c < 2 ^ 31)]; exact if_neg z)), m_plant_1 hG hM b v z', ⟨_, _, _, _, _, _, _, _, _, _, _, _, _, _, _, _, _, _, _, _, _, _, _, _, _, _, _, _, hR, hH, h150, hj, hpos, hnm, hgo, rfl⟩, fun z => absurd z (by decide)⟩

set_option maxHeartbeats 1000000 in
set_option maxRecDepth 100000 in
theorem s_weave {G : zT} (hG : zAl G = false) (hNc : zNcs G) {k0 : Int32} {out : Nat → Int64} {H : zH} (h : zGd k0 out H) (n : Int32) : zStep G mL_weave mX10_weave [.int n] H := by
  obtain ⟨S, sa, sb, sc, sd, hcn, hnx, tln, wj, pos, byt, num, flt, s, past, aside, line, need, left, slits, slB, slF, slT, at9, wd9, got, ans, worst, hR, hH, h150, hj, hpos, hnm, hgo, rfl⟩ := h
  obtain ⟨c, r, w, lim, tol, cart, wov, lot, sew, mis, cnt, col, len, lef, sbt, shd⟩ := S
  have hE : zRe c r w lim tol cart wov lot sew mis cnt col len lef sbt shd s := hR
  have hM := hE.1
  obtain ⟨-, -, -, -, -, hc1, hc20, hr1, hr16, hw, hn, hl⟩ := hE.1
  have hs := hE.2.2.2.2.2.2.2.2.2.2.1
  have hc4 : hcn ≤ 4 := hH.1
  have h4 : hnx < 4 := hH.2.1
  by_cases z : zFr (nI 1) n (nI 16) = true
  · obtain ⟨n, rfl, ha⟩ := zFr_nn (by decide) (by decide) z
    have f := c_f_weave (c := c) (r := r) (w := w) (lim := lim) (tol := tol) (cart := cart) (wov := wov) (lot := lot) (sew := sew) (mis := mis) (cnt := cnt) (col := col) (len := len) (lef := lef) (sbt := sbt) (shd := shd) (X := (sa, sb, sc, sd, hcn, hnx, byt, tln, num, (1000 + wj), pos, flt)) (Y := (s, past, aside, hcn, byt, tln, k0, line, need, left, slits, slB, slF, slT, at9, wd9, got, ans, worst)) (out := out) hG hc20 hr16 hw hn hl hs hc1 h4 hc4 n ha.2 (if_pos z)
    rw [zSvd_t] at f
    have kk := (k_weave n w wov lot lef mis s line hE).2.2
    exact ⟨0, 0, 0, _, _, _, _, by decide, by decide, c_l_weave hG f, m_weave hG hM hc4 n z ha.2, ⟨_, _, _, _, _, _, _, _, _, _, _, _, _, _, _, _, _, _, _, _, _, _, _, _, _, _, _, _, (by rw [zRel_t]; exact kk), (k_save hR hH), h150, hj, hpos, hnm, hgo, rfl⟩, fun _ => zOut0.trans (congrArg Int32.toInt64 (congrArg nI (k_weave n w wov lot lef mis s line hE).1))⟩
  · have z' : zFr (nI 1) n (nI 16) = false := by simpa using z
    exact ⟨1, 6, 1, _, _, _, _, by decide, by decide, c_l_weave_1 hG hNc (c_g_weave_0_2 (c := c) (r := r) (w := w) (lim := lim) (tol := tol) (cart := cart) (wov := wov) (lot := lot) (sew := sew) (mis := mis) (cnt := cnt) (col := col) (len := len) (lef := lef) (sbt := sbt) (shd := shd) (X := (sa, sb, sc, sd, hcn, hnx, byt, tln, num, (1000 + wj), pos, flt)) (Y := (s, past, aside, hcn, byt, tln, k0, line, need, left, slits, slB, slF, slT, at9, wd9, got, ans, worst)) (out := out) hG hc20 hr16 hw hn hl hs hc1 h4 hc4 n (if_neg z)), m_weave_1 hG n z', ⟨_, _, _, _, _, _, _, _, _, _, _, _, _, _, _, _, _, _, _, _, _, _, _, _, _, _, _, _, hR, hH, h150, hj, hpos, hnm, hgo, rfl⟩, fun z => absurd z (by decide)⟩
