set_option maxHeartbeats 1000000 in
set_option maxRecDepth 100000 in
theorem s_type {G : zT} (hG : zAl G = false) (hNc : zNcs G) {k0 : Int32} {out : Nat → Int64} {H : zH} (h : zGd k0 out H) (v : Int32) : zStep G mL_type mX10_type [.int v] H := by
  obtain ⟨S, sa, sb, sc, sd, hcn, hnx, tln, wj, pos, byt, num, flt, s, past, aside, line, need, left, slits, slB, slF, slT, at9, wd9, got, ans, worst, hR, hH, h150, hj, hnm, hgo, rfl⟩ := h
  obtain ⟨c, r, w, lim, tol, cart, wov, lot, sew, mis, cnt, col, len, lef, sbt, shd⟩ := S
  have hE : zRe c r w lim tol cart wov lot sew mis cnt col len lef sbt shd s := hR
  have hM := hE.1
  obtain ⟨-, -, -, -, -, hc1, hc20, hr1, hr16, hw, hn, hl⟩ := hE.1
  have hs := hE.2.2.2.2.2.2.2.2.2.2.1
  have hc4 : hcn ≤ 4 := hH.1
  have h4 : hnx < 4 := hH.2.1
  by_cases z : zFr (nI 0) v (nI 127) = true
  · by_cases z2 : tln < 150
    · have f := c_f_type (c := c) (r := r) (w := w) (lim := lim) (tol := tol) (cart := cart) (wov := wov) (lot := lot) (sew := sew) (mis := mis) (cnt := cnt) (col := col) (len := len) (lef := lef) (sbt := sbt) (shd := shd) (sa := sa) (sb := sb) (sc := sc) (sd := sd) (hcn := hcn) (hnx := hnx) (tln := tln) (wj := wj) (pos := pos) (byt := byt) (num := num) (flt := flt) (Y := (s, past, aside, hcn, byt, tln, k0, line, need, left, slits, slB, slF, slT, at9, wd9, got, ans, worst)) (out := out) hG hc20 hr16 hw hn h150 hj v z z2
      rw [zPutN_n z2 (by decide)] at f
      exact ⟨0, 0, 0, _, _, _, _, by decide, by decide, c_l_type hG f, m_type hG hM v z z2, ⟨_, _, _, _, _, _, _, _, _, _, _, _, _, _, _, _, _, _, _, _, _, _, _, _, _, _, _, _, hR, hH, (by omega : tln + 1 ≤ 150), hj, hnm, hgo, rfl⟩, fun _ => zOut0, ⟨_, _, _, _, rfl⟩⟩
    · have f := c_f_type_1_3 (c := c) (r := r) (w := w) (lim := lim) (tol := tol) (cart := cart) (wov := wov) (lot := lot) (sew := sew) (mis := mis) (cnt := cnt) (col := col) (len := len) (lef := lef) (sbt := sbt) (shd := shd) (sa := sa) (sb := sb) (sc := sc) (sd := sd) (hcn := hcn) (hnx := hnx) (tln := tln) (wj := wj) (pos := pos) (byt := byt) (num := num) (flt := flt) (Y := (s, past, aside, hcn, byt, tln, k0, line, need, left, slits, slB, slF, slT, at9, wd9, got, ans, worst)) (out := out) hG hc20 hr16 hw hn h150 hj v z (by omega)
      exact ⟨1, 6, 2, _, _, _, _, by decide, by decide, c_l_type_2 hG hNc f, m_type_2 hG hM v z (by omega), ⟨_, _, _, _, _, _, _, _, _, _, _, _, _, _, _, _, _, _, _, _, _, _, _, _, _, _, _, _, hR, hH, h150, hj, hnm, hgo, rfl⟩, fun z => absurd z (by decide), ⟨_, _, _, _, rfl⟩⟩
  · have z' : zFr (nI 0) v (nI 127) = false := by simpa using z
    have f := c_f_type_0_2 (c := c) (r := r) (w := w) (lim := lim) (tol := tol) (cart := cart) (wov := wov) (lot := lot) (sew := sew) (mis := mis) (cnt := cnt) (col := col) (len := len) (lef := lef) (sbt := sbt) (shd := shd) (sa := sa) (sb := sb) (sc := sc) (sd := sd) (hcn := hcn) (hnx := hnx) (tln := tln) (wj := wj) (pos := pos) (byt := byt) (num := num) (flt := flt) (Y := (s, past, aside, hcn, byt, tln, k0, line, need, left, slits, slB, slF, slT, at9, wd9, got, ans, worst)) (out := out) hG hc20 hr16 hw hn h150 hj v z'
    exact ⟨1, 6, 1, _, _, _, _, by decide, by decide, c_l_type_1 hG hNc f, m_type_1 hG hM v z', ⟨_, _, _, _, _, _, _, _, _, _, _, _, _, _, _, _, _, _, _, _, _, _, _, _, _, _, _, _, hR, hH, h150, hj, hnm, hgo, rfl⟩, fun z => absurd z (by decide), ⟨_, _, _, _, rfl⟩⟩

set_option maxHeartbeats 1000000 in
set_option maxRecDepth 100000 in
theorem s_undo {G : zT} (hG : zAl G = false) (hNc : zNcs G) {k0 : Int32} {out : Nat → Int64} {H : zH} (h : zGd k0 out H) : zStep G mL_undo mX10_undo [] H := by
  obtain ⟨S, sa, sb, sc, sd, hcn, hnx, tln, wj, pos, byt, num, flt, s, past, aside, line, need, left, slits, slB, slF, slT, at9, wd9, got, ans, worst, hR, hH, h150, hj, hnm, hgo, rfl⟩ := h
  obtain ⟨c, r, w, lim, tol, cart, wov, lot, sew, mis, cnt, col, len, lef, sbt, shd⟩ := S
  have hE : zRe c r w lim tol cart wov lot sew mis cnt col len lef sbt shd s := hR
  have hM := hE.1
  obtain ⟨-, -, -, -, -, hc1, hc20, hr1, hr16, hw, hn, hl⟩ := hE.1
  have hs := hE.2.2.2.2.2.2.2.2.2.2.1
  have hc4 : hcn ≤ 4 := hH.1
  have h4 : hnx < 4 := hH.2.1
  by_cases z : 0 < hcn
  · have f := c_f_undo (c := c) (r := r) (w := w) (lim := lim) (tol := tol) (cart := cart) (wov := wov) (lot := lot) (sew := sew) (mis := mis) (cnt := cnt) (col := col) (len := len) (lef := lef) (sbt := sbt) (shd := shd) (X := (sa, sb, sc, sd, hcn, hnx, byt, tln, num, (1000 + wj), pos, flt)) (Y := (s, past, aside, hcn, byt, tln, k0, line, need, left, slits, slB, slF, slT, at9, wd9, got, ans, worst)) (out := out) hG hc20 hr16 hw hn hl hs hc1 h4 hc4 z
    have ku := k_undo (S := (c, r, w, lim, tol, cart, wov, lot, sew, mis, cnt, col, len, lef, sbt, shd)) (s := s) hs hH z
    exact ⟨0, 0, 0, _, _, _, _, by decide, by decide, c_l_undo hG f, m_undo hG hM z hc4, ⟨zCp (if hnx = 1 then sa else if hnx = 2 then sb else if hnx = 3 then sc else sd) (c, r, w, lim, tol, cart, wov, lot, sew, mis, cnt, col, len, lef, sbt, shd), sa, sb, sc, sd, hcn - 1, (hnx + 3) % 4, tln, wj, pos, byt, num, flt, _, _, _, _, _, _, _, _, _, _, _, _, _, _, _, ku.1, ku.2, h150, hj, hnm, hgo, rfl⟩, fun _ => zOut0, ⟨_, _, _, _, rfl⟩⟩
  · have z0 : hcn = 0 := by omega
    have f := c_f_undo_0_3 (c := c) (r := r) (w := w) (lim := lim) (tol := tol) (cart := cart) (wov := wov) (lot := lot) (sew := sew) (mis := mis) (cnt := cnt) (col := col) (len := len) (lef := lef) (sbt := sbt) (shd := shd) (X := (sa, sb, sc, sd, hcn, hnx, byt, tln, num, (1000 + wj), pos, flt)) (Y := (s, past, aside, hcn, byt, tln, k0, line, need, left, slits, slB, slF, slT, at9, wd9, got, ans, worst)) (out := out) hG hc20 hr16 hw hn hl hs hc1 h4 hc4 z0
    rw [z0] at f hH ⊢
    exact ⟨1, 6, 1, _, _, _, _, by decide, by decide, c_l_undo_1 hG hNc f, m_undo_1 hG, ⟨_, _, _, _, _, 0, _, _, _, _, _, _, _, _, _, _, _, _, _, _, _, _, _, _, _, _, _, _, hR, hH, h150, hj, hnm, hgo, rfl⟩, fun z => absurd z (by decide), ⟨_, _, _, _, rfl⟩⟩

/-- a call that never throws -/
def zVi (v : Value) : Prop := ∃ a : Int32, v = .int a
def zVl (v : Value) : Prop := ∃ a : Int64, v = .long a
def zStep2 (V : Value → Prop) (G : zT) (M1 M2 : zN) (out : Nat → Int64) (H : zH) : Prop := ∃ (v : Value) (H1 H2 : zH) (k : Int32), zRun G M1 0 0 [.ref 0] H (.inr (some v)) H1 ∧ zRun G M2 0 0 [.ref 114] H1 (.inr (some v)) H2 ∧ zGd k out H2 ∧ zIsH H1 ∧ V v

set_option maxHeartbeats 1000000 in
set_option maxRecDepth 100000 in
theorem s_worstSeam {G : zT} (hG : zAl G = false) {k0 : Int32} {out : Nat → Int64} {H : zH} (h : zGd k0 out H) : zStep2 zVi G mX9_worstSeam mX10_worstSeam out H := by
  obtain ⟨S, sa, sb, sc, sd, hcn, hnx, tln, wj, pos, byt, num, flt, s, past, aside, line, need, left, slits, slB, slF, slT, at9, wd9, got, ans, worst, hR, hH, h150, hj, hnm, hgo, rfl⟩ := h
  obtain ⟨c, r, w, lim, tol, cart, wov, lot, sew, mis, cnt, col, len, lef, sbt, shd⟩ := S
  have hE : zRe c r w lim tol cart wov lot sew mis cnt col len lef sbt shd s := hR
  have hM := hE.1
  obtain ⟨-, -, -, -, -, hc1, hc20, hr1, hr16, hw, hn, hl⟩ := hE.1
  have hs := hE.2.2.2.2.2.2.2.2.2.2.1
  have hc4 : hcn ≤ 4 := hH.1
  have h4 : hnx < 4 := hH.2.1
  have f := c_f_worstSeam (c := c) (r := r) (w := w) (lim := lim) (tol := tol) (cart := cart) (wov := wov) (lot := lot) (sew := sew) (mis := mis) (cnt := cnt) (col := col) (len := len) (lef := lef) (sbt := sbt) (shd := shd) (X := (sa, sb, sc, sd, hcn, hnx, byt, tln, num, (1000 + wj), pos, flt)) (Y := (s, past, aside, hcn, byt, tln, k0, line, need, left, slits, slB, slF, slT, at9, wd9, got, ans, worst)) (out := out) hG hc20 hr16 hw hn hl hs hc1 h4 hc4 
  have e := q_worst hE.2.2.2.2.2.2.2.2.1 hE.2.2.2.2.1 hE.2.2.2.2.2.1 hn
  rw [e] at f
  exact ⟨_, _, _, _, f, m_worstSeam hG hM hE.shs (fun y b hy hb => by obtain ⟨-, j, h1, h2⟩ := hE.2.2.2.2.2.1 y b hy hb; exact Or.inr ⟨j, by omega, h2⟩) (by rw [hE.2.2.1.1]; exact hE.2.2.1.2), ⟨_, _, _, _, _, _, _, _, _, _, _, _, _, _, _, _, _, _, _, _, _, _, _, _, _, _, _, _, hR, hH, h150, hj, hnm, hgo, rfl⟩, ⟨_, _, _, _, rfl⟩, ⟨_, rfl⟩⟩

set_option maxHeartbeats 1000000 in
set_option maxRecDepth 100000 in
theorem s_rowsPossible {G : zT} (hG : zAl G = false) {k0 : Int32} {out : Nat → Int64} {H : zH} (h : zGd k0 out H) : zStep2 zVi G mX9_rowsPossible mX10_rowsPossible out H := by
  obtain ⟨S, sa, sb, sc, sd, hcn, hnx, tln, wj, pos, byt, num, flt, s, past, aside, line, need, left, slits, slB, slF, slT, at9, wd9, got, ans, worst, hR, hH, h150, hj, hnm, hgo, rfl⟩ := h
  obtain ⟨c, r, w, lim, tol, cart, wov, lot, sew, mis, cnt, col, len, lef, sbt, shd⟩ := S
  have hE : zRe c r w lim tol cart wov lot sew mis cnt col len lef sbt shd s := hR
  have hM := hE.1
  obtain ⟨-, -, -, -, -, hc1, hc20, hr1, hr16, hw, hn, hl⟩ := hE.1
  have hs := hE.2.2.2.2.2.2.2.2.2.2.1
  have hc4 : hcn ≤ 4 := hH.1
  have h4 : hnx < 4 := hH.2.1
  have f := c_f_rowsPossible (c := c) (r := r) (w := w) (lim := lim) (tol := tol) (cart := cart) (wov := wov) (lot := lot) (sew := sew) (mis := mis) (cnt := cnt) (col := col) (len := len) (lef := lef) (sbt := sbt) (shd := shd) (X := (sa, sb, sc, sd, hcn, hnx, byt, tln, num, (1000 + wj), pos, flt)) (Y := (s, past, aside, hcn, byt, tln, k0, line, need, left, slits, slB, slF, slT, at9, wd9, got, ans, worst)) (out := out) hG hc20 hr16 hw hn hl hs hc1 h4 hc4 
  have e := q_rows hE.2.2.2.1 hE.2.2.2.2.2.2.2.2.1 hn hw left line
  rw [e] at f
  exact ⟨_, _, _, _, f, m_rowsPossible hG hM, ⟨_, _, _, _, _, _, _, _, _, _, _, _, _, _, _, _, _, _, _, _, _, _, _, _, _, _, _, _, hR, hH, h150, hj, hnm, hgo, rfl⟩, ⟨_, _, _, _, rfl⟩, ⟨_, rfl⟩⟩

set_option maxHeartbeats 1000000 in
set_option maxRecDepth 100000 in
theorem s_firstWrong {G : zT} (hG : zAl G = false) {k0 : Int32} {out : Nat → Int64} {H : zH} (h : zGd k0 out H) : zStep2 zVi G mX9_firstWrong mX10_firstWrong out H := by
  obtain ⟨S, sa, sb, sc, sd, hcn, hnx, tln, wj, pos, byt, num, flt, s, past, aside, line, need, left, slits, slB, slF, slT, at9, wd9, got, ans, worst, hR, hH, h150, hj, hnm, hgo, rfl⟩ := h
  obtain ⟨c, r, w, lim, tol, cart, wov, lot, sew, mis, cnt, col, len, lef, sbt, shd⟩ := S
  have hE : zRe c r w lim tol cart wov lot sew mis cnt col len lef sbt shd s := hR
  have hM := hE.1
  obtain ⟨-, -, -, -, -, hc1, hc20, hr1, hr16, hw, hn, hl⟩ := hE.1
  have hs := hE.2.2.2.2.2.2.2.2.2.2.1
  have hc4 : hcn ≤ 4 := hH.1
  have h4 : hnx < 4 := hH.2.1
  have f := c_f_firstWrong (c := c) (r := r) (w := w) (lim := lim) (tol := tol) (cart := cart) (wov := wov) (lot := lot) (sew := sew) (mis := mis) (cnt := cnt) (col := col) (len := len) (lef := lef) (sbt := sbt) (shd := shd) (X := (sa, sb, sc, sd, hcn, hnx, byt, tln, num, (1000 + wj), pos, flt)) (Y := (s, past, aside, hcn, byt, tln, k0, line, need, left, slits, slB, slF, slT, at9, wd9, got, ans, worst)) (out := out) hG hc20 hr16 hw hn hl hs hc1 h4 hc4 
  have e := q_fw hE.2.2.2.1 hE.2.2.2.2.1 hw w 0 (by omega)
  rw [e] at f
  exact ⟨_, _, _, _, f, m_firstWrong hG hM, ⟨_, _, _, _, _, _, _, _, _, _, _, _, _, _, _, _, _, _, _, _, _, _, _, _, _, _, _, _, hR, hH, h150, hj, hnm, hgo, rfl⟩, ⟨_, _, _, _, rfl⟩, ⟨_, rfl⟩⟩

set_option maxHeartbeats 1000000 in
set_option maxRecDepth 100000 in
theorem s_digest {G : zT} (hG : zAl G = false) {k0 : Int32} {out : Nat → Int64} {H : zH} (h : zGd k0 out H) : zStep2 zVl G mX9_digest mX10_digest out H := by
  obtain ⟨S, sa, sb, sc, sd, hcn, hnx, tln, wj, pos, byt, num, flt, s, past, aside, line, need, left, slits, slB, slF, slT, at9, wd9, got, ans, worst, hR, hH, h150, hj, hnm, hgo, rfl⟩ := h
  obtain ⟨c, r, w, lim, tol, cart, wov, lot, sew, mis, cnt, col, len, lef, sbt, shd⟩ := S
  have hE : zRe c r w lim tol cart wov lot sew mis cnt col len lef sbt shd s := hR
  have hM := hE.1
  obtain ⟨-, -, -, -, -, hc1, hc20, hr1, hr16, hw, hn, hl⟩ := hE.1
  have hs := hE.2.2.2.2.2.2.2.2.2.2.1
  have hc4 : hcn ≤ 4 := hH.1
  have h4 : hnx < 4 := hH.2.1
  have f := c_f_digest (c := c) (r := r) (w := w) (lim := lim) (tol := tol) (cart := cart) (wov := wov) (lot := lot) (sew := sew) (mis := mis) (cnt := cnt) (col := col) (len := len) (lef := lef) (sbt := sbt) (shd := shd) (X := (sa, sb, sc, sd, hcn, hnx, byt, tln, num, (1000 + wj), pos, flt)) (Y := (s, past, aside, hcn, byt, tln, k0, line, need, left, slits, slB, slF, slT, at9, wd9, got, ans, worst)) (out := out) hG hc20 hr16 hw hn hl hs hc1 h4 hc4 
  have e := q_digest (typed := tln) (pasts := hcn) hE (line, slits, slB, slF, slT, worst) (rGa s c r w cnt lim tln 15 (31 * 43346 + (nI hcn).toInt64, line, slits, slB, slF, slT, worst)).2.2.2.1 (rGa s c r w cnt lim tln 15 (31 * 43346 + (nI hcn).toInt64, line, slits, slB, slF, slT, worst)).2.2.2.2.1 (rGa s c r w cnt lim tln 15 (31 * 43346 + (nI hcn).toInt64, line, slits, slB, slF, slT, worst)).2.2.2.2.2.1 (rGa s c r w cnt lim tln 15 (31 * 43346 + (nI hcn).toInt64, line, slits, slB, slF, slT, worst)).2.1
  rw [e] at f
  exact ⟨_, _, _, _, f, m_digest hG hM hE.shs (fun y b hy hb => by obtain ⟨-, j, h1, h2⟩ := hE.2.2.2.2.2.1 y b hy hb; exact Or.inr ⟨j, by omega, h2⟩) (by rw [hE.2.2.1.1]; exact hE.2.2.1.2), ⟨_, _, _, _, _, _, _, _, _, _, _, _, _, _, _, _, _, _, _, _, _, _, _, _, _, _, _, _, hR, hH, h150, hj, hnm, hgo, rfl⟩, ⟨_, _, _, _, rfl⟩, ⟨_, rfl⟩⟩

set_option maxHeartbeats 1000000 in
set_option maxRecDepth 100000 in
theorem s_clear {G : zT} (hG : zAl G = false) {k0 : Int32} {out : Nat → Int64} {H : zH} (h : zGd k0 out H) : zStep2 zVi G mX9_clearCommands mX10_clearCommands out H := by
  obtain ⟨S, sa, sb, sc, sd, hcn, hnx, tln, wj, pos, byt, num, flt, s, past, aside, line, need, left, slits, slB, slF, slT, at9, wd9, got, ans, worst, hR, hH, h150, hj, hnm, hgo, rfl⟩ := h
  obtain ⟨c, r, w, lim, tol, cart, wov, lot, sew, mis, cnt, col, len, lef, sbt, shd⟩ := S
  have hE : zRe c r w lim tol cart wov lot sew mis cnt col len lef sbt shd s := hR
  have hM := hE.1
  obtain ⟨-, -, -, -, -, hc1, hc20, hr1, hr16, hw, hn, hl⟩ := hE.1
  have hs := hE.2.2.2.2.2.2.2.2.2.2.1
  have hc4 : hcn ≤ 4 := hH.1
  have h4 : hnx < 4 := hH.2.1
  have f := c_f_clear (c := c) (r := r) (w := w) (lim := lim) (tol := tol) (cart := cart) (wov := wov) (lot := lot) (sew := sew) (mis := mis) (cnt := cnt) (col := col) (len := len) (lef := lef) (sbt := sbt) (shd := shd) (sa := sa) (sb := sb) (sc := sc) (sd := sd) (hcn := hcn) (hnx := hnx) (tln := tln) (wj := wj) (pos := pos) (byt := byt) (num := num) (flt := flt) (Y := (s, past, aside, hcn, byt, tln, k0, line, need, left, slits, slB, slF, slT, at9, wd9, got, ans, worst)) (out := out) hG hc20 hr16 hw hn h150 hj
  exact ⟨_, _, _, _, f, m_clear hG hM, ⟨_, _, _, _, _, _, _, 0, _, _, _, _, _, _, _, _, _, _, _, _, _, _, _, _, _, _, _, _, hR, hH, Nat.zero_le _, hj, hnm, hgo, rfl⟩, ⟨_, _, _, _, rfl⟩, ⟨_, rfl⟩⟩

theorem zRcc_ok {byt : Nat → Int32} {tln : Nat} : ∀ (d : Nat) (z : zS × zQ4), zOk4 tln z.2 → zNmOk z.2.1 → zOk4 tln (zRcc byt tln d z).2.2 ∧ zNmOk (zRcc byt tln d z).2.2.1
  | 0, z, h1, h2 => ⟨h1, h2⟩
  | d + 1, z, h1, h2 => by
    have k1 := zNx_ok (byt := byt) h1
    have k2 := zNx_nm (byt := byt) (tln := tln) h2
    unfold zRcc
    split
    · split
      · exact zRcc_ok d (_, _) k1 k2
      · exact ⟨k1, k2⟩
    · exact ⟨k1, k2⟩
theorem rRc_go {txt : Nat → Int32} {typed : Nat} : ∀ (d : Nat) (z : zR9), rGo z.2.2.2.2 → rGo (rRc txt typed d z).2.2.2.2
  | 0, _, h => h
  | d + 1, z, h => by
    have k := rRd_ok (txt := txt) (typed := typed) (p := z.2.2.1) h
    unfold rRc
    split
    · split
      · split
        · exact rRc_go d _ k
        · exact k
      · exact k
    · exact h
theorem zRe.sk {c r w lim : Nat} {tol : Int32} {cart wov lot sew mis : Nat → Int32} {cnt : Nat} {col len lef sbt : Nat → Int32} {shd : Nat → UInt32} {s : Nat → Int32} (h : zRe c r w lim tol cart wov lot sew mis cnt col len lef sbt shd s) : zSk9 (c, r, w, lim, tol, cart, wov, lot, sew, mis, cnt, col, len, lef, sbt, shd) := by
  obtain ⟨-, -, -, -, -, hc1, hc20, hr1, hr16, hw, hn, hl⟩ := h.1
  exact ⟨hc1, hc20, hr1, hr16, hw, hn, hl, h.2.2.2.2.2.2.2.2.2.2.1⟩

set_option maxHeartbeats 1000000 in
set_option maxRecDepth 100000 in
theorem s_run {G : zT} (hG : zAl G = false) {k0 : Int32} {out : Nat → Int64} {H : zH} (h : zGd k0 out H) : zStep2 zVi G mX9_runCommands mX10_runCommands out H := by
  obtain ⟨S, sa, sb, sc, sd, hcn, hnx, tln, wj, pos, byt, num, flt, s, past, aside, line, need, left, slits, slB, slF, slT, at9, wd9, got, ans, worst, hR, hH, h150, hj, hnm, hgo, rfl⟩ := h
  obtain ⟨c, r, w, lim, tol, cart, wov, lot, sew, mis, cnt, col, len, lef, sbt, shd⟩ := S
  have hE : zRe c r w lim tol cart wov lot sew mis cnt col len lef sbt shd s := hR
  have hM := hE.1
  obtain ⟨-, -, -, -, -, hc1, hc20, hr1, hr16, hw, hn, hl⟩ := hE.1
  have hs := hE.2.2.2.2.2.2.2.2.2.2.1
  have hc4 : hcn ≤ 4 := hH.1
  have h4 : hnx < 4 := hH.2.1
  have e := k_fault h150 150 (tln + 1) 0 wj num got wd9 (Nat.zero_le _) (by omega) (by omega) (txt := byt)
  have o1 := zFF_ok4 (byt := byt) 150 (num, wj, 0, (-1)) (show zOk4 tln (num, wj, 0, (-1)) from ⟨hj, Nat.zero_le _⟩)
  have o2 := zFF_nm (byt := byt) (tln := tln) 150 (num, wj, 0, (-1)) hnm
  have o3 := rFt_ok (txt := byt) (typed := tln) (tln + 1) (zPs byt tln 0) wd9 got hgo
  by_cases z : (rFt byt tln (tln + 1) (zPs byt tln 0) wd9 got).1 = -1
  · have f := c_f_run (S := (c, r, w, lim, tol, cart, wov, lot, sew, mis, cnt, col, len, lef, sbt, shd)) (sa := sa) (sb := sb) (sc := sc) (sd := sd) (hcn := hcn) (hnx := hnx) (tln := tln) (wj := wj) (pos := pos) (byt := byt) (num := num) (flt := flt) (Y := (s, past, aside, hcn, byt, tln, k0, line, need, left, slits, slB, slF, slT, at9, wd9, got, ans, worst)) (out := out) hG h150 hj h4 hc4 hE.sk hnm (e.trans z)
    have k := k_run (txt := byt) h150 150 (tln + 1) 0 (zFF byt tln 150 (num, wj, 0, (-1))).2.1 0 (c, r, w, lim, tol, cart, wov, lot, sew, mis, cnt, col, len, lef, sbt, shd) (zFF byt tln 150 (num, wj, 0, (-1))).1 (rFt byt tln (tln + 1) (zPs byt tln 0) wd9 got).2.2.2 (rFt byt tln (tln + 1) (zPs byt tln 0) wd9 got).2.2.1 (s, line, slits, slB, slF, slT, ans) (Nat.zero_le _) (by omega) (by omega) o2 hR
    rw [Nat.zero_add] at k
    have r1 := zRcc_ok (byt := byt) 150 ((c, r, w, lim, tol, cart, wov, lot, sew, mis, cnt, col, len, lef, sbt, shd), (zFF byt tln 150 (num, wj, 0, (-1))).1, (zFF byt tln 150 (num, wj, 0, (-1))).2.1, 0, (-1)) (show zOk4 tln ((zFF byt tln 150 (num, wj, 0, (-1))).1, (zFF byt tln 150 (num, wj, 0, (-1))).2.1, 0, (-1)) from ⟨o1.1, Nat.zero_le _⟩) o2
    have r2 := rRc_go (txt := byt) (typed := tln) (tln + 1) (0, (s, line, slits, slB, slF, slT, ans), zPs byt tln 0, (rFt byt tln (tln + 1) (zPs byt tln 0) wd9 got).2.2.1, (rFt byt tln (tln + 1) (zPs byt tln 0) wd9 got).2.2.2) o3
    rw [← k.1, zSvd_t] at f
    exact ⟨_, _, _, _, f, m_run hG h150 hc4 z ⟨c, r, w, cnt, lim, hM, (fun y b hy hb => by obtain ⟨-, j, h1, h2⟩ := hE.2.2.2.2.2.1 y b hy hb; exact Or.inr ⟨j, by omega, h2⟩)⟩ hgo, ⟨(zRcc byt tln 150 ((c, r, w, lim, tol, cart, wov, lot, sew, mis, cnt, col, len, lef, sbt, shd), (zFF byt tln 150 (num, wj, 0, (-1))).1, (zFF byt tln 150 (num, wj, 0, (-1))).2.1, 0, (-1))).2.1, (if hnx = 0 then zCp (c, r, w, lim, tol, cart, wov, lot, sew, mis, cnt, col, len, lef, sbt, shd) sa else sa), (if hnx = 1 then zCp (c, r, w, lim, tol, cart, wov, lot, sew, mis, cnt, col, len, lef, sbt, shd) sb else sb), (if hnx = 2 then zCp (c, r, w, lim, tol, cart, wov, lot, sew, mis, cnt, col, len, lef, sbt, shd) sc else sc), (if hnx = 3 then zCp (c, r, w, lim, tol, cart, wov, lot, sew, mis, cnt, col, len, lef, sbt, shd) sd else sd), min (hcn + 1) 4, (hnx + 1) % 4, tln, (zRcc byt tln 150 ((c, r, w, lim, tol, cart, wov, lot, sew, mis, cnt, col, len, lef, sbt, shd), (zFF byt tln 150 (num, wj, 0, (-1))).1, (zFF byt tln 150 (num, wj, 0, (-1))).2.1, 0, (-1))).2.2.2.1, (zRcc byt tln 150 ((c, r, w, lim, tol, cart, wov, lot, sew, mis, cnt, col, len, lef, sbt, shd), (zFF byt tln 150 (num, wj, 0, (-1))).1, (zFF byt tln 150 (num, wj, 0, (-1))).2.1, 0, (-1))).2.2.2.2.1, byt, (zRcc byt tln 150 ((c, r, w, lim, tol, cart, wov, lot, sew, mis, cnt, col, len, lef, sbt, shd), (zFF byt tln 150 (num, wj, 0, (-1))).1, (zFF byt tln 150 (num, wj, 0, (-1))).2.1, 0, (-1))).2.2.1, (zRcc byt tln 150 ((c, r, w, lim, tol, cart, wov, lot, sew, mis, cnt, col, len, lef, sbt, shd), (zFF byt tln 150 (num, wj, 0, (-1))).1, (zFF byt tln 150 (num, wj, 0, (-1))).2.1, 0, (-1))).2.2.2.2.2, _, _, _, _, _, _, _, _, _, _, _, _, _, _, _, k.2, k_save hR hH, h150, r1.1.1, r1.2, r2, rfl⟩, ⟨_, _, _, _, rfl⟩, ⟨_, rfl⟩⟩
  · have f := c_f_run_f (S := (c, r, w, lim, tol, cart, wov, lot, sew, mis, cnt, col, len, lef, sbt, shd)) (sa := sa) (sb := sb) (sc := sc) (sd := sd) (hcn := hcn) (hnx := hnx) (tln := tln) (wj := wj) (pos := pos) (byt := byt) (num := num) (flt := flt) (Y := (s, past, aside, hcn, byt, tln, k0, line, need, left, slits, slB, slF, slT, at9, wd9, got, ans, worst)) (out := out) hG h150 hj (fun q => z (e.symm.trans q))
    have f2 := m_run_f (S := (c, r, w, lim, tol, cart, wov, lot, sew, mis, cnt, col, len, lef, sbt, shd)) (X := (sa, sb, sc, sd, hcn, hnx, byt, tln, (zFF byt tln 150 (num, wj, 0, (-1))).1, (1000 + (zFF byt tln 150 (num, wj, 0, (-1))).2.1), (zFF byt tln 150 (num, wj, 0, (-1))).2.2.1, (zFF byt tln 150 (num, wj, 0, (-1))).2.2.2)) (out := out) (s := s) (past := past) (aside := aside) (pasts := hcn) (txt := byt) (typed := tln) (thrown := k0) (line := line) (need := need) (left := left) (slits := slits) (slB := slB) (slF := slF) (slT := slT) (at9 := at9) (wd9 := wd9) (got := got) (ans := ans) (worst := worst) hG h150 z
    rw [← e] at f2
    exact ⟨_, _, _, _, f, f2, ⟨_, _, _, _, _, _, _, _, (zFF byt tln 150 (num, wj, 0, (-1))).2.1, _, _, _, _, _, _, _, _, _, _, _, _, _, _, _, _, _, _, _, hR, hH, h150, o1.1, o2, o3, rfl⟩, ⟨_, _, _, _, rfl⟩, ⟨_, rfl⟩⟩
