theorem zo_i {o9 : zO} {a b : Int32} (h : (Sum.inr (some (.int a)) : zO) = o9) (e : a = b) : o9 = .inr (some (.int b)) := by rw [← h, e]
theorem zo_l {o9 : zO} {a b : Int64} (h : (Sum.inr (some (.long a)) : zO) = o9) (e : a = b) : o9 = .inr (some (.long b)) := by rw [← h, e]
theorem zo_f {o9 : zO} {a b : UInt32} (h : (Sum.inr (some (.float a)) : zO) = o9) (e : a = b) : o9 = .inr (some (.float b)) := by rw [← h, e]
theorem zo_h {h9 a b : zH} (h : a = h9) (e : a = b) : b = h9 := by rw [← h, e]
section ZAUX
variable {G : zT} {M : zN} {mc ms : Nat} {o : zO} {h' : zH} {cells slots pc : Nat} {lv : List (Nat × Value)} {st : List Value} {h : zH}
theorem z_sub (ks : List Nat) {lv' : List (Nat × Value)} (e : lv_pick lv ks = lv') (k : zPW G M mc ms o h' cells slots pc lv' st h) : zPW G M mc ms o h' cells slots pc lv st h := by
  intro p e9 s m args below meth c A H locs ls C N hl
  refine k p e9 s m args below meth c A H locs ls C N (lv_sub hl ks ?_)
  subst e
  unfold lv_pick zl
  rw [List.map_filterMap]
  refine congrArg (fun f => List.filterMap f ks) (funext fun i => ?_)
  rw [List.getElem?_map]
theorem z_eqs {lv2 : List (Nat × Value)} {h2 : zH} (e1 : lv = lv2) (e2 : h = h2) (k : zPW G M mc ms o h' cells slots pc lv2 st h2) : zPW G M mc ms o h' cells slots pc lv st h := by
  subst e1; subst e2; exact k
theorem z_eqh {h2 : zH} (e2 : h = h2) (k : zPW G M mc ms o h' cells slots pc lv st h2) : zPW G M mc ms o h' cells slots pc lv st h := by
  subst e2; exact k
theorem z_top {v v2 : Value} (e : v = v2) (k : zPW G M mc ms o h' cells slots pc lv (v2 :: st) h) : zPW G M mc ms o h' cells slots pc lv (v :: st) h := by
  subst e; exact k
end ZAUX
/-- the whole picture: the loom in work (S), the saved ones, the text, the reader (X), the reference (Y), the answer's cell -/
abbrev zS : Type := Nat × Nat × Nat × Nat × Int32 × (Nat → Int32) × (Nat → Int32) × (Nat → Int32) × (Nat → Int32) × (Nat → Int32) × Nat × (Nat → Int32) × (Nat → Int32) × (Nat → Int32) × (Nat → Int32) × (Nat → UInt32)
abbrev zXr : Type := zS × zS × zS × zS × Nat × Nat × (Nat → Int32) × Nat × (Nat → Int32) × Nat × Nat × Int32
abbrev zYr : Type := (Nat → Int32) × (Nat → Int32) × (Nat → Int32) × Nat × (Nat → Int32) × Nat × Int32 × (Nat → Int32) × (Nat → Int32) × (Nat → Int32) × Nat × (Nat → Int32) × (Nat → Int32) × (Nat → Int32) × Nat × Int32 × (Nat → Int32) × Int32 × UInt32
def zSv : Nat → Option Nat := va_up (va_up (va_up (va_up (fun _ => none) 0 (some 24)) 1 (some 45)) 2 (some 66)) 3 (some 87)
def zHp (S : zS) (X : zXr) (Y : zYr) (o : Nat → Int64) : zH := [.inr (7, [.ref 1, .ref 22, .ref 108, .ref 111]),
  .inr (4, [.int (nI S.1), .int (nI S.2.1), .int (nI S.2.2.1), .int (nI S.2.2.2.1), .int (S.2.2.2.2.1), .ref 2, .ref 4, .ref 6, .ref 8, .ref 10, .ref 12]),
  .inr (2, [.ref 3]),
  .inl (0, 320, .inl (S.2.2.2.2.2.1)),
  .inr (2, [.ref 5]),
  .inl (0, 320, .inl (S.2.2.2.2.2.2.1)),
  .inr (2, [.ref 7]),
  .inl (0, 320, .inl (S.2.2.2.2.2.2.2.1)),
  .inr (2, [.ref 9]),
  .inl (0, 320, .inl (S.2.2.2.2.2.2.2.2.1)),
  .inr (6, [.ref 11]),
  .inl (0, 20, .inl (S.2.2.2.2.2.2.2.2.2.1)),
  .inr (5, [.int (nI S.2.2.2.2.2.2.2.2.2.2.1), .ref 13, .ref 15, .ref 17, .ref 19, .ref 21]),
  .inr (6, [.ref 14]),
  .inl (0, 16, .inl (S.2.2.2.2.2.2.2.2.2.2.2.1)),
  .inr (6, [.ref 16]),
  .inl (0, 16, .inl (S.2.2.2.2.2.2.2.2.2.2.2.2.1)),
  .inr (6, [.ref 18]),
  .inl (0, 16, .inl (S.2.2.2.2.2.2.2.2.2.2.2.2.2.1)),
  .inr (6, [.ref 20]),
  .inl (0, 16, .inl (S.2.2.2.2.2.2.2.2.2.2.2.2.2.2.1)),
  .inl (2, 16, .inr (.inr (.inl (S.2.2.2.2.2.2.2.2.2.2.2.2.2.2.2)))),
  .inr (3, [.ref 23, .int (nI X.2.2.2.2.1), .int (nI X.2.2.2.2.2.1)]),
  .inl (3, 4, .inr (.inr (.inr (.inr zSv)))),
  .inr (4, [.int (nI X.1.1), .int (nI X.1.2.1), .int (nI X.1.2.2.1), .int (nI X.1.2.2.2.1), .int (X.1.2.2.2.2.1), .ref 25, .ref 27, .ref 29, .ref 31, .ref 33, .ref 35]),
  .inr (2, [.ref 26]),
  .inl (0, 320, .inl (X.1.2.2.2.2.2.1)),
  .inr (2, [.ref 28]),
  .inl (0, 320, .inl (X.1.2.2.2.2.2.2.1)),
  .inr (2, [.ref 30]),
  .inl (0, 320, .inl (X.1.2.2.2.2.2.2.2.1)),
  .inr (2, [.ref 32]),
  .inl (0, 320, .inl (X.1.2.2.2.2.2.2.2.2.1)),
  .inr (6, [.ref 34]),
  .inl (0, 20, .inl (X.1.2.2.2.2.2.2.2.2.2.1)),
  .inr (5, [.int (nI X.1.2.2.2.2.2.2.2.2.2.2.1), .ref 36, .ref 38, .ref 40, .ref 42, .ref 44]),
  .inr (6, [.ref 37]),
  .inl (0, 16, .inl (X.1.2.2.2.2.2.2.2.2.2.2.2.1)),
  .inr (6, [.ref 39]),
  .inl (0, 16, .inl (X.1.2.2.2.2.2.2.2.2.2.2.2.2.1)),
  .inr (6, [.ref 41]),
  .inl (0, 16, .inl (X.1.2.2.2.2.2.2.2.2.2.2.2.2.2.1)),
  .inr (6, [.ref 43]),
  .inl (0, 16, .inl (X.1.2.2.2.2.2.2.2.2.2.2.2.2.2.2.1)),
  .inl (2, 16, .inr (.inr (.inl (X.1.2.2.2.2.2.2.2.2.2.2.2.2.2.2.2)))),
  .inr (4, [.int (nI X.2.1.1), .int (nI X.2.1.2.1), .int (nI X.2.1.2.2.1), .int (nI X.2.1.2.2.2.1), .int (X.2.1.2.2.2.2.1), .ref 46, .ref 48, .ref 50, .ref 52, .ref 54, .ref 56]),
  .inr (2, [.ref 47]),
  .inl (0, 320, .inl (X.2.1.2.2.2.2.2.1)),
  .inr (2, [.ref 49]),
  .inl (0, 320, .inl (X.2.1.2.2.2.2.2.2.1)),
  .inr (2, [.ref 51]),
  .inl (0, 320, .inl (X.2.1.2.2.2.2.2.2.2.1)),
  .inr (2, [.ref 53]),
  .inl (0, 320, .inl (X.2.1.2.2.2.2.2.2.2.2.1)),
  .inr (6, [.ref 55]),
  .inl (0, 20, .inl (X.2.1.2.2.2.2.2.2.2.2.2.1)),
  .inr (5, [.int (nI X.2.1.2.2.2.2.2.2.2.2.2.2.1), .ref 57, .ref 59, .ref 61, .ref 63, .ref 65]),
  .inr (6, [.ref 58]),
  .inl (0, 16, .inl (X.2.1.2.2.2.2.2.2.2.2.2.2.2.1)),
  .inr (6, [.ref 60]),
  .inl (0, 16, .inl (X.2.1.2.2.2.2.2.2.2.2.2.2.2.2.1)),
  .inr (6, [.ref 62]),
  .inl (0, 16, .inl (X.2.1.2.2.2.2.2.2.2.2.2.2.2.2.2.1)),
  .inr (6, [.ref 64]),
  .inl (0, 16, .inl (X.2.1.2.2.2.2.2.2.2.2.2.2.2.2.2.2.1)),
  .inl (2, 16, .inr (.inr (.inl (X.2.1.2.2.2.2.2.2.2.2.2.2.2.2.2.2.2)))),
  .inr (4, [.int (nI X.2.2.1.1), .int (nI X.2.2.1.2.1), .int (nI X.2.2.1.2.2.1), .int (nI X.2.2.1.2.2.2.1), .int (X.2.2.1.2.2.2.2.1), .ref 67, .ref 69, .ref 71, .ref 73, .ref 75, .ref 77]),
  .inr (2, [.ref 68]),
  .inl (0, 320, .inl (X.2.2.1.2.2.2.2.2.1)),
  .inr (2, [.ref 70]),
  .inl (0, 320, .inl (X.2.2.1.2.2.2.2.2.2.1)),
  .inr (2, [.ref 72]),
  .inl (0, 320, .inl (X.2.2.1.2.2.2.2.2.2.2.1)),
  .inr (2, [.ref 74]),
  .inl (0, 320, .inl (X.2.2.1.2.2.2.2.2.2.2.2.1)),
  .inr (6, [.ref 76]),
  .inl (0, 20, .inl (X.2.2.1.2.2.2.2.2.2.2.2.2.1)),
  .inr (5, [.int (nI X.2.2.1.2.2.2.2.2.2.2.2.2.2.1), .ref 78, .ref 80, .ref 82, .ref 84, .ref 86]),
  .inr (6, [.ref 79]),
  .inl (0, 16, .inl (X.2.2.1.2.2.2.2.2.2.2.2.2.2.2.1)),
  .inr (6, [.ref 81]),
  .inl (0, 16, .inl (X.2.2.1.2.2.2.2.2.2.2.2.2.2.2.2.1)),
  .inr (6, [.ref 83]),
  .inl (0, 16, .inl (X.2.2.1.2.2.2.2.2.2.2.2.2.2.2.2.2.1)),
  .inr (6, [.ref 85]),
  .inl (0, 16, .inl (X.2.2.1.2.2.2.2.2.2.2.2.2.2.2.2.2.2.1)),
  .inl (2, 16, .inr (.inr (.inl (X.2.2.1.2.2.2.2.2.2.2.2.2.2.2.2.2.2.2)))),
  .inr (4, [.int (nI X.2.2.2.1.1), .int (nI X.2.2.2.1.2.1), .int (nI X.2.2.2.1.2.2.1), .int (nI X.2.2.2.1.2.2.2.1), .int (X.2.2.2.1.2.2.2.2.1), .ref 88, .ref 90, .ref 92, .ref 94, .ref 96, .ref 98]),
  .inr (2, [.ref 89]),
  .inl (0, 320, .inl (X.2.2.2.1.2.2.2.2.2.1)),
  .inr (2, [.ref 91]),
  .inl (0, 320, .inl (X.2.2.2.1.2.2.2.2.2.2.1)),
  .inr (2, [.ref 93]),
  .inl (0, 320, .inl (X.2.2.2.1.2.2.2.2.2.2.2.1)),
  .inr (2, [.ref 95]),
  .inl (0, 320, .inl (X.2.2.2.1.2.2.2.2.2.2.2.2.1)),
  .inr (6, [.ref 97]),
  .inl (0, 20, .inl (X.2.2.2.1.2.2.2.2.2.2.2.2.2.1)),
  .inr (5, [.int (nI X.2.2.2.1.2.2.2.2.2.2.2.2.2.2.1), .ref 99, .ref 101, .ref 103, .ref 105, .ref 107]),
  .inr (6, [.ref 100]),
  .inl (0, 16, .inl (X.2.2.2.1.2.2.2.2.2.2.2.2.2.2.2.1)),
  .inr (6, [.ref 102]),
  .inl (0, 16, .inl (X.2.2.2.1.2.2.2.2.2.2.2.2.2.2.2.2.1)),
  .inr (6, [.ref 104]),
  .inl (0, 16, .inl (X.2.2.2.1.2.2.2.2.2.2.2.2.2.2.2.2.2.1)),
  .inr (6, [.ref 106]),
  .inl (0, 16, .inl (X.2.2.2.1.2.2.2.2.2.2.2.2.2.2.2.2.2.2.1)),
  .inl (2, 16, .inr (.inr (.inl (X.2.2.2.1.2.2.2.2.2.2.2.2.2.2.2.2.2.2.2)))),
  .inr (1, [.ref 109, .int (nI X.2.2.2.2.2.2.2.1)]),
  .inr (6, [.ref 110]),
  .inl (0, 150, .inl (X.2.2.2.2.2.2.1)),
  .inr (0, [.ref 108, .ref 112, .ref X.2.2.2.2.2.2.2.2.2.1, .int (nI X.2.2.2.2.2.2.2.2.2.2.1), .int (X.2.2.2.2.2.2.2.2.2.2.2)]),
  .inr (6, [.ref 113]),
  .inl (0, 5, .inl (X.2.2.2.2.2.2.2.2.1))]
theorem zlt {S : zS} {X : zXr} {Y : zYr} {o : Nat → Int64} : (zHp S X Y o).length < 1000 := Nat.le_of_ble_eq_true rfl
