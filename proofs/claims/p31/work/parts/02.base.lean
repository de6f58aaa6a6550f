/-! THE PURE MACHINE: a method's run over a picture of the heap: cells by number (ids), references are ids; G says where each lies -/
def zG : List Cond := lw_tbl.filter goodWord
theorem zG_in {w : Cond} (i : Nat) (h : lw_tbl[i]? = some w) (hg : goodWord w = true) : w ∈ zG := List.mem_filter.mpr ⟨List.mem_of_getElem? h, hg⟩
theorem zG_good : GoodIn zG zG := fun _ h => ⟨h, good_of_word (List.mem_filter.mp h).2⟩
abbrev zE : Type := (Nat × vp_A) ⊕ (Nat × List Value)
abbrev zH : Type := List zE
/-- launch, classes and slots, array classes, where ids lie, whether things are being made -/
abbrev zT : Type := Launch × va_G × (Nat → ClassId) × (Nat → Nat) × Bool
def zv (ad : Nat → Nat) (v : Value) : Value := match v with
  | .ref i => .ref (ad i)
  | w => w
theorem zv_cat (ad : Nat → Nat) (v : Value) : (zv ad v).category = v.category := by cases v <;> rfl
theorem zv_cats (ad : Nat → Nat) (st : List Value) : ((st.map (zv ad)).map fun v => v.category) = st.map fun v => v.category := by
  rw [List.map_map]
  exact List.map_congr_left fun v _ => zv_cat ad v
def zc (dA : Nat → ClassId) (ad : Nat → Nat) (x : zE) : va_E := match x with
  | .inl (k, n, .inr (.inr (.inr (.inr f)))) => .inl (dA k, n, .inr (.inr (.inr (.inr fun j => (f j).map ad))))
  | .inl (k, a) => .inl (dA k, a)
  | .inr (c, fs) => .inr (c, fs.map (zv ad))
def zw (dA : Nat → ClassId) (ad : Nat → Nat) (h : zH) : va_W := h.mapIdx fun i x => (ad i, zc dA ad x)
theorem zw_get {dA : Nat → ClassId} {ad : Nat → Nat} {h : zH} {i : Nat} {x : zE} (e : h[i]? = some x) : (zw dA ad h)[i]? = some (ad i, zc dA ad x) := by
  unfold zw
  rw [List.getElem?_mapIdx, e]
  rfl
theorem zw_set {dA : Nat → ClassId} {ad : Nat → Nat} {h : zH} {i : Nat} {x : zE} : zw dA ad (h.set i x) = (zw dA ad h).set i (ad i, zc dA ad x) := by
  refine List.ext_getElem? fun j => ?_
  unfold zw
  rw [List.getElem?_mapIdx, List.getElem?_set, List.getElem?_set, List.length_mapIdx, List.getElem?_mapIdx]
  by_cases hij : i = j
  · subst hij
    by_cases hl : i < h.length <;> simp [hl]
  · simp [hij]
theorem zw_push {dA : Nat → ClassId} {ad : Nat → Nat} {h : zH} {x : zE} : zw dA ad (h ++ [x]) = zw dA ad h ++ [(ad h.length, zc dA ad x)] := by
  unfold zw
  rw [List.mapIdx_append]
  simp
theorem zw_all {dA : Nat → ClassId} {ad : Nat → Nat} {h : zH} : (List.range h.length).map (fun i => (zw dA ad h)[i]?) = (zw dA ad h).map some := by
  refine List.ext_getElem? fun j => ?_
  have hl : (zw dA ad h).length = h.length := List.length_mapIdx
  rw [List.getElem?_map, List.getElem?_map]
  by_cases hj : j < h.length
  · rw [List.getElem?_range hj, List.getElem?_eq_getElem (by rw [hl]; exact hj)]
    simp [hl, hj]
  · rw [List.getElem?_eq_none (by simpa using hj), List.getElem?_eq_none (by rw [hl]; omega)]
    rfl
def zl (ad : Nat → Nat) (lv : List (Nat × Value)) : List (Nat × Value) := lv.map fun q => (q.1, zv ad q.2)
theorem zl_get {ad : Nat → Nat} {lv : List (Nat × Value)} {k i : Nat} {v : Value} (e : lv[k]? = some (i, v)) : (zl ad lv)[k]? = some (i, zv ad v) := by
  unfold zl
  rw [List.getElem?_map, e]
  rfl
theorem zl_f1 {ad : Nat → Nat} {lv lv' : List (Nat × Value)} {i : Nat} {v : Value} (e : (i, v) :: lv.filter (fun q => !(q.1 == i) && !(q.1 + 1 == i && q.2.category == 2)) = lv') : (i, zv ad v) :: (zl ad lv).filter (fun q => !(q.1 == i) && !(q.1 + 1 == i && q.2.category == 2)) = zl ad lv' := by
  subst e
  unfold zl
  rw [List.map_cons, List.filter_map]
  refine congrArg _ (congrArg _ (List.filter_congr fun q _ => ?_))
  simp only [Function.comp, zv_cat]
theorem zl_f2 {ad : Nat → Nat} {lv lv' : List (Nat × Value)} {i : Nat} {v : Value} (e : (i, v) :: lv.filter (fun q => !(q.1 == i) && (!(q.1 == i + 1) && !(q.1 + 1 == i && q.2.category == 2))) = lv') : (i, zv ad v) :: (zl ad lv).filter (fun q => !(q.1 == i) && (!(q.1 == i + 1) && !(q.1 + 1 == i && q.2.category == 2))) = zl ad lv' := by
  subst e
  unfold zl
  rw [List.map_cons, List.filter_map]
  refine congrArg _ (congrArg _ (List.filter_congr fun q _ => ?_))
  simp only [Function.comp, zv_cat]
theorem zl_args (ad : Nat → Nat) : ∀ (vs : List Value) (i : Nat), lv_args i (vs.map (zv ad)) = zl ad (lv_args i vs)
  | [], _ => rfl
  | v :: vs, i => by
    show (i, zv ad v) :: lv_args (if (zv ad v).category = 2 then i + 2 else i + 1) (vs.map (zv ad)) = _
    rw [zv_cat, zl_args ad vs]
    rfl
theorem zl_slen (ad : Nat → Nat) (vs : List Value) : (lg_sl (vs.map (zv ad))).length = (lg_sl vs).length := by
  unfold lg_sl
  rw [List.length_flatMap, List.length_flatMap, List.map_map]
  refine congrArg _ (List.map_congr_left fun v _ => ?_)
  simp only [Function.comp, zv_cat]
  split <;> rfl
def zTys (dA : Nat → ClassId) : List (ClassId × FieldType) := [(dA 0, .int), (dA 1, .int), (dA 2, .float), (dA 3, .object "MirrorLoom$Loom")]
def zNF : List (String × Nat × String × String × String) := [("MirrorLoom$Loom", 90, "MirrorLoom$Lots", "count", "I"), ("MirrorLoom", 319, "MirrorLoom$Lots", "count", "I"), ("MirrorLoom$Loom", 190, "MirrorLoom$Lots", "colors", "LMirrorLoom$Numbers;"), ("MirrorLoom$Loom", 193, "MirrorLoom$Lots", "lengths", "LMirrorLoom$Numbers;"), ("MirrorLoom$Loom", 196, "MirrorLoom$Lots", "left", "LMirrorLoom$Numbers;"), ("MirrorLoom$Loom", 199, "MirrorLoom$Lots", "shadeBits", "LMirrorLoom$Numbers;"), ("MirrorLoom", 196, "MirrorLoom$Loom", "columns", "I"), ("MirrorLoom", 313, "MirrorLoom$Loom", "rows", "I"), ("MirrorLoom", 316, "MirrorLoom$Loom", "wovenRows", "I"), ("MirrorLoom", 323, "MirrorLoom$Loom", "limit", "I"), ("MirrorLoom", 192, "MirrorLoom$Loom", "cartoon", "LMirrorLoom$Grid;"), ("MirrorLoom", 65, "MirrorLoom$Loom", "lots", "LMirrorLoom$Lots;"), ("MirrorLoom", 226, "MirrorLoom$History", "count", "I"), ("MirrorLoom", 149, "MirrorLoom$CommandText", "length", "I")]
def zNM : List (String × Nat × MethodName) := [("MirrorLoom$Loom", 27, ⟨"MirrorLoom$Grid", "<init>", "()V"⟩), ("MirrorLoom$Loom", 52, ⟨"MirrorLoom$Lots", "<init>", "()V"⟩), ("MirrorLoom", 25, ⟨"MirrorLoom$CommandText", "<init>", "()V"⟩), ("MirrorLoom$Loom", 73, ⟨"MirrorLoom", "isFrom", "(III)Z"⟩), ("MirrorLoom$Loom", 81, ⟨"MirrorLoom", "isColor", "(I)Z"⟩), ("MirrorLoom$Shades", 11, ⟨"MirrorLoom", "isFrom", "(III)Z"⟩)]
abbrev zL (G : zT) : Launch := G.1
abbrev zD (G : zT) : va_G := G.2.1
abbrev zA (G : zT) : Nat → ClassId := G.2.2.1
abbrev zAd (G : zT) : Nat → Nat := G.2.2.2.1
abbrev zAl (G : zT) : Bool := G.2.2.2.2
abbrev zWd (G : zT) (h : zH) : va_W := zw (zA G) (zAd G) h
abbrev zHh : Type := List (Nat × Nat × Nat × Nat)
/-- a method: own class, name, code, locals, result, depth, its table of handlers -/
abbrev zN : Type := String × MethodName × ByteArray × Nat × Option FieldType × Nat × zHh
abbrev mO (M : zN) : String := M.1
abbrev mY (M : zN) : MethodName := M.2.1
abbrev mC (M : zN) : ByteArray := M.2.2.1
abbrev mN (M : zN) : Nat := M.2.2.2.1
abbrev mR (M : zN) : Option FieldType := M.2.2.2.2.1
abbrev mD (M : zN) : Nat := M.2.2.2.2.2.1
abbrev mH (M : zN) : zHh := M.2.2.2.2.2.2
/-- words of the exceptions that the tables decide, though they are no good ones -/
def zDc : List MethodName := [⟨"java/lang/RuntimeException", "<init>", "(Ljava/lang/String;)V"⟩, ⟨"java/lang/Exception", "<init>", "(Ljava/lang/String;)V"⟩, ⟨"java/lang/Throwable", "<init>", "(Ljava/lang/String;)V"⟩]
def zCs : List String := ["java/lang/IndexOutOfBoundsException", "java/lang/IllegalArgumentException", "java/lang/IllegalStateException"]
/-- pairs of exceptions: the first isn't of the second's kind -/
def zNp : List (String × String) := [("java/lang/IllegalArgumentException", "java/lang/IndexOutOfBoundsException"), ("java/lang/IllegalStateException", "java/lang/IllegalArgumentException"), ("java/lang/IllegalStateException", "java/lang/IndexOutOfBoundsException")]
def zDw (U : State) : Prop := (∀ y ∈ zDc, va_Nw (.declares y) U) ∧ (∀ x ∈ zCs, va_Nw (.castable x x) U) ∧ (∀ q ∈ zNp, va_Nc q.1 q.2 U) ∧ va_AO "MirrorLoom$Loom" U
theorem zDw.warm {s U : State} (hW : s.WarmedH U.vm) (h : zDw s) : zDw U := ⟨fun y hy => va_Nw.warmD hW (h.1 y hy), fun x hx => va_Nw.warmC hW (h.2.1 x hx), fun q hq => (h.2.2.1 q hq).moved hW.alike, h.2.2.2.moved hW.alike⟩
theorem zDw.same {u U : State} (hv : U.vm = u.vm) (h : zDw u) : zDw U := ⟨fun y hy => va_Nw.same rfl hv.symm (h.1 y hy), fun x hx => va_Nw.same rfl hv.symm (h.2.1 x hx), fun q hq => (h.2.2.1 q hq).moved (by rw [hv]; exact Vm.Alike.refl _), h.2.2.2.moved (by rw [hv]; exact Vm.Alike.refl _)⟩
/-- what the tables say, of any time -/
def zKs (G : zT) (U : State) : Prop := va_K (zD G) vwCl (zTys (zA G)) U ∧ (∀ q ∈ zNF, va_Nw (.fieldLinkNest q.1 q.2.1 q.2.2.1 q.2.2.2.1 q.2.2.2.2 "MirrorLoom") U) ∧ (∀ q ∈ zNM, va_Nw (.methodLinkNest q.1 q.2.1 q.2.2 "MirrorLoom") U) ∧ vk_R "MirrorLoom" 257 "there is no such place" (zAd G 1020) U ∧ vk_R "MirrorLoom" 264 "an argument is out of range" (zAd G 1021) U ∧ vk_R "MirrorLoom" 269 "this cannot be done now" (zAd G 1022) U ∧ True ∧ ((zL G).stackTraces = false ∧ zDw U) ∧ (∀ n : Nat, n < 999 → zAd G (n + 1) = zAd G n + 1)
theorem zKs.warm {G : zT} {s U : State} (hW : s.WarmedH U.vm) (h : zKs G s) : zKs G U :=
  ⟨va_K.moved hW.alike h.1, fun q hq => va_Nw.warmF hW (h.2.1 q hq), fun q hq => va_Nw.warmM hW (h.2.2.1 q hq), vk_R.warm hW h.2.2.2.1, vk_R.warm hW h.2.2.2.2.1, vk_R.warm hW h.2.2.2.2.2.1, h.2.2.2.2.2.2.1, ⟨h.2.2.2.2.2.2.2.1.1, h.2.2.2.2.2.2.2.1.2.warm hW⟩, h.2.2.2.2.2.2.2.2⟩
theorem zKs.same {G : zT} {u U : State} (hv : U.vm = u.vm) (h : zKs G u) : zKs G U :=
  ⟨va_K.moved (by rw [hv]; exact Vm.Alike.refl _) h.1, fun q hq => va_Nw.same rfl hv.symm (h.2.1 q hq), fun q hq => va_Nw.same rfl hv.symm (h.2.2.1 q hq), vk_R.same hv h.2.2.2.1, vk_R.same hv h.2.2.2.2.1, vk_R.same hv h.2.2.2.2.2.1, h.2.2.2.2.2.2.1, ⟨h.2.2.2.2.2.2.2.1.1, h.2.2.2.2.2.2.2.1.2.same hv⟩, h.2.2.2.2.2.2.2.2⟩
/-- the law's script: at the place 1009, as long as 1999 says, its ints behind 2000 -/
def zScr (ad : Nat → Nat) (A : Nat → Prop) (U : State) (H : Heap) : Prop := va_X (ad 1009) (ad 1999) (fun j => nI (ad (2000 + j))) U H ∧ ¬ A (ad 1009)
theorem zScr.moved {ad : Nat → Nat} {A : Nat → Prop} {u U : State} {H : Heap} (hvm : u.vm.Alike U.vm) (h : zScr ad A u H) : zScr ad A U H := ⟨va_X.moved hvm h.1, h.2⟩
theorem zScr.lt {ad : Nat → Nat} {A : Nat → Prop} {U : State} {H : Heap} (h : zScr ad A U H) : ad 1009 < H.size := by
  obtain ⟨⟨scr, h1, -⟩, -⟩ := h
  exact (Array.getElem?_eq_some_iff.mp h1).1
theorem zScr.kept {ad : Nat → Nat} {A : Nat → Prop} {U : State} {H H1 : Heap} (h : zScr ad A U H) (hq : ∀ a : Nat, a < H.size → ¬ A a → H1[a]? = H[a]?) : zScr ad A U H1 := ⟨va_X.kept h.1 (hq _ h.lt h.2), h.2⟩
theorem zScr.narrow {ad : Nat → Nat} {A B : Nat → Prop} {U : State} {H : Heap} (h : zScr ad A U H) (hAB : ∀ q, B q → A q) : zScr ad B U H := ⟨h.1, fun z => h.2 (hAB _ z)⟩
/-- what lies in the heap and is never written: statics, a word, the script -/
def zKh (ad : Nat → Nat) (A : Nat → Prop) (U : State) (H : Heap) : Prop :=
  vx_Zq Bundle.tN "UNASSIGNED_STACK" Bundle.steD A U H ∧ vx_Zq Bundle.tN "SUPPRESSED_SENTINEL" Bundle.listD A U H ∧
  va_Z "MirrorLoom$Word" "CLOTH" "LMirrorLoom$Word;" (.ref (ad 1000)) A U H ∧ True ∧ True ∧ True ∧ True ∧ True ∧ zScr ad A U H
theorem zKh.moved {ad : Nat → Nat} {A : Nat → Prop} {u U : State} {H : Heap} (hvm : u.vm.Alike U.vm) (h : zKh ad A u H) : zKh ad A U H := by
  obtain ⟨h1, h2, h3, h4, h5, h6, h7, h8, h9⟩ := h
  exact ⟨h1.moved hvm, h2.moved hvm, h3.moved hvm, h4, h5, h6, h7, h8, h9.moved hvm⟩
theorem zKh.kept {ad : Nat → Nat} {A : Nat → Prop} {U : State} {H H1 : Heap} (h : zKh ad A U H) (hq : ∀ a : Nat, a < H.size → ¬ A a → H1[a]? = H[a]?) : zKh ad A U H1 := by
  obtain ⟨h1, h2, h3, h4, h5, h6, h7, h8, h9⟩ := h
  exact ⟨h1.kept hq, h2.kept hq, h3.kept hq, h4, h5, h6, h7, h8, h9.kept hq⟩
theorem zKh.narrow {ad : Nat → Nat} {A B : Nat → Prop} {U : State} {H : Heap} (h : zKh ad A U H) (hAB : ∀ q, B q → A q) : zKh ad B U H := by
  obtain ⟨h1, h2, h3, h4, h5, h6, h7, h8, h9⟩ := h
  exact ⟨h1.narrow hAB, h2.narrow hAB, h3.narrow hAB, h4, h5, h6, h7, h8, h9.narrow hAB⟩
/-- the fixed part of a walk -/
def zCx (G : zT) (M : zN) (p : Program) (s : State) (m : MethodId) (args : Array Value) (meth : Method) (c : Code) (A : Nat → Prop) : Prop :=
  p.tables.exec = Jvm.exec ∧ c.code = mC M ∧ c.maxLocals = mN M ∧ meth.sig.returnType = mR M ∧ meth.locks = false ∧ s.vm.findClass (mO M) = some m.cls ∧ (∀ w ∈ zG, w.before args s = true) ∧ zKs G s ∧ zKh (zAd G) A s s.heap ∧ (∀ q : Nat, s.heap.size ≤ q → A q) ∧ meth.name = (mY M).name ∧ c.exceptionTable.toList.map (fun h => (h.startPc, h.endPc, h.handlerPc, h.catchType)) = mH M
/-- the moving part -/
def zNw (G : zT) (A : Nat → Prop) (h : zH) (s : State) (H : Heap) (locs : List Loc) (cells : Nat) : Prop :=
  va_P (zD G) vwCl (zWd G h) H ∧ va_D A (zWd G h) ∧ va_S A s.heap H locs ∧ (zAl G = true → s.heap.size + cells = zAd G h.length)
def zBk (G : zT) (h : zH) (A : Nat → Prop) (t : State) : Prop := va_P (zD G) vwCl (zWd G h) t.heap ∧ va_D A (zWd G h)
abbrev zO : Type := String ⊕ Option Value
def zQ (G : zT) (o : zO) (h : zH) (A : Nat → Prop) : Array Value → State → Outcome → State → Prop := fun _ st oc t => (∃ v, o = .inr v ∧ oc = .returned (v.map (zv (zAd G))) ∧ zBk G h A t) ∧ va_F A st t
def zX (G : zT) (o : zO) (h : zH) (A : Nat → Prop) : String → State → State → Prop := fun E st t => (o = .inl E ∧ zBk G h A t) ∧ va_F A st t
def zR (M : zN) (mc ms : Nat) : Room := { frames := mD M, cells := mc, slots := ms, locals := 35 * mD M + mD M / 13 * 33 }
def zPW (G : zT) (M : zN) (mc ms : Nat) (o : zO) (h' : zH) (cells slots : Nat) (pc : Nat) (lv : List (Nat × Value)) (st : List Value) (h : zH) : Prop :=
  ∀ (p : Program) (e : Env) (s : State) (m : MethodId) (args : Array Value) (below : List Frame) (meth : Method) (c : Code) (A : Nat → Prop) (H : Heap) (locs : List Loc) (ls : Array Slot),
    zCx G M p s m args meth c A → zNw G A h s H locs cells → lv_has ls (mN M) (zl (zAd G) lv) →
    W p (zL G) e (zR M mc ms) s m args below meth c H locs cells slots (vx_MQ below (zQ G o h' A) (zX G o h' A) args s mc ms A) (F0 m pc ls (st.map (zv (zAd G))))
def zWs (M : zN) : List Cond := (if mH M = [] then Cond.code (mY M) (mC M) (mN M) (mR M) else Cond.codeWith (mY M) (mC M) (mN M) (mR M) (mH M)) :: zG
def zPre (G : zT) (h : zH) (sz : Nat) (U : State) : Prop := U.heap.size = sz ∧ zKs G U ∧ zKh (zAd G) (va_A (zWd G h) sz) U U.heap ∧ va_P (zD G) vwCl (zWd G h) U.heap ∧ va_D (fun _ => True) (zWd G h) ∧ (zAl G = true → sz = zAd G h.length)
/-- method M at the arguments av over h ends with o over h' -/
def zRun (G : zT) (M : zN) (mc ms : Nat) (av : List Value) (h : zH) (o : zO) (h' : zH) : Prop :=
  ∀ sz : Nat, vx_Met (zL G) (mY M) (zWs M) (zR M mc ms) (va_Pc (av.map (zv (zAd G))) (zPre G h sz)) (zQ G o h' (va_A (zWd G h) sz)) (zX G o h' (va_A (zWd G h) sz)) mc ms (va_A (zWd G h) sz)
theorem zTab {c : Code} (h : ∀ x ∈ c.exceptionTable.toList, False) : c.exceptionTable.toList.map (fun h => (h.startPc, h.endPc, h.handlerPc, h.catchType)) = [] := by
  cases hl : c.exceptionTable.toList with
  | nil => rfl
  | cons a l => exact absurd (h a (by rw [hl]; exact List.mem_cons_self)) (fun z => z)
/-- a run out of a walk -/
theorem zRun_of {G : zT} {M : zN} {mc ms : Nat} {av : List Value} {h h' : zH} {o : zO} (hy : plainName (mY M).cls = true) (hO : (mY M).cls = mO M) (hh : mH M = []) (hn : (lg_sl av).length ≤ mN M)
    (k : zPW G M mc ms o h' 0 0 0 (lv_args 0 av) [] h) : zRun G M mc ms av h o h' := by
  intro sz
  refine vx_ofW (cc := mC M) (maxL := mN M) (ret := mR M) (ws' := zG) hy (by unfold zWs; rw [if_pos hh]) ?_
  intro p e s m args below meth c s₁ B hml ht hv
  obtain ⟨rfl, hsz, hK, hKh, hP, hD0, hal⟩ := hv
  subst hsz
  have hts := atoms_spec (ws := zWs M) B.pre
  have hS : va_S (va_A (zWd G h) s.heap.size) s.heap s.heap [] := va_S.rf
  have hl := lv_entry (av.map (zv (zAd G))) (n := mN M) (by rw [zl_slen]; exact hn)
  rw [zl_args] at hl
  rw [lg_entry_eq]
  exact k p e s m _ below meth c _ s.heap [] _ ⟨B.exec, B.bytes, hml, B.returns, B.notSynchronized, by rw [← hO]; exact findClass_of_methodNamed B.named, fun w hw => hts w (List.mem_cons_of_mem _ hw), hK, hKh, fun q hq => Or.inr hq, (name_of_methodNamed B.named B.method).1, by rw [hh]; exact zTab ht⟩ ⟨hP, hD0.self, hS, fun z => hal z⟩ hl
theorem zMet_imp {l : Launch} {y : MethodName} {S : Spec} {P : Array Value → State → Prop} {K : Program → Env → List Frame → State → Array Value → Prop} {Q Q' : Array Value → State → Outcome → State → Prop} (h : MetFree l y S P K Q) (hQ : ∀ a s o t, Q a s o t → Q' a s o t) : MetFree l y S P K Q' := by
  intro p e h1 h2 h3 s m args below h4 h5 h6 h7
  obtain ⟨n, o, a1, a2, a3, a4⟩ := h p e h1 h2 h3 s m args below h4 h5 h6 h7
  exact ⟨n, o, a1, a2, a3, hQ _ _ _ _ a4⟩
/-- one that returns is a contract of the plain kind -/
theorem zRun.met {G : zT} {M : zN} {mc ms : Nat} {av : List Value} {h h' : zH} {v : Option Value} (r : zRun G M mc ms av h (.inr v) h') (sz : Nat) : Met (zL G) (mY M) (zWs M) (zR M mc ms) (va_Pc (av.map (zv (zAd G))) (zPre G h sz)) (zQ G (.inr v) h' (va_A (zWd G h) sz)) mc ms (va_A (zWd G h) sz) :=
  zMet_imp (r sz) fun a s o t q => by
    rcases q with q | ⟨z, -, E, ce, L, ⟨⟨e, -⟩, -⟩, -⟩
    · exact q
    · cases e
