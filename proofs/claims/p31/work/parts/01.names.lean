/-! ===== BEGIN words of one list among another's, by their places ===== -/
theorem goodIn_r {big : List Cond} (ws : List Cond) (ps : List Nat) (hp : ws = ps.filterMap (fun i => big[i]?)) (h : ws.all goodWord = true) : GoodIn big ws := by
  intro w hw
  have h1 := List.all_eq_true.mp h w hw
  rw [hp] at hw
  obtain ⟨i, -, hi⟩ := List.mem_filterMap.mp hw
  have hm : w ∈ big := by first | exact List.mem_of_getElem? hi | exact List.getElem?_mem hi
  exact ⟨hm, good_of_word h1⟩
theorem goodIn_app {big a b : List Cond} (ha : GoodIn big a) (hb : GoodIn big b) : GoodIn big (a ++ b) := fun w h => (List.mem_append.mp h).elim (ha w) (hb w)
theorem goodIn_ca {big a b : List Cond} {c : Cond} (ha : GoodIn big (c :: a)) (hb : GoodIn big b) : GoodIn big (c :: (a ++ b)) := fun w h => (List.mem_cons.mp h).elim (fun e => ha w (List.mem_cons.mpr (Or.inl e))) (fun h => (List.mem_append.mp h).elim (fun h => ha w (List.mem_cons.mpr (Or.inr h))) (hb w))
theorem goodIn_sub {big ws : List Cond} (hm : ∀ w ∈ ws, w ∈ big) (h : ws.all goodWord = true) : GoodIn big ws := fun w hw => ⟨hm w hw, good_of_word (List.all_eq_true.mp h w hw)⟩
/-! ===== END ===== -/

/-! ===== BEGIN exceptions that leave a method, and their catching by the caller (launches without stack traces) ===== -/
section VXA
/-! The laws vx_back, vx_callV, vx_callS, vx_callSW, vx_throw0, vx_throwS follow proofs of the library, with one case more: JvmDerived/Free/Laws.lean (Back.of_free), Shelf42/LK1.lean (callV, callS), Shelf/KitTraced.lean (throwNew0V, throwNewS). -/
/-- where a method has thrown q: the class by its name, the cell, what was written, the world -/
def vx_T (XC : String → State → State → Prop) (st : State) (q : Addr) (t : State) (mc ms : Nat) (free : Addr → Prop) : Prop :=
  ∃ (E : String) (ce : Cell) (L : List Loc), XC E st t ∧ t.heap[q]? = some ce ∧ ce.vm = .none ∧ st.vm.findClass E = some ce.cls ∧ st.WarmedH t.vm ∧ st.sameButNew ({ t with vm := st.vm } : State) L mc ms ∧ ∀ z ∈ L, free z.base
def vx_Q (Qc : Array Value → State → Outcome → State → Prop) (XC : String → State → State → Prop) (mc ms : Nat) (free : Addr → Prop) : Array Value → State → Outcome → State → Prop := fun a st o t =>
  (Qc a st o t ∧ ∃ L, FrameEnd st o t L mc ms ∧ ∀ q ∈ L, free q.base) ∨ ∃ q, o = .threw q ∧ vx_T XC st q t mc ms free
/-- a callee that returns or throws -/
def vx_Met (l : Launch) (y : MethodName) (ws : List Cond) (rm : Room) (Pc : Array Value → State → Prop) (Qc : Array Value → State → Outcome → State → Prop) (XC : String → State → State → Prop) (mc ms : Nat) (free : Addr → Prop) : Prop :=
  MetFree l y (headSpec ws rm) Pc (fun _ _ _ _ _ => True) (vx_Q Qc XC mc ms free)
def vx_Post (XC : String → State → State → Prop) (mc ms : Nat) (free : Addr → Prop) : Pt → Array Value → Addr → Pt → Prop := fun A a q B =>
  ∃ (g : JFrame) (mk : MethodId) (t : State) (L : List Loc) (E : String) (ce : Cell), B.U.heap = t.heap ∧ B.U.vm = t.vm ∧ XC E (A.U.calling g mk a) t ∧ t.heap[q]? = some ce ∧ ce.vm = .none ∧ A.U.vm.findClass E = some ce.cls ∧ B.locs = A.locs ++ L ∧ (∀ z ∈ L, free z.base) ∧ B.cells = A.cells + mc ∧ B.slots = A.slots + ms
def vx_Back (l : Launch) (R : Room) (p : Program) (e : Env) (below : List Frame) (s : State) (sargs : Array Value) (y : MethodName) (len W9 : Nat)
    (Pre : Pt → Array Value → Prop) (Post : Pt → Array Value → Option Value → Pt → Prop) (PostX : Pt → Array Value → Addr → Pt → Prop) : Prop :=
  ∀ (m : MethodId) (meth : Method) (c : Code) (A : Pt) (g : JFrame) (ig : Instr) (mk : MethodId) (a : Array Value),
    Stand p l e R s m sargs below meth c A.U A.locs A.cells A.slots → g.method = m → g.locals.size = c.maxLocals → decode c.code g.pc = .ok (ig, len) →
    2 * g.monitorRoom + (g.stack.map fun v => v.category).sum ≤ W9 → A.U.methodNamed? y = some mk → Pre A a →
    (∃ (v : Option Value) (B : Pt), Stand p l e R s m sargs below meth c B.U B.locs B.cells B.slots ∧ Post A a v B ∧
      Steps p.tables e below (doInvoke e (A.U.setTop g) [] mk a).1 (B.U.setTop { g with pc := g.pc + len, stack := v.toList ++ g.stack })) ∨
    (∃ (q : Addr) (B : Pt), Stand p l e R s m sargs below meth c B.U B.locs B.cells B.slots ∧ PostX A a q B ∧
      Steps p.tables e below (doInvoke e (A.U.setTop g) [] mk a).1 ((B.U.setTop g).pushFrame (.throwing q)))
section Payer
variable {l : Launch} {R : Room} {p : Program} {e : Env} {below : List Frame} {s : State} {sargs : Array Value} {y : MethodName} {len W9 : Nat}
theorem vx_back {ws : List Cond} {rm : Room} {Pc : Array Value → State → Prop} {Qc : Array Value → State → Outcome → State → Prop} {XC : String → State → State → Prop} {mc ms : Nat} {free : Addr → Prop} {bytes : ByteArray} {maxL : Nat} {ret : Option FieldType}
    (hM : vx_Met l y ws rm Pc Qc XC mc ms free) (hblind : FrameBlind Pc) (hrc : rm.cells = mc) (hrs : rm.slots = ms)
    (hframes : rm.frames + 1 ≤ R.frames) (hlocals : W9 + (maxL + 11) + rm.locals ≤ R.locals)
    (hws : ∀ w ∈ ws, ∀ a' U, s.WarmedH U.vm → w.before a' U = true) (hcode : Cond.code y bytes maxL ret ∈ ws) (hinit : ∀ a' U, s.WarmedH U.vm → (Cond.initialized y.cls).before a' U = true) :
    vx_Back l R p e below s sargs y len W9 (PreOf R mc ms Pc) (PostOf Qc mc ms free) (vx_Post XC mc ms free) := by
  intro m meth c A g ig mk a X hg hsize hdg hW hn hp
  have h1 : (headSpec ws rm).pre.before a A.U = true := atoms_intro fun w hw => hws w hw _ _ X.warmed
  have h2 : (Cond.code y bytes maxL ret).before a A.U = true := hws _ hcode _ _ X.warmed
  have h3 : (Cond.initialized y.cls).before a A.U = true := hinit _ _ X.warmed
  have h4 : A.cells + (headSpec ws rm).room.cells ≤ R.cells := by rw [show (headSpec ws rm).room.cells = mc from hrc]; exact hp.1
  have h5 : A.slots + (headSpec ws rm).room.slots ≤ R.slots := by rw [show (headSpec ws rm).room.slots = ms from hrs]; exact hp.2.1
  have hPc : Pc a (A.U.calling g mk a) := hblind _ _ _ _ hp.2.2
  obtain ⟨U, Ls, c0, s0⟩ := A
  dsimp only [Pt.U, Pt.locs, Pt.cells, Pt.slots] at h1 h2 h3 h4 h5 X hn hPc ⊢
  obtain ⟨methY, cY, hmY, hcY, -, hlY, -, -, -, -⟩ := Cond.code_spec hn h2
  obtain ⟨kY, hkY, -⟩ := className_of_methodNamed hn
  have hinitY : kY.init = .initialized := Cond.initialized_spec (findClass_of_methodNamed hn) hkY h3
  have h : At U g.method c below := by rw [hg]; exact X.here
  have hlocals9 : W9 + (maxL + 11) + (headSpec ws rm).room.locals ≤ R.locals := hlocals
  have happ : (headSpec ws rm).appliesLoose y e.platform (U.calling g mk a) = true :=
    Spec.appliesLoose_calling (g := g) h hdg hn hkY hinitY
      (X.room_calling (g := g) (R' := (headSpec ws rm).room) hsize hmY hcY hframes (by rw [hlY]; omega) h4 h5) h1
  obtain ⟨mid, hmid⟩ := h.above
  have hfr : (U.setTop g).frames = (.java g :: mid) ++ below := by rw [State.frames_setTop' g h.top, hmid]; rfl
  obtain ⟨o, s₂, hsteps, -, hend, hq⟩ := Steps.callFree hM p X.admits X.cas X.clock (acts := []) hfr happ hPc trivial
  have hq' : vx_Q Qc XC mc ms free a (U.calling g mk a) o s₂ := hq
  rw [State.frames_setTop' g h.top] at hend
  obtain ⟨g₀, hg0⟩ := Option.isSome_iff_exists.mp h.top
  obtain ⟨r, hr⟩ := State.topJava?_eq_some.mp hg0
  have hr' : (({ U with heap := s₂.heap, slotsUsed := s₂.slotsUsed } : State).setVm s₂.vm).frames = .java g₀ :: r := hr
  rcases hq' with ⟨hqc, L, hfe, hL⟩ | ⟨q, rfl, E, ce, L, hx, hce, hcv, hcl, hW₂, hsm, hL⟩
  · obtain ⟨⟨v, rfl⟩, hW₂, e2, q2, q3, q4, q5, q6⟩ := id hfe
    have e3 : s₂ = ({ (U.calling g mk a).setFrames s₂.frames with heap := s₂.heap, slotsUsed := s₂.slotsUsed } : State).setVm s₂.vm := by
      have : s₂ = ({ s₂ with vm := (U.calling g mk a).vm } : State).setVm s₂.vm := rfl
      rw [e2] at this
      exact this
    obtain ⟨c₂, i₂, len₂, hc₂, hd₂, hf₂⟩ := hend
    have hW' : U.WarmedH s₂.vm := hW₂
    have hcc : c₂ = c := by
      have h1 : s₂.code? g.method = U.code? g.method := by
        rw [State.code?_eq, State.code?_eq, hW'.alike.method?]
      exact Option.some.inj (hc₂.symm.trans (h1.trans h.code))
    subst hcc
    have hlen : len₂ = len := by rw [hdg] at hd₂; cases hd₂; rfl
    subst hlen
    have hs₂ : s₂ = (({ U with heap := s₂.heap, slotsUsed := s₂.slotsUsed } : State).setVm s₂.vm).setTop { g with pc := g.pc + len₂, stack := v.toList ++ g.stack } := by
      refine e3.trans ?_
      rw [hf₂, State.calling_eq h.top, State.setFrames_setFrames, State.setTop_of_frames _ hr', hr]
      rfl
    have hsame : U.sameButNew ({ U with heap := s₂.heap, slotsUsed := s₂.slotsUsed } : State) L mc ms := by
      refine ⟨?_, q2, q3, q4, q5, q6⟩
      obtain ⟨t, ht, -⟩ := State.frames_cons hr
      show ({ U with heap := s₂.heap, slotsUsed := s₂.slotsUsed } : State) = { U.setFrames U.frames with heap := s₂.heap, slotsUsed := s₂.slotsUsed }
      rw [State.setFrames_self ht]
    subst hg
    refine Or.inl ⟨v, ⟨(({ U with heap := s₂.heap, slotsUsed := s₂.slotsUsed } : State).setVm s₂.vm), Ls ++ L, c0 + mc, s0 + ms⟩,
      ⟨X.admits, X.cas, X.clock, X.frames, X.room, X.hears, X.method, X.code, (X.here.setHeapUsed s₂.heap s₂.slotsUsed).setVm hW'.alike, X.tail, State.WarmedH.trans X.warmed hW', X.limits, X.bytes, X.same.trans (hsame.setVm s.vm)⟩,
      ⟨g, mk, s₂, L, rfl, rfl, hqc, rfl, hL, rfl, rfl⟩, ?_⟩
    show Steps p.tables e below _ ((({ U with heap := s₂.heap, slotsUsed := s₂.slotsUsed } : State).setVm s₂.vm).setTop { g with pc := g.pc + len₂, stack := v.toList ++ g.stack })
    rw [← hs₂]
    exact hsteps
  · obtain ⟨e2, q2, q3, q4, q5, q6⟩ := id hsm
    have e3 : s₂ = ({ (U.calling g mk a).setFrames s₂.frames with heap := s₂.heap, slotsUsed := s₂.slotsUsed } : State).setVm s₂.vm := by
      have : s₂ = ({ s₂ with vm := (U.calling g mk a).vm } : State).setVm s₂.vm := rfl
      rw [e2] at this
      exact this
    have hf₂ : s₂.frames = .throwing q :: .java g :: U.frames.tail := hend
    have hW' : U.WarmedH s₂.vm := hW₂
    have hs₂ : s₂ = ((({ U with heap := s₂.heap, slotsUsed := s₂.slotsUsed } : State).setVm s₂.vm).setTop g).pushFrame (.throwing q) := by
      refine e3.trans ?_
      rw [hf₂, State.calling_eq h.top, State.setFrames_setFrames, State.pushFrame, State.frames_setTop _ hr', State.setTop_of_frames _ hr', State.setFrames_setFrames, hr]
      rfl
    have hsame : U.sameButNew ({ U with heap := s₂.heap, slotsUsed := s₂.slotsUsed } : State) L mc ms := by
      refine ⟨?_, q2, q3, q4, q5, q6⟩
      obtain ⟨t, ht, -⟩ := State.frames_cons hr
      show ({ U with heap := s₂.heap, slotsUsed := s₂.slotsUsed } : State) = { U.setFrames U.frames with heap := s₂.heap, slotsUsed := s₂.slotsUsed }
      rw [State.setFrames_self ht]
    subst hg
    refine Or.inr ⟨q, ⟨(({ U with heap := s₂.heap, slotsUsed := s₂.slotsUsed } : State).setVm s₂.vm), Ls ++ L, c0 + mc, s0 + ms⟩,
      ⟨X.admits, X.cas, X.clock, X.frames, X.room, X.hears, X.method, X.code, (X.here.setHeapUsed s₂.heap s₂.slotsUsed).setVm hW'.alike, X.tail, State.WarmedH.trans X.warmed hW', X.limits, X.bytes, X.same.trans (hsame.setVm s.vm)⟩,
      ⟨g, mk, s₂, L, E, ce, rfl, rfl, hx, hce, hcv, hcl, rfl, hL, rfl, rfl⟩, ?_⟩
    show Steps p.tables e below _ (((({ U with heap := s₂.heap, slotsUsed := s₂.slotsUsed } : State).setVm s₂.vm).setTop g).pushFrame (.throwing q))
    rw [← hs₂]
    exact hsteps
end Payer
section Calls
variable {p : Program} {l : Launch} {e : Env} {R : Room} {s : State} {m : MethodId} {args : Array Value} {below : List Frame} {meth : Method} {c : Code} {T : State} {locs : List Loc} {cells slots : Nat}
theorem vx_callV (X : Stand p l e R s m args below meth c T locs cells slots) (hexec : p.tables.exec = Jvm.exec) {own C : String} {index : Nat} {y : MethodName} {bytes : ByteArray} {maxL : Nat} {ret : Option FieldType}
    (hown : s.vm.findClass own = some m.cls) (hlink : (Cond.methodLink own index y).before args s = true) (hinst : (Cond.instanceMethod y).before args s = true) (hsel : (Cond.selects C y y).before args s = true)
    (hcode : (Cond.code y bytes maxL ret).before args s = true) (hy : y.cls ≠ "java/lang/invoke/MethodHandle" ∧ y.cls ≠ "java/lang/invoke/VarHandle")
    {W9 : Nat} {Pre : Pt → Array Value → Prop} {Post : Pt → Array Value → Option Value → Pt → Prop} {PostX : Pt → Array Value → Addr → Pt → Prop} (hK : vx_Back l R p e below s args y 3 W9 Pre Post PostX)
    {b : Addr} {cellB : Cell} (hcell : T.heap[b]? = some cellB) (hobj : cellB.vm.isStatics = false) (hcls : s.vm.findClass C = some cellB.cls)
    {g : JFrame} (hg : g.method = m) (hsize : g.locals.size = c.maxLocals) {argsL rest : List Value} (hlen : ∀ sig, parseMethodDescriptor y.desc = some sig → argsL.length = sig.parameters.length)
    (hstack : g.stack = argsL.reverse ++ .ref b :: rest) (hW : 2 * g.monitorRoom + (rest.map fun v => v.category).sum ≤ W9) (hdg : decode c.code g.pc = .ok (.invokevirtual index, 3))
    (hpre : ∀ vm₁, s.WarmedH vm₁ → Pre ⟨T.setVm vm₁, locs, cells, slots⟩ (Value.ref b :: argsL).toArray) :
    (∃ (v : Option Value) (vm₁ : Vm) (B : Pt), s.WarmedH vm₁ ∧ Stand p l e R s m args below meth c B.U B.locs B.cells B.slots ∧ Post ⟨T.setVm vm₁, locs, cells, slots⟩ (Value.ref b :: argsL).toArray v B ∧
      ∀ target, Steps p.tables e below (B.U.setTop { g with pc := g.pc + 3, stack := v.toList ++ rest }) target → Steps p.tables e below (T.setTop g) target) ∨
    (∃ (q : Addr) (vm₁ : Vm) (B : Pt), s.WarmedH vm₁ ∧ Stand p l e R s m args below meth c B.U B.locs B.cells B.slots ∧ PostX ⟨T.setVm vm₁, locs, cells, slots⟩ (Value.ref b :: argsL).toArray q B ∧
      Steps p.tables e below (T.setTop g) ((B.U.setTop { g with stack := rest }).pushFrame (.throwing q))) := by
  obtain ⟨mk, methM, hnamed, hmethM, hstM, habM⟩ := Cond.instanceMethod_spec hinst
  obtain ⟨methM', cM, hmethM', -, -, -, -, -, -, hsigM⟩ := Cond.code_spec hnamed hcode
  cases hmethM.symm.trans hmethM'
  obtain ⟨c2, r2, m2, q1, q2, q3, q4, kP, hkP, hkPi⟩ := Cond.selects_spec hsel
  cases hcls.symm.trans q1
  cases (State.methodFound?_of_named hnamed hy).symm.trans q2
  cases hnamed.symm.trans q3
  have hselP : selectMethod e.platform s.vm cellB.cls mk = .method mk := by rw [Launch.admits_selectMethod X.admits]; exact q4
  obtain ⟨vm₁, X₁, hstep₁⟩ := X.invokevirtual hexec hown hlink hnamed hmethM hstM hkP hkPi hy (a := b) (cell := cellB) hcell
    (fun z h => by rw [h] at hobj; cases hobj) hselP hmethM habM hkP hkPi (g := g) hg (argsL := argsL) (rest := rest) (hlen _ hsigM) hstack hdg
  rcases hK m meth c ⟨T.setVm vm₁, locs, cells, slots⟩ { g with stack := rest } (.invokevirtual index) mk (Value.ref b :: argsL).toArray X₁ hg hsize hdg hW (X₁.named hnamed) (hpre vm₁ X₁.warmed) with ⟨v, B, X', hpost, hsteps⟩ | ⟨q, B, X', hpost, hsteps⟩
  · exact Or.inl ⟨v, vm₁, B, X₁.warmed, X', hpost, fun target h => hstep₁ _ fun acts => by rw [doInvoke_state]; exact hsteps.trans h⟩
  · exact Or.inr ⟨q, vm₁, B, X₁.warmed, X', hpost, hstep₁ _ fun acts => by rw [doInvoke_state]; exact hsteps⟩
theorem vx_callS (X : Stand p l e R s m args below meth c T locs cells slots) (hexec : p.tables.exec = Jvm.exec) {own : String} {index : Nat} {y : MethodName} {bytes : ByteArray} {maxL : Nat} {ret : Option FieldType}
    (hown : s.vm.findClass own = some m.cls) (hlink : (Cond.methodLink own index y).before args s = true) (hstat : (Cond.static y).before args s = true) (hinit : (Cond.initialized y.cls).before args s = true)
    (hcode : (Cond.code y bytes maxL ret).before args s = true) (hy : y.cls ≠ "java/lang/invoke/MethodHandle" ∧ y.cls ≠ "java/lang/invoke/VarHandle")
    {W9 : Nat} {Pre : Pt → Array Value → Prop} {Post : Pt → Array Value → Option Value → Pt → Prop} {PostX : Pt → Array Value → Addr → Pt → Prop} (hK : vx_Back l R p e below s args y 3 W9 Pre Post PostX)
    {g : JFrame} (hg : g.method = m) (hsize : g.locals.size = c.maxLocals) {argsL rest : List Value} (hlen : ∀ sig, parseMethodDescriptor y.desc = some sig → argsL.length = sig.parameters.length)
    (hstack : g.stack = argsL.reverse ++ rest) (hW : 2 * g.monitorRoom + (rest.map fun v => v.category).sum ≤ W9) (hdg : decode c.code g.pc = .ok (.invokestatic index, 3))
    (hpre : ∀ vm₁, s.WarmedH vm₁ → Pre ⟨T.setVm vm₁, locs, cells, slots⟩ argsL.toArray) :
    (∃ (v : Option Value) (vm₁ : Vm) (B : Pt), s.WarmedH vm₁ ∧ Stand p l e R s m args below meth c B.U B.locs B.cells B.slots ∧ Post ⟨T.setVm vm₁, locs, cells, slots⟩ argsL.toArray v B ∧
      ∀ target, Steps p.tables e below (B.U.setTop { g with pc := g.pc + 3, stack := v.toList ++ rest }) target → Steps p.tables e below (T.setTop g) target) ∨
    (∃ (q : Addr) (vm₁ : Vm) (B : Pt), s.WarmedH vm₁ ∧ Stand p l e R s m args below meth c B.U B.locs B.cells B.slots ∧ PostX ⟨T.setVm vm₁, locs, cells, slots⟩ argsL.toArray q B ∧
      Steps p.tables e below (T.setTop g) ((B.U.setTop { g with stack := rest }).pushFrame (.throwing q))) := by
  obtain ⟨mk, hnamed⟩ := Cond.code_named hcode
  obtain ⟨methM, cM, hmethM, -, -, -, -, -, -, hsigM⟩ := Cond.code_spec hnamed hcode
  have hstatic : methM.isStatic = true := Cond.static_spec hnamed hmethM hstat
  obtain ⟨kP, hkP, -⟩ := className_of_methodNamed hnamed
  have hinitP : kP.init = .initialized := Cond.initialized_spec (findClass_of_methodNamed hnamed) hkP hinit
  obtain ⟨vm₁, X₁, hstep₁⟩ := X.invokestatic hexec hown hlink hnamed hmethM hstatic hkP hinitP hy (g := g) hg (argsL := argsL) (rest := rest) (hlen _ hsigM) hstack hdg
  rcases hK m meth c ⟨T.setVm vm₁, locs, cells, slots⟩ { g with stack := rest } (.invokestatic index) mk argsL.toArray X₁ hg hsize hdg hW (X₁.named hnamed) (hpre vm₁ X₁.warmed) with ⟨v, B, X', hpost, hsteps⟩ | ⟨q, B, X', hpost, hsteps⟩
  · exact Or.inl ⟨v, vm₁, B, X₁.warmed, X', hpost, fun target h => hstep₁ _ fun acts => by rw [doInvoke_state]; exact hsteps.trans h⟩
  · exact Or.inr ⟨q, vm₁, B, X₁.warmed, X', hpost, hstep₁ _ fun acts => by rw [doInvoke_state]; exact hsteps⟩
end Calls
theorem vx_cls {s : State} {T : State} {vm₁ : Vm} {E : String} {k : ClassId} (hW : s.WarmedH vm₁) (h : (T.setVm vm₁).vm.findClass E = some k) : s.vm.findClass E = some k := by
  have h1 : vm₁.findClass E = some k := h
  rw [hW.alike.findClass] at h1
  exact h1
/-- the method's frame g, with q thrown over it -/
def vx_W (p : Program) (l : Launch) (e : Env) (R : Room) (s : State) (m : MethodId) (args : Array Value) (below : List Frame) (meth : Method) (c : Code) (H : Heap) (locs : List Loc) (cells slots : Nat) (Q : State → Prop) (g : JFrame) (q : Addr) : Prop :=
  ∀ T : State, T.heap = H → Stand p l e R s m args below meth c T locs cells slots → ∃ t, Steps p.tables e below ((T.setTop g).pushFrame (.throwing q)) t ∧ Q t
def vx_Run (p : Program) (l : Launch) (e : Env) (R : Room) (s : State) (m : MethodId) (args : Array Value) (below : List Frame) (meth : Method) (c : Code) (H : Heap) (locs : List Loc) (cells slots mc ms : Nat) (g : JFrame) (rest : List Value) (Qa : State → Outcome → State → Prop) (XC : String → State → State → Prop) (free : Addr → Prop) : Prop :=
  ∀ T : State, T.heap = H → Stand p l e R s m args below meth c T locs cells slots →
    (∃ (v : Option Value) (st₀ t T' : State) (L : List Loc), st₀.heap = H ∧ Stand p l e R s m args below meth c T' (locs ++ L) (cells + mc) (slots + ms) ∧ (∀ q ∈ L, free q.base) ∧ T'.heap = t.heap ∧ T'.vm = t.vm ∧ Qa st₀ (.returned v) t ∧
      Goes p e below T g T' { g with pc := g.pc + 3, stack := v.toList ++ rest }) ∨
    (∃ (q : Addr) (st₀ t T' : State) (L : List Loc) (E : String) (ce : Cell), st₀.heap = H ∧ Stand p l e R s m args below meth c T' (locs ++ L) (cells + mc) (slots + ms) ∧ (∀ z ∈ L, free z.base) ∧ T'.heap = t.heap ∧ T'.vm = t.vm ∧ XC E st₀ t ∧ t.heap[q]? = some ce ∧ ce.vm = .none ∧ s.vm.findClass E = some ce.cls ∧
      Steps p.tables e below (T.setTop g) ((T'.setTop { g with stack := rest }).pushFrame (.throwing q)))
def vx_X {S : Type} (px : S → Prop) (B : String → S → State → Prop) (A : Nat → Prop) : String → State → State → Prop := fun E st t => ∃ u : S, px u ∧ B E u t ∧ va_F A st t
section Runs
variable {p : Program} {l : Launch} {e : Env} {R : Room} {s : State} {m : MethodId} {args : Array Value} {below : List Frame} {meth : Method} {c : Code} {H : Heap} {locs : List Loc} {cells slots : Nat}
variable {y : MethodName} {bytes cc : ByteArray} {maxL nL mc ms n index : Nat} {ret : Option FieldType} {ws : List Cond} {rm : Room} {Pc : Array Value → State → Prop} {Qc : Array Value → State → Outcome → State → Prop} {XC : String → State → State → Prop} {free : Addr → Prop} {Ts : List Cond} {own C : String} {b : Addr} {As rest : List Value} {g : JFrame}
theorem vx_callBack (cb : CallB R s args own index y bytes maxL ret ws rm mc ms n) (hM : vx_Met l y ws rm Pc Qc XC mc ms free) (hbl : FrameBlind Pc) : vx_Back l R p e below s args y 3 8 (PreOf R mc ms Pc) (PostOf Qc mc ms free) (vx_Post XC mc ms free) := by
  obtain ⟨hrc, hrs, hfr, hlo, hws, hcw, -, hini, -⟩ := cb
  exact vx_back (bytes := bytes) (maxL := maxL) (ret := ret) hM hbl hrc hrs hfr hlo hws hcw (fun a' U hW => word_at hW (Or.inl (by first | rfl | simp [Cond.onTables, Cond.keeps, Cond.steady])) hini)
theorem vx_runV (S : CallFix p m c cc nL s args Ts own) (hM : vx_Met l y ws rm Pc Qc XC mc ms free) (cw : CallW R s args own C index y bytes maxL ret ws rm mc ms n) (hp : PreV s H C b Pc As)
    (hg : g.method = m) (hn : As.length = n) (hsize : g.locals.size = nL) (hstack : g.stack = As.reverse ++ .ref b :: rest) (hW : 2 * g.monitorRoom + (rest.map fun v => v.category).sum ≤ 8) (hdg : decode cc g.pc = .ok (.invokevirtual index, 3)) (hf : cells + mc ≤ R.cells ∧ slots + ms ≤ R.slots) :
    vx_Run p l e R s m args below meth c H locs cells slots mc ms g rest (Qc (Value.ref b :: As).toArray) XC free := by
  have hK : vx_Back l R p e below s args y 3 8 (PreOf R mc ms Pc) (PostOf Qc mc ms free) (vx_Post XC mc ms free) := vx_callBack cw.1 hM hp.1
  obtain ⟨⟨-, -, -, -, -, -, hcode, -, hy, hlen, hl⟩, hin, hse⟩ := cw
  obtain ⟨hx, hb, hml, ho, -⟩ := S
  obtain ⟨-, ⟨cellB, hcB, hoB, hclB⟩, hPc⟩ := hp
  intro T hT X
  rcases vx_callV X hx (C := C) (bytes := bytes) (maxL := maxL) (ret := ret) ho hl hin hse hcode hy hK (by rw [hT]; exact hcB) hoB hclB hg (hsize.trans hml.symm) (argsL := As) (rest := rest) (fun sig h => hn.trans (hlen sig h)) hstack hW (by rw [hb]; exact hdg)
    (fun vm₁ hW₁ => ⟨hf.1, hf.2, hPc (T.setVm vm₁) hT hW₁⟩) with ⟨v, vm₁, ⟨U', l2, c2, s2⟩, hW₁, X', ⟨g', mk, t, L, e1, e2, hq, h1, hL, h2, h3⟩, st⟩ | ⟨q, vm₁, ⟨U', l2, c2, s2⟩, hW₁, X', ⟨g', mk, t, L, E, ce, e1, e2, hq, hce, hcv, hcl, h1, hL, h2, h3⟩, st⟩
  · dsimp only [Pt.U, Pt.locs, Pt.cells, Pt.slots] at X' e1 e2 h1 h2 h3 st
    subst h1; subst h2; subst h3
    exact Or.inl ⟨v, (T.setVm vm₁).calling g' mk (Value.ref b :: As).toArray, t, U', L, hT, X', hL, e1, e2, hq, st⟩
  · dsimp only [Pt.U, Pt.locs, Pt.cells, Pt.slots] at X' e1 e2 h1 h2 h3 st hcl
    subst h1; subst h2; subst h3
    exact Or.inr ⟨q, (T.setVm vm₁).calling g' mk (Value.ref b :: As).toArray, t, U', L, E, ce, hT, X', hL, e1, e2, hq, hce, hcv, vx_cls hW₁ hcl, st⟩
theorem vx_runS (S : CallFix p m c cc nL s args Ts own) (hM : vx_Met l y ws rm Pc Qc XC mc ms free) (cw : CallB R s args own index y bytes maxL ret ws rm mc ms n ∧ (Cond.static y).before args s = true) (hp : PreS s H Pc As)
    (hg : g.method = m) (hn : As.length = n) (hsize : g.locals.size = nL) (hstack : g.stack = As.reverse ++ rest) (hW : 2 * g.monitorRoom + (rest.map fun v => v.category).sum ≤ 8) (hdg : decode cc g.pc = .ok (.invokestatic index, 3)) (hf : cells + mc ≤ R.cells ∧ slots + ms ≤ R.slots) :
    vx_Run p l e R s m args below meth c H locs cells slots mc ms g rest (Qc As.toArray) XC free := by
  have hK : vx_Back l R p e below s args y 3 8 (PreOf R mc ms Pc) (PostOf Qc mc ms free) (vx_Post XC mc ms free) := vx_callBack cw.1 hM hp.1
  obtain ⟨⟨-, -, -, -, -, -, hcode, hini, hy, hlen, hl⟩, hstt⟩ := cw
  obtain ⟨hx, hb, hml, ho, -⟩ := S
  intro T hT X
  rcases vx_callS X hx (bytes := bytes) (maxL := maxL) (ret := ret) ho hl hstt hini hcode hy hK hg (hsize.trans hml.symm) (argsL := As) (rest := rest) (fun sig h => hn.trans (hlen sig h)) hstack hW (by rw [hb]; exact hdg)
    (fun vm₁ hW₁ => ⟨hf.1, hf.2, hp.2 (T.setVm vm₁) hT hW₁⟩) with ⟨v, vm₁, ⟨U', l2, c2, s2⟩, hW₁, X', ⟨g', mk, t, L, e1, e2, hq, h1, hL, h2, h3⟩, st⟩ | ⟨q, vm₁, ⟨U', l2, c2, s2⟩, hW₁, X', ⟨g', mk, t, L, E, ce, e1, e2, hq, hce, hcv, hcl, h1, hL, h2, h3⟩, st⟩
  · dsimp only [Pt.U, Pt.locs, Pt.cells, Pt.slots] at X' e1 e2 h1 h2 h3 st
    subst h1; subst h2; subst h3
    exact Or.inl ⟨v, (T.setVm vm₁).calling g' mk As.toArray, t, U', L, hT, X', hL, e1, e2, hq, st⟩
  · dsimp only [Pt.U, Pt.locs, Pt.cells, Pt.slots] at X' e1 e2 h1 h2 h3 st hcl
    subst h1; subst h2; subst h3
    exact Or.inr ⟨q, (T.setVm vm₁).calling g' mk As.toArray, t, U', L, E, ce, hT, X', hL, e1, e2, hq, hce, hcv, vx_cls hW₁ hcl, st⟩
end Runs
section Rows
variable {p : Program} {l : Launch} {e : Env} {R : Room} {s : State} {m : MethodId} {args : Array Value} {below : List Frame} {meth : Method} {c : Code} {H : Heap} {locs : List Loc} {cells slots : Nat} {Q : State → Prop}
variable {mc ms : Nat} {free : Addr → Prop} {A0 A1 : Nat → Prop} {H0 : Heap} {a : Array Value} {pc : Nat} {ls : Array Slot} {st0 rest : List Value}
theorem vx_keep {st₀ t T' : State} {L : List Loc} (h0 : st₀.heap = H) (e1 : T'.heap = t.heap) (hS : va_S A0 H0 H locs) (hA : ∀ q, q < H.size → A1 q → A0 q) (hf : ∀ q, free q → A0 q) (hL : ∀ q ∈ L, free q.base) (hF : va_F A1 st₀ t) :
    H.size ≤ T'.heap.size ∧ (∀ q : Nat, q < H.size → ¬ A1 q → T'.heap[q]? = H[q]?) ∧ va_S A0 H0 T'.heap (locs ++ L) := by
  obtain ⟨hz, hk⟩ := hF
  rw [h0] at hz hk
  exact ⟨by rw [e1]; exact hz, fun q h1 h2 => by rw [e1]; exact hk q h1 h2,
    ⟨Nat.le_trans hS.1 (by rw [e1]; exact hz), fun q h1 h2 => by rw [e1, hk q (Nat.lt_of_lt_of_le h1 hS.1) (fun z => h2 (hA q (Nat.lt_of_lt_of_le h1 hS.1) z))]; exact hS.2.1 q h1 h2, fun q hq => by
      rcases List.mem_append.mp hq with h | h
      · exact hS.2.2 q h
      · exact hf _ (hL q h)⟩⟩
theorem vx_calli {S SX : Type} {post : Int32 → S → Prop} {px : SX → Prop} {B : S → State → Prop} {BX : String → SX → State → Prop} {AX : Nat → Prop} (hr : vx_Run p l e R s m args below meth c H locs cells slots mc ms (F0 m pc ls st0) rest (va_Qi post B A1 a) (vx_X px BX AX) free) (hS : va_S A0 H0 H locs) (hA : ∀ q, q < H.size → A1 q → A0 q) (hf : ∀ q, free q → A0 q) (hAX : ∀ q, q < H.size → AX q → A0 q)
    (kx : ∀ (E : String) (ce : Cell) (q9 : Addr) (u : SX) (t : State) (H1 : Heap) (locs1 : List Loc), t.heap = H1 → s.vm.Alike t.vm → px u → BX E u t → H.size ≤ H1.size → (∀ q : Nat, q < H.size → ¬ AX q → H1[q]? = H[q]?) → va_S A0 H0 H1 locs1 → H1[q9]? = some ce → ce.vm = .none → s.vm.findClass E = some ce.cls → vx_W p l e R s m args below meth c H1 locs1 (cells + mc) (slots + ms) Q (F0 m pc ls rest) q9)
    (kk : ∀ (r : Int32) (u : S) (t : State) (H1 : Heap) (locs1 : List Loc), t.heap = H1 → s.vm.Alike t.vm → post r u → B u t → H.size ≤ H1.size → (∀ q : Nat, q < H.size → ¬ A1 q → H1[q]? = H[q]?) → va_S A0 H0 H1 locs1 → W p l e R s m args below meth c H1 locs1 (cells + mc) (slots + ms) Q (F0 m (pc + 3) ls (.int r :: rest))) : W p l e R s m args below meth c H locs cells slots Q (F0 m pc ls st0) := by
  intro T hT X
  rcases hr T hT X with ⟨v, st₀, t, T', L, h0, X', hL, e1, e2, ⟨⟨r, u, hv, hp, hb⟩, hF⟩, st⟩ | ⟨q, st₀, t, T', L, E, ce, h0, X', hL, e1, e2, ⟨u, hp, hb, hF⟩, hce, hcv, hcl, st⟩
  · cases hv
    obtain ⟨k1, k2, k3⟩ := vx_keep h0 e1 hS hA hf hL hF
    obtain ⟨t2, a1, b1⟩ := kk r u t T'.heap (locs ++ L) e1.symm (by rw [← e2]; exact X'.warmed.alike) hp hb k1 k2 k3 T' rfl X'
    exact ⟨t2, st t2 a1, b1⟩
  · obtain ⟨k1, k2, k3⟩ := vx_keep h0 e1 hS hAX hf hL hF
    obtain ⟨t2, a1, b1⟩ := kx E ce q u t T'.heap (locs ++ L) e1.symm (by rw [← e2]; exact X'.warmed.alike) hp hb k1 k2 k3 (by rw [e1]; exact hce) hcv hcl T' rfl X'
    exact ⟨t2, st.trans a1, b1⟩
theorem vx_calll {S SX : Type} {post : Int64 → S → Prop} {px : SX → Prop} {B : S → State → Prop} {BX : String → SX → State → Prop} {AX : Nat → Prop} (hr : vx_Run p l e R s m args below meth c H locs cells slots mc ms (F0 m pc ls st0) rest (va_Ql post B A1 a) (vx_X px BX AX) free) (hS : va_S A0 H0 H locs) (hA : ∀ q, q < H.size → A1 q → A0 q) (hf : ∀ q, free q → A0 q) (hAX : ∀ q, q < H.size → AX q → A0 q)
    (kx : ∀ (E : String) (ce : Cell) (q9 : Addr) (u : SX) (t : State) (H1 : Heap) (locs1 : List Loc), t.heap = H1 → s.vm.Alike t.vm → px u → BX E u t → H.size ≤ H1.size → (∀ q : Nat, q < H.size → ¬ AX q → H1[q]? = H[q]?) → va_S A0 H0 H1 locs1 → H1[q9]? = some ce → ce.vm = .none → s.vm.findClass E = some ce.cls → vx_W p l e R s m args below meth c H1 locs1 (cells + mc) (slots + ms) Q (F0 m pc ls rest) q9)
    (kk : ∀ (r : Int64) (u : S) (t : State) (H1 : Heap) (locs1 : List Loc), t.heap = H1 → s.vm.Alike t.vm → post r u → B u t → H.size ≤ H1.size → (∀ q : Nat, q < H.size → ¬ A1 q → H1[q]? = H[q]?) → va_S A0 H0 H1 locs1 → W p l e R s m args below meth c H1 locs1 (cells + mc) (slots + ms) Q (F0 m (pc + 3) ls (.long r :: rest))) : W p l e R s m args below meth c H locs cells slots Q (F0 m pc ls st0) := by
  intro T hT X
  rcases hr T hT X with ⟨v, st₀, t, T', L, h0, X', hL, e1, e2, ⟨⟨r, u, hv, hp, hb⟩, hF⟩, st⟩ | ⟨q, st₀, t, T', L, E, ce, h0, X', hL, e1, e2, ⟨u, hp, hb, hF⟩, hce, hcv, hcl, st⟩
  · cases hv
    obtain ⟨k1, k2, k3⟩ := vx_keep h0 e1 hS hA hf hL hF
    obtain ⟨t2, a1, b1⟩ := kk r u t T'.heap (locs ++ L) e1.symm (by rw [← e2]; exact X'.warmed.alike) hp hb k1 k2 k3 T' rfl X'
    exact ⟨t2, st t2 a1, b1⟩
  · obtain ⟨k1, k2, k3⟩ := vx_keep h0 e1 hS hAX hf hL hF
    obtain ⟨t2, a1, b1⟩ := kx E ce q u t T'.heap (locs ++ L) e1.symm (by rw [← e2]; exact X'.warmed.alike) hp hb k1 k2 k3 (by rw [e1]; exact hce) hcv hcl T' rfl X'
    exact ⟨t2, st.trans a1, b1⟩
theorem vx_callf {S SX : Type} {post : UInt32 → S → Prop} {px : SX → Prop} {B : S → State → Prop} {BX : String → SX → State → Prop} {AX : Nat → Prop} (hr : vx_Run p l e R s m args below meth c H locs cells slots mc ms (F0 m pc ls st0) rest (va_Qf post B A1 a) (vx_X px BX AX) free) (hS : va_S A0 H0 H locs) (hA : ∀ q, q < H.size → A1 q → A0 q) (hf : ∀ q, free q → A0 q) (hAX : ∀ q, q < H.size → AX q → A0 q)
    (kx : ∀ (E : String) (ce : Cell) (q9 : Addr) (u : SX) (t : State) (H1 : Heap) (locs1 : List Loc), t.heap = H1 → s.vm.Alike t.vm → px u → BX E u t → H.size ≤ H1.size → (∀ q : Nat, q < H.size → ¬ AX q → H1[q]? = H[q]?) → va_S A0 H0 H1 locs1 → H1[q9]? = some ce → ce.vm = .none → s.vm.findClass E = some ce.cls → vx_W p l e R s m args below meth c H1 locs1 (cells + mc) (slots + ms) Q (F0 m pc ls rest) q9)
    (kk : ∀ (r : UInt32) (u : S) (t : State) (H1 : Heap) (locs1 : List Loc), t.heap = H1 → s.vm.Alike t.vm → post r u → B u t → H.size ≤ H1.size → (∀ q : Nat, q < H.size → ¬ A1 q → H1[q]? = H[q]?) → va_S A0 H0 H1 locs1 → W p l e R s m args below meth c H1 locs1 (cells + mc) (slots + ms) Q (F0 m (pc + 3) ls (.float r :: rest))) : W p l e R s m args below meth c H locs cells slots Q (F0 m pc ls st0) := by
  intro T hT X
  rcases hr T hT X with ⟨v, st₀, t, T', L, h0, X', hL, e1, e2, ⟨⟨r, u, hv, hp, hb⟩, hF⟩, st⟩ | ⟨q, st₀, t, T', L, E, ce, h0, X', hL, e1, e2, ⟨u, hp, hb, hF⟩, hce, hcv, hcl, st⟩
  · cases hv
    obtain ⟨k1, k2, k3⟩ := vx_keep h0 e1 hS hA hf hL hF
    obtain ⟨t2, a1, b1⟩ := kk r u t T'.heap (locs ++ L) e1.symm (by rw [← e2]; exact X'.warmed.alike) hp hb k1 k2 k3 T' rfl X'
    exact ⟨t2, st t2 a1, b1⟩
  · obtain ⟨k1, k2, k3⟩ := vx_keep h0 e1 hS hAX hf hL hF
    obtain ⟨t2, a1, b1⟩ := kx E ce q u t T'.heap (locs ++ L) e1.symm (by rw [← e2]; exact X'.warmed.alike) hp hb k1 k2 k3 (by rw [e1]; exact hce) hcv hcl T' rfl X'
    exact ⟨t2, st.trans a1, b1⟩
theorem vx_calld {S SX : Type} {post : UInt64 → S → Prop} {px : SX → Prop} {B : S → State → Prop} {BX : String → SX → State → Prop} {AX : Nat → Prop} (hr : vx_Run p l e R s m args below meth c H locs cells slots mc ms (F0 m pc ls st0) rest (va_Qd post B A1 a) (vx_X px BX AX) free) (hS : va_S A0 H0 H locs) (hA : ∀ q, q < H.size → A1 q → A0 q) (hf : ∀ q, free q → A0 q) (hAX : ∀ q, q < H.size → AX q → A0 q)
    (kx : ∀ (E : String) (ce : Cell) (q9 : Addr) (u : SX) (t : State) (H1 : Heap) (locs1 : List Loc), t.heap = H1 → s.vm.Alike t.vm → px u → BX E u t → H.size ≤ H1.size → (∀ q : Nat, q < H.size → ¬ AX q → H1[q]? = H[q]?) → va_S A0 H0 H1 locs1 → H1[q9]? = some ce → ce.vm = .none → s.vm.findClass E = some ce.cls → vx_W p l e R s m args below meth c H1 locs1 (cells + mc) (slots + ms) Q (F0 m pc ls rest) q9)
    (kk : ∀ (r : UInt64) (u : S) (t : State) (H1 : Heap) (locs1 : List Loc), t.heap = H1 → s.vm.Alike t.vm → post r u → B u t → H.size ≤ H1.size → (∀ q : Nat, q < H.size → ¬ A1 q → H1[q]? = H[q]?) → va_S A0 H0 H1 locs1 → W p l e R s m args below meth c H1 locs1 (cells + mc) (slots + ms) Q (F0 m (pc + 3) ls (.double r :: rest))) : W p l e R s m args below meth c H locs cells slots Q (F0 m pc ls st0) := by
  intro T hT X
  rcases hr T hT X with ⟨v, st₀, t, T', L, h0, X', hL, e1, e2, ⟨⟨r, u, hv, hp, hb⟩, hF⟩, st⟩ | ⟨q, st₀, t, T', L, E, ce, h0, X', hL, e1, e2, ⟨u, hp, hb, hF⟩, hce, hcv, hcl, st⟩
  · cases hv
    obtain ⟨k1, k2, k3⟩ := vx_keep h0 e1 hS hA hf hL hF
    obtain ⟨t2, a1, b1⟩ := kk r u t T'.heap (locs ++ L) e1.symm (by rw [← e2]; exact X'.warmed.alike) hp hb k1 k2 k3 T' rfl X'
    exact ⟨t2, st t2 a1, b1⟩
  · obtain ⟨k1, k2, k3⟩ := vx_keep h0 e1 hS hAX hf hL hF
    obtain ⟨t2, a1, b1⟩ := kx E ce q u t T'.heap (locs ++ L) e1.symm (by rw [← e2]; exact X'.warmed.alike) hp hb k1 k2 k3 (by rw [e1]; exact hce) hcv hcl T' rfl X'
    exact ⟨t2, st.trans a1, b1⟩
theorem vx_callv {S SX : Type} {post : S → Prop} {px : SX → Prop} {B : S → State → Prop} {BX : String → SX → State → Prop} {AX : Nat → Prop} (hr : vx_Run p l e R s m args below meth c H locs cells slots mc ms (F0 m pc ls st0) rest (va_Qv post B A1 a) (vx_X px BX AX) free) (hS : va_S A0 H0 H locs) (hA : ∀ q, q < H.size → A1 q → A0 q) (hf : ∀ q, free q → A0 q) (hAX : ∀ q, q < H.size → AX q → A0 q)
    (kx : ∀ (E : String) (ce : Cell) (q9 : Addr) (u : SX) (t : State) (H1 : Heap) (locs1 : List Loc), t.heap = H1 → s.vm.Alike t.vm → px u → BX E u t → H.size ≤ H1.size → (∀ q : Nat, q < H.size → ¬ AX q → H1[q]? = H[q]?) → va_S A0 H0 H1 locs1 → H1[q9]? = some ce → ce.vm = .none → s.vm.findClass E = some ce.cls → vx_W p l e R s m args below meth c H1 locs1 (cells + mc) (slots + ms) Q (F0 m pc ls rest) q9)
    (kk : ∀ (u : S) (t : State) (H1 : Heap) (locs1 : List Loc), t.heap = H1 → s.vm.Alike t.vm → post u → B u t → H.size ≤ H1.size → (∀ q : Nat, q < H.size → ¬ A1 q → H1[q]? = H[q]?) → va_S A0 H0 H1 locs1 → W p l e R s m args below meth c H1 locs1 (cells + mc) (slots + ms) Q (F0 m (pc + 3) ls (rest))) : W p l e R s m args below meth c H locs cells slots Q (F0 m pc ls st0) := by
  intro T hT X
  rcases hr T hT X with ⟨v, st₀, t, T', L, h0, X', hL, e1, e2, ⟨⟨u, hv, hp, hb⟩, hF⟩, st⟩ | ⟨q, st₀, t, T', L, E, ce, h0, X', hL, e1, e2, ⟨u, hp, hb, hF⟩, hce, hcv, hcl, st⟩
  · cases hv
    obtain ⟨k1, k2, k3⟩ := vx_keep h0 e1 hS hA hf hL hF
    obtain ⟨t2, a1, b1⟩ := kk u t T'.heap (locs ++ L) e1.symm (by rw [← e2]; exact X'.warmed.alike) hp hb k1 k2 k3 T' rfl X'
    exact ⟨t2, st t2 a1, b1⟩
  · obtain ⟨k1, k2, k3⟩ := vx_keep h0 e1 hS hAX hf hL hF
    obtain ⟨t2, a1, b1⟩ := kx E ce q u t T'.heap (locs ++ L) e1.symm (by rw [← e2]; exact X'.warmed.alike) hp hb k1 k2 k3 (by rw [e1]; exact hce) hcv hcl T' rfl X'
    exact ⟨t2, st.trans a1, b1⟩
/-- caught by the row x of this method's table; the rows ahead don't take it -/
theorem vx_catch {own name : String} {E : String} {ce : Cell} {q : Addr} (hown : s.vm.findClass own = some m.cls) (pre : List ExceptionTableEntry) (x : ExceptionTableEntry) (suf : List ExceptionTableEntry) (hsplit : c.exceptionTable.toList = pre ++ x :: suf)
    (hpass : ∀ z ∈ pre, covers z pc = false ∨ (z.catchType ≠ 0 ∧ ∃ nm : String, (Cond.classLink own z.catchType nm).before args s = true ∧ va_Nc E nm s)) (hx : covers x pc = true) (h0 : x.catchType ≠ 0)
    (hlink : (Cond.classLink own x.catchType name).before args s = true) (hcast : (Cond.castable E name).before args s = true) (hcell : H[q]? = some ce) (hv : ce.vm = .none) (hcl : s.vm.findClass E = some ce.cls)
    (kk : W p l e R s m args below meth c H locs cells slots Q (F0 m x.handlerPc ls [.ref q])) : vx_W p l e R s m args below meth c H locs cells slots Q (F0 m pc ls rest) q := by
  intro T hT X
  have hpl : e.platform.magicAccessors = ({} : Platform).magicAccessors := by rw [X.admits.platform]
  obtain ⟨c3, c4, hc3, hc4, hasg⟩ := Cond.castable_spec hcast
  cases Option.some.inj (hc3.symm.trans hcl)
  obtain ⟨c5, hc5, hcl5⟩ := Cond.classLink_spec hown hlink e.platform hpl
  cases Option.some.inj (hc4.symm.trans hc5)
  obtain ⟨vm', X', st⟩ := X.thenCaughtThrough q (g := F0 m pc ls rest) rfl (Steps.refl _) (by rw [hT]; exact hcell) (by rw [hv]; rfl) (by obtain ⟨k9, h9, -⟩ := Vm.findClass_spec hcl; exact ⟨k9, h9⟩) pre x suf hsplit
    (fun z hz => by
      rcases hpass z hz with h | ⟨hz0, nm, hl1, hn1⟩
      · exact Or.inl h
      · obtain ⟨c6, hc6, hcl6⟩ := Cond.classLink_spec hown hl1 e.platform hpl
        obtain ⟨a8, b8, h1, h2, h3⟩ := hn1
        cases Option.some.inj (h1.symm.trans hcl)
        cases Option.some.inj (h2.symm.trans hc6)
        exact Or.inr ⟨hz0, _, hcl6, h3⟩) hx (Or.inr ⟨h0, c4, hcl5, hasg⟩)
  obtain ⟨t, a1, b1⟩ := kk (T.setVm vm') hT X'
  exact ⟨t, st.trans a1, b1⟩
end Rows
section Ends
variable {p : Program} {l : Launch} {e : Env} {R : Room} {s : State} {m : MethodId} {args : Array Value} {below : List Frame} {meth : Method} {c : Code} {H : Heap} {locs : List Loc} {cells slots : Nat} {Q : State → Prop}
variable {mc ms : Nat} {free : Addr → Prop} {A0 A1 : Nat → Prop} {H0 : Heap} {a : Array Value} {ls : Array Slot} {st0 rest : List Value}
variable {Qc : Array Value → State → Outcome → State → Prop} {XC : String → State → State → Prop}
/-- what a body that may throw owes at its end -/
def vx_MQ (below : List Frame) (Qc : Array Value → State → Outcome → State → Prop) (XC : String → State → State → Prop) (a : Array Value) (s : State) (mc ms : Nat) (free : Addr → Prop) : State → Prop := fun t =>
  ∃ o, t.status = .running ∧ Ended t below o ∧ vx_Q Qc XC mc ms free a s o t
theorem vx_ret {g : JFrame} {mc ms : Nat} (k : W p l e R s m args below meth c H locs cells slots (MQ below Qc args s mc ms free) g) : W p l e R s m args below meth c H locs cells slots (vx_MQ below Qc XC args s mc ms free) g := by
  intro T hT X
  obtain ⟨t, a1, o, b1, b2, b3, b4⟩ := k T hT X
  exact ⟨t, a1, o, b1, b2, Or.inl ⟨b3, b4⟩⟩
/-- not caught here: it goes on to the caller -/
theorem vx_widen {g : JFrame} {q : Addr} {k n : Nat} (h1 : cells ≤ k) (h2 : slots ≤ n) (kk : vx_W p l e R s m args below meth c H locs k n Q g q) : vx_W p l e R s m args below meth c H locs cells slots Q g q := fun T hT X => kk T hT (stand_widen X h1 h2)
theorem vx_out {pc : Nat} {E : String} {ce : Cell} {q : Addr} {mc ms : Nat} (hout : ∀ x ∈ c.exceptionTable.toList, covers x pc = false) (hlocks : meth.locks = false) (hcell : H[q]? = some ce) (hv : ce.vm = .none) (hcl : s.vm.findClass E = some ce.cls)
    (hx : ∀ t : State, t.heap = H → s.vm.Alike t.vm → XC E s t) (hf : ∀ z ∈ locs, free z.base) (hc : cells ≤ mc) (hs : slots ≤ ms) :
    vx_W p l e R s m args below meth c H locs cells slots (vx_MQ below Qc XC args s mc ms free) (F0 m pc ls rest) q := by
  intro T hT X
  obtain ⟨st1, hrun, hend, hW, hsm⟩ := X.leaveThrown q (g := F0 m pc ls rest) rfl rfl rfl hout hlocks
  have hcell9 : (T.setFrames (.throwing q :: below)).heap[q]? = some ce := by
    show T.heap[q]? = some ce
    rw [hT]; exact hcell
  exact ⟨_, st1, .threw q, hrun, hend, Or.inr ⟨q, rfl, E, ce, locs, hx _ hT hW.alike, hcell9, hv, hcl, hW, hsm.mono hc hs, hf⟩⟩
theorem vx_frame {U : State} {k n : Nat} (h : s.sameButNew ({ U with vm := s.vm } : State) locs k n) : s.heap.size ≤ U.heap.size ∧ ∀ q : Nat, q < s.heap.size → (∀ z ∈ locs, z.base ≠ q) → U.heap[q]? = s.heap[q]? := by
  obtain ⟨-, h2, -, -, -, h6⟩ := h
  refine ⟨h2, fun q hq hz => ?_⟩
  obtain ⟨c9, e1, e2, e3, e4⟩ := h6 q _ (Array.getElem?_eq_getElem hq)
  have hs : c9.slots = (s.heap[q]).slots := Array.ext_getElem? fun i => e4 i fun hm => hz _ hm rfl
  have h9 : c9 = s.heap[q] := by
    rw [hs] at e2
    exact e2
  have e5 : U.heap[q]? = some c9 := e1
  rw [e5, h9, Array.getElem?_eq_getElem hq]
/-- the words of a throw but the four that speak of the heap -/
def vx_no (w : Cond) : Bool := decide (w ≠ .isRef (.static Bundle.tN "UNASSIGNED_STACK" Bundle.steD)) && decide (w ≠ .isRef (.static Bundle.tN "SUPPRESSED_SENTINEL" Bundle.listD)) && decide (w ≠ .laysStatic Bundle.tN "UNASSIGNED_STACK" Bundle.steD) && decide (w ≠ .laysStatic Bundle.tN "SUPPRESSED_SENTINEL" Bundle.listD)
def vx_at0 (own : String) (ic : Nat) (X : String) (names : List String) : List Cond := (Bundle.ownAtoms0 own ic X names).filter vx_no
def vx_atS (own : String) (ic : Nat) (X : String) (names : List String) : List Cond := (Bundle.ownAtoms own ic X names).filter vx_no
/-- a word that the tables alone decide, or a good one -/
def vx_ot (w : Cond) : Bool := w.onTables || goodWord w
theorem vx_ot_at {args a' : Array Value} {s U : State} {w : Cond} (hW : s.WarmedH U.vm) (hvm : s.vm = U.vm) (hg : vx_ot w = true) (h : w.before args s = true) : w.before a' U = true := by
  simp only [vx_ot, Bool.or_eq_true] at hg
  rcases hg with hg | hg
  · exact va_tabs hg hvm h
  · exact word_at hW (good_of_word hg) h
/-- a list's words: the good ones out of the method's own list, the others by premises of their own -/
theorem vx_hat {args : Array Value} {s : State} {L B : List Cond} (h1 : ∀ w ∈ L.filter goodWord, w.before args s = true) (h2 : ∀ w ∈ L.filter (fun w => !goodWord w), w ∈ B) (h3 : ∀ w ∈ B, w.before args s = true) : ∀ w ∈ L, w.before args s = true := by
  intro w hw
  by_cases g : goodWord w = true
  · exact h1 w (List.mem_filter.mpr ⟨hw, g⟩)
  · refine h3 w (h2 w (List.mem_filter.mpr ⟨hw, ?_⟩))
    show (!goodWord w) = true
    cases hgw : goodWord w
    · rfl
    · exact absurd hgw g
theorem vx_c {args : Array Value} {s : State} {w : Cond} {B : List Cond} (h : w.before args s = true) (t : ∀ w ∈ B, w.before args s = true) : ∀ w' ∈ w :: B, w'.before args s = true := fun w' h' => (List.mem_cons.mp h').elim (fun e => by rw [e]; exact h) (t w')
theorem vx_n {args : Array Value} {s : State} : ∀ w ∈ ([] : List Cond), w.before args s = true := fun _ h => nomatch h
theorem vx_own {args : Array Value} {s : State} {L : List Cond} (h1 : ∀ w ∈ L.filter vx_no, w.before args s = true)
    (hU : (Cond.isRef (.static Bundle.tN "UNASSIGNED_STACK" Bundle.steD)).before args s = true) (hN : (Cond.isRef (.static Bundle.tN "SUPPRESSED_SENTINEL" Bundle.listD)).before args s = true)
    (lU : (Cond.laysStatic Bundle.tN "UNASSIGNED_STACK" Bundle.steD).before args s = true) (lN : (Cond.laysStatic Bundle.tN "SUPPRESSED_SENTINEL" Bundle.listD).before args s = true) : ∀ w ∈ L, w.before args s = true := by
  intro w hw
  by_cases e1 : w = .isRef (.static Bundle.tN "UNASSIGNED_STACK" Bundle.steD)
  · rw [e1]; exact hU
  · by_cases e2 : w = .isRef (.static Bundle.tN "SUPPRESSED_SENTINEL" Bundle.listD)
    · rw [e2]; exact hN
    · by_cases e3 : w = .laysStatic Bundle.tN "UNASSIGNED_STACK" Bundle.steD
      · rw [e3]; exact lU
      · by_cases e4 : w = .laysStatic Bundle.tN "SUPPRESSED_SENTINEL" Bundle.listD
        · rw [e4]; exact lN
        · exact h1 w (List.mem_filter.mpr ⟨hw, by unfold vx_no; rw [decide_eq_true e1, decide_eq_true e2, decide_eq_true e3, decide_eq_true e4]; rfl⟩)
/-- where a static field lies, its class's statics cell in H -/
def vx_L (C n d : String) (A : Nat → Prop) (U : State) (H : Heap) : Prop := ∃ (c : ClassId) (k : Class) (i : Nat) (f : Field) (a : Nat) (cell : Cell), U.vm.findClass C = some c ∧ U.fieldFound? C n d = some (c, k, i, f) ∧ f.isStatic = true ∧ k.statics = some a ∧ H[a]? = some cell ∧ cell.vm.isStatics = true ∧ cell.cls = c ∧ f.slot < cell.slots.size ∧ k.staticTypes[f.slot]? = some f.type ∧ ¬ A a
theorem vx_L.moved {C n d : String} {A : Nat → Prop} {u U : State} {H : Heap} (hvm : u.vm.Alike U.vm) (h : vx_L C n d A u H) : vx_L C n d A U H := by
  obtain ⟨c, k, i, f, a, cell, h1, h2, h3, h4, h5, h6, h7, h8, h9, h10⟩ := h
  obtain ⟨k', hi', he⟩ := State.fieldFound?_setVm hvm h2
  exact ⟨c, k', i, f, a, cell, by rw [hvm.findClass]; exact h1, hi', h3, by rw [he]; exact h4, h5, h6, h7, h8, by rw [he]; exact h9, h10⟩
theorem vx_L.kept {C n d : String} {A : Nat → Prop} {U : State} {H H1 : Heap} (h : vx_L C n d A U H) (hq : ∀ a : Nat, a < H.size → ¬ A a → H1[a]? = H[a]?) : vx_L C n d A U H1 := by
  obtain ⟨c, k, i, f, a, cell, h1, h2, h3, h4, h5, h6, h7, h8, h9, h10⟩ := h
  exact ⟨c, k, i, f, a, cell, h1, h2, h3, h4, by rw [hq a (Array.getElem?_eq_some_iff.mp h5).1 h10]; exact h5, h6, h7, h8, h9, h10⟩
theorem vx_L.narrow {C n d : String} {A B : Nat → Prop} {U : State} {H : Heap} (h : vx_L C n d A U H) (hAB : ∀ q, B q → A q) : vx_L C n d B U H := by
  obtain ⟨c, k, i, f, a, cell, h1, h2, h3, h4, h5, h6, h7, h8, h9, h10⟩ := h
  exact ⟨c, k, i, f, a, cell, h1, h2, h3, h4, h5, h6, h7, h8, h9, fun z => h10 (hAB _ z)⟩
theorem vx_L.word {C n d : String} {A : Nat → Prop} {s : State} {args : Array Value} (h : vx_L C n d A s s.heap) : (Cond.laysStatic C n d).before args s = true := by
  obtain ⟨c, k, i, f, a, cell, h1, h2, h3, h4, h5, h6, h7, h8, h9, -⟩ := h
  show (Cond.laysStatic C n d).holds args s none s [] = true
  exact Cond.laysStatic_of h1 h2 h3 h4 h5 h6 h7 h8 h9
/-- .. and what it holds: null or some reference -/
def vx_Zq (C n d : String) (A : Nat → Prop) (U : State) (H : Heap) : Prop := va_Zq C n d A U H ∧ vx_L C n d A U H
theorem vx_Zq.moved {C n d : String} {A : Nat → Prop} {u U : State} {H : Heap} (hvm : u.vm.Alike U.vm) (h : vx_Zq C n d A u H) : vx_Zq C n d A U H := ⟨va_Zq.moved hvm h.1, vx_L.moved hvm h.2⟩
theorem vx_Zq.kept {C n d : String} {A : Nat → Prop} {U : State} {H H1 : Heap} (h : vx_Zq C n d A U H) (hq : ∀ a : Nat, a < H.size → ¬ A a → H1[a]? = H[a]?) : vx_Zq C n d A U H1 := ⟨va_Zq.kept h.1 hq, vx_L.kept h.2 hq⟩
theorem vx_Zq.narrow {C n d : String} {A B : Nat → Prop} {U : State} {H : Heap} (h : vx_Zq C n d A U H) (hAB : ∀ q, B q → A q) : vx_Zq C n d B U H := ⟨va_Zq.narrow h.1 hAB, vx_L.narrow h.2 hAB⟩
theorem vx_Zqof {args : Array Value} {s : State} {C n d : String} {A : Nat → Prop} (hl : (Cond.laysStatic C n d).before args s = true) (hini : (Cond.initialized C).before args s = true) (h : (Cond.isRef (.static C n d)).before args s = true) (hA : ∀ a : Nat, a < s.heap.size → ¬ A a) : vx_Zq C n d A s s.heap := by
  refine ⟨va_Zqof hl hini h hA, ?_⟩
  obtain ⟨c, k, i, f, a, cell, h1, h2, h3, h4, h5, h6, h7, h8, h9⟩ := Cond.laysStatic_spec hl
  exact ⟨c, k, i, f, a, cell, h1, h2, h3, h4, h5, h6, h7, h8, h9, hA a (Array.getElem?_eq_some_iff.mp h5).1⟩
theorem vx_isRef {C n d : String} {v : Value} {A : Nat → Prop} {s : State} {args : Array Value} (h : va_Z C n d v A s s.heap) (hv : v.isRef = true) : (Cond.isRef (.static C n d)).before args s = true := by
  obtain ⟨cf, kf, fi, f, a, cell, h1, h2, h3, h4, h5, h6, h7, -⟩ := h
  have he : (Term.static C n d).eval args s none [] s = some v := by
    simp [Term.eval, State.fieldNamed?, h1, h2, h4, h5, h6, h7]
  simp only [Cond.before, Cond.holds, Cond.value, he]
  cases v <;> simp_all [Value.isRef]
theorem vx_isRefq {C n d : String} {A : Nat → Prop} {s : State} {args : Array Value} (h : va_Zq C n d A s s.heap) : (Cond.isRef (.static C n d)).before args s = true := by
  rcases h with h | ⟨t, h⟩
  · exact vx_isRef h rfl
  · exact vx_isRef h rfl
/-- the same frame, seen from here: as if the method were called anew in this heap -/
theorem vx_rebase {T : State} (X : Stand p l e R s m args below meth c T locs cells slots) {R' : Room} (hf : R'.frames ≤ R.frames) (hl : R'.locals ≤ R.locals) (hc : cells + R'.cells ≤ R.cells) (hs : slots + R'.slots ≤ R.slots) :
    Stand p l e R' ((T.setVm s.vm).setFrames (.invoking m args :: below)) m args below meth c T [] 0 0 := by
  have htop : (T.setVm s.vm).topJava?.isSome := X.here.top
  have hF : ((T.setVm s.vm).setFrames (.invoking m args :: below)).frames = .invoking m args :: below := State.frames_setFrames _ (State.cur_lt_of_top htop)
  obtain ⟨g₀, hg0⟩ := Option.isSome_iff_exists.mp htop
  obtain ⟨r, hr⟩ := State.topJava?_eq_some.mp hg0
  have hl9 : e.platform.stackLimits (T.setVm s.vm).me = e.platform.stackLimits s.me := X.limits
  have hb9 : (T.setVm s.vm).me.stackBytes = s.me.stackBytes := X.bytes
  refine ⟨X.admits, X.cas, X.clock, hF, ?_, X.hears, X.method, X.code, X.here, X.tail, X.warmed, ?_, ?_, ?_⟩
  · have h := X.room
    have hU : ((T.setVm s.vm).setFrames (.invoking m args :: below)).localsInUse = s.localsInUse := by
      rw [State.localsInUse_invoking hF (meth := meth) (c := c) X.method X.code, State.localsInUse_invoking X.frames X.method X.code]
    simp only [State.hasRoom, Bool.and_eq_true, decide_eq_true_eq] at h ⊢
    obtain ⟨⟨⟨⟨h1, h2, h3, h4, h5, h6⟩, h7⟩, h8⟩, h9⟩ := h
    rw [X.frames, List.length_cons] at h2 h3
    have q1 := X.heapSize
    have q2 := X.used
    simp only [hF, hU, List.length_cons, State.stackLimits_setFrames, State.stackBytes_setFrames, hl9, hb9]
    refine ⟨⟨⟨⟨by omega, by omega, by omega, by omega, by omega, h6⟩, ?_⟩, ?_⟩, X.book⟩
    · show T.heap.size + R'.cells ≤ e.platform.maxCells
      omega
    · show T.slotsUsed + R'.slots ≤ e.platform.maxSlots
      omega
  · rw [State.stackLimits_setFrames]; rfl
  · rw [State.stackBytes_setFrames]; rfl
  · refine ⟨?_, Nat.le_refl _, Nat.le_refl _, ?_, ?_, fun a c9 h9 => ⟨c9, h9, rfl, rfl, fun _ _ => rfl⟩⟩
    · obtain ⟨t, ht, -⟩ := State.frames_cons hr
      show T.setVm s.vm = { ((T.setVm s.vm).setFrames (.invoking m args :: below)).setFrames (T.setVm s.vm).frames with heap := T.heap, slotsUsed := T.slotsUsed }
      rw [State.setFrames_setFrames, State.setFrames_self ht]
      rfl
    · show T.slotsUsed = T.slotsUsed + ((T.heap.toList.drop T.heap.size).map (·.slots.size)).sum
      rw [List.drop_eq_nil_of_le (Nat.le_of_eq Array.length_toList)]
      rfl
    · show ((T.heap.toList.drop T.heap.size).map (·.slots.size)).sum ≤ 0
      rw [List.drop_eq_nil_of_le (Nat.le_of_eq Array.length_toList)]
      exact Nat.le_refl _
/-- 'throw new E()': new; dup; invokespecial; athrow -/
theorem vx_throw0 {cc : ByteArray} {pc : Nat} (hexec : p.tables.exec = Jvm.exec) (hb : c.code = cc) (hl : l.stackTraces = false) {own cls : String} {names : List String} {ik ic mc ms : Nat} {A : Nat → Prop}
    (hown : s.vm.findClass own = some m.cls) (hcls : Bundle.fit cls = true) (hnames : ∀ n ∈ names, Bundle.fit n = true)
    (hk : (Cond.classLink own ik cls).before args s = true) (hini : (Cond.initialized cls).before args s = true) (hat : ∀ w ∈ vx_at0 own ic cls names, w.before args s = true)
    (hgood : ∀ w ∈ Cond.classLink own ik cls :: Cond.initialized cls :: vx_at0 own ic cls names, vx_ot w = true)
    (hU : vx_Zq Bundle.tN "UNASSIGNED_STACK" Bundle.steD A s s.heap) (hN : vx_Zq Bundle.tN "SUPPRESSED_SENTINEL" Bundle.listD A s s.heap) (hS : va_S A s.heap H locs) (hsize : ls.size = c.maxLocals)
    (d0 : decode cc pc = .ok (.new ik, 3)) (d3 : decode cc (pc + 3) = .ok (.dup, 1)) (d4 : decode cc (pc + 4) = .ok (.invokespecial ic, 3)) (d7 : decode cc (pc + 7) = .ok (.athrow, 1))
    (hout : ∀ x ∈ c.exceptionTable.toList, covers x (pc + 7) = false)
    (hRframes : names.length + 3 < R.frames) (hRlocals : (rest.map fun v => v.category).sum + (13 * (names.length + 1) + 42) ≤ R.locals) (hRcells : cells + 1 ≤ R.cells) (hRslots : slots + 6 ≤ R.slots) (hlocks : meth.locks = false)
    (hx : ∀ t : State, s.vm.Alike t.vm → H.size ≤ t.heap.size → (∀ q : Nat, q < H.size → t.heap[q]? = H[q]?) → XC cls s t)
    (hf : ∀ z ∈ locs, free z.base) (hc : cells + 1 ≤ mc) (hs : slots + 6 ≤ ms) :
    W p l e R s m args below meth c H locs cells slots (vx_MQ below Qc XC args s mc ms free) (F0 m pc ls rest) := by
  intro T hT X
  have htr : e.platform.stackTraces = false := (show e.platform.stackTraces = l.stackTraces by rw [X.admits.platform]).trans hl
  have Y := vx_rebase X (R' := { frames := R.frames, locals := R.locals, cells := 1, slots := 6 }) (Nat.le_refl _) (Nat.le_refl _) hRcells hRslots
  obtain ⟨s', hA⟩ : ∃ z, z = (T.setVm s.vm).setFrames (.invoking m args :: below) := ⟨_, rfl⟩
  rw [← hA] at Y
  have hvm : s'.vm = s.vm := by rw [hA]; rfl
  have hhp : s'.heap = H := by rw [hA]; exact hT
  have hW0 : s.WarmedH s'.vm := by rw [hvm]; exact State.WarmedH.refl s
  have hat' : ∀ w ∈ vx_at0 own ic cls names, w.before args s' = true := fun w hw => vx_ot_at hW0 hvm.symm (hgood w (List.mem_cons_of_mem _ (List.mem_cons_of_mem _ hw))) (hat w hw)
  have hk' : (Cond.classLink own ik cls).before args s' = true := vx_ot_at hW0 hvm.symm (hgood _ List.mem_cons_self) hk
  have hini' : (Cond.initialized cls).before args s' = true := vx_ot_at hW0 hvm.symm (hgood _ (List.mem_cons_of_mem _ List.mem_cons_self)) hini
  have hU' : vx_Zq Bundle.tN "UNASSIGNED_STACK" Bundle.steD A s' s'.heap := by rw [hhp]; exact vx_Zq.moved hW0.alike (hU.kept hS.2.1)
  have hN' : vx_Zq Bundle.tN "SUPPRESSED_SENTINEL" Bundle.listD A s' s'.heap := by rw [hhp]; exact vx_Zq.moved hW0.alike (hN.kept hS.2.1)
  have h : ∀ w ∈ Bundle.ownAtoms0 own ic cls names, w.before args s' = true := vx_own hat' (vx_isRefq hU'.1) (vx_isRefq hN'.1) hU'.2.word hN'.2.word
  have hown' : s'.vm.findClass own = some m.cls := by rw [hvm]; exact hown
  have hins : (Cond.instantiable cls 6).before args s' = true := h _ (by simp [Bundle.ownAtoms0])
  obtain ⟨vm₁, cX, kX, hfX, hkX, -, -, X₁, st1⟩ := Y.newCold hexec (own := own) (C := cls) (index := ik) (n := 6) hown' hk' hins hini'
    (g := F0 m pc ls rest) rfl (by rw [hb]; exact d0) (Nat.le_refl _) (Nat.le_refl _)
  generalize hT1 : (T.setVm vm₁).pushCell { cls := cX, slots := kX.instanceTypes.map defaultValue, vm := .none } = T1 at X₁ st1
  have hcat : (Value.ref T.heap.size).category = 1 := rfl
  have hcellA : T1.heap[T.heap.size]? = some (freshCell cX kX) := by rw [← hT1]; exact State.heap_pushCell_size _ _
  have d3' : decode c.code (pc + 3) = .ok (.dup, 1) := by rw [hb]; exact d3
  obtain ⟨U, hsteps, hrun, hend, hW, hsame, ce, hce, hO⟩ := X₁.ctorThrow0 hexec htr (own := own) (cls := cls) (names := names) (ic := ic) hown' hcls hnames h (fun x hx => nomatch hx) hfX hkX hcellA (by rw [hhp, hT]; exact Nat.le_refl _)
    (g := { method := m, pc := pc + 4, locals := ls, stack := .ref T.heap.size :: .ref T.heap.size :: rest, locked := none }) rfl hsize rfl rfl (rest := rest) rfl
    (by rw [hb]; exact d4) (by rw [hb]; exact d7) hout hRframes (by simp only [List.map_cons, List.sum_cons, hcat]; omega) hlocks
  obtain ⟨f1, f2⟩ := vx_frame hsame
  rw [hhp] at f1 f2
  have hWs : s.WarmedH U.vm := State.WarmedH.trans hW0 hW
  have hcl : s.vm.findClass cls = some ce.cls := by
    have h9 := hO.cls
    rw [hvm] at h9
    exact h9
  have hall : s.sameButNew ({ U with vm := s.vm } : State) locs mc ms := by
    subst hA
    obtain ⟨e1, e2⟩ := hsame
    rw [State.setFrames_setFrames] at e1
    have h2 : (T.setVm s.vm).sameButNew ({ U with vm := s.vm } : State) [] (0 + 1) (0 + 6) := ⟨e1, e2⟩
    have h3 := X.same.trans h2
    rw [List.append_nil] at h3
    exact h3.mono hc hs
  refine ⟨U, ?_, .threw T.heap.size, hrun, hend, Or.inr ⟨T.heap.size, rfl, cls, ce, locs, hx U hWs.alike f1 (fun q hq => f2 q hq (fun z hz => nomatch hz)), hce, hO.vm, hcl, hWs, hall, hf⟩⟩
  refine st1 _ ?_
  show Steps p.tables e below (T1.setTop { method := m, pc := pc + 3, locals := ls, stack := .ref T.heap.size :: rest, locked := none }) _
  jvm_step X₁.here [X₁.here.top, hexec, d3', Value.category]
  exact hsteps
/-- 'throw new E("text")': new; dup; ldc; invokespecial; athrow -/
theorem vx_throwS {cc : ByteArray} {pc : Nat} (hexec : p.tables.exec = Jvm.exec) (hb : c.code = cc) (hl : l.stackTraces = false) {own cls text : String} {names : List String} {ik is ic mc ms sa : Nat} {A : Nat → Prop}
    (hown : s.vm.findClass own = some m.cls) (hcls : Bundle.fit cls = true) (hnames : ∀ n ∈ names, Bundle.fit n = true)
    (hk : (Cond.classLink own ik cls).before args s = true) (hini : (Cond.initialized cls).before args s = true) (hstr : vk_R own is text sa s) (hat : ∀ w ∈ vx_atS own ic cls names, w.before args s = true)
    (hgood : ∀ w ∈ Cond.classLink own ik cls :: Cond.initialized cls :: vx_atS own ic cls names, vx_ot w = true)
    (hU : vx_Zq Bundle.tN "UNASSIGNED_STACK" Bundle.steD A s s.heap) (hN : vx_Zq Bundle.tN "SUPPRESSED_SENTINEL" Bundle.listD A s s.heap) (hS : va_S A s.heap H locs) (hsize : ls.size = c.maxLocals)
    (d0 : decode cc pc = .ok (.new ik, 3)) (d3 : decode cc (pc + 3) = .ok (.dup, 1)) (d4 : decode cc (pc + 4) = .ok (.ldc is, 2)) (d6 : decode cc (pc + 6) = .ok (.invokespecial ic, 3)) (d9 : decode cc (pc + 9) = .ok (.athrow, 1))
    (hout : ∀ x ∈ c.exceptionTable.toList, covers x (pc + 9) = false)
    (hRframes : names.length + 3 < R.frames) (hRlocals : (rest.map fun v => v.category).sum + (13 * (names.length + 1) + 43) ≤ R.locals) (hRcells : cells + 1 ≤ R.cells) (hRslots : slots + 6 ≤ R.slots) (hlocks : meth.locks = false)
    (hx : ∀ t : State, s.vm.Alike t.vm → H.size ≤ t.heap.size → (∀ q : Nat, q < H.size → t.heap[q]? = H[q]?) → XC cls s t)
    (hf : ∀ z ∈ locs, free z.base) (hc : cells + 1 ≤ mc) (hs : slots + 6 ≤ ms) :
    W p l e R s m args below meth c H locs cells slots (vx_MQ below Qc XC args s mc ms free) (F0 m pc ls rest) := by
  intro T hT X
  have htr : e.platform.stackTraces = false := (show e.platform.stackTraces = l.stackTraces by rw [X.admits.platform]).trans hl
  have Y := vx_rebase X (R' := { frames := R.frames, locals := R.locals, cells := 1, slots := 6 }) (Nat.le_refl _) (Nat.le_refl _) hRcells hRslots
  obtain ⟨s', hA⟩ : ∃ z, z = (T.setVm s.vm).setFrames (.invoking m args :: below) := ⟨_, rfl⟩
  rw [← hA] at Y
  have hvm : s'.vm = s.vm := by rw [hA]; rfl
  have hhp : s'.heap = H := by rw [hA]; exact hT
  have hW0 : s.WarmedH s'.vm := by rw [hvm]; exact State.WarmedH.refl s
  have hat' : ∀ w ∈ vx_atS own ic cls names, w.before args s' = true := fun w hw => vx_ot_at hW0 hvm.symm (hgood w (List.mem_cons_of_mem _ (List.mem_cons_of_mem _ hw))) (hat w hw)
  have hk' : (Cond.classLink own ik cls).before args s' = true := vx_ot_at hW0 hvm.symm (hgood _ List.mem_cons_self) hk
  have hini' : (Cond.initialized cls).before args s' = true := vx_ot_at hW0 hvm.symm (hgood _ (List.mem_cons_of_mem _ List.mem_cons_self)) hini
  have hU' : vx_Zq Bundle.tN "UNASSIGNED_STACK" Bundle.steD A s' s'.heap := by rw [hhp]; exact vx_Zq.moved hW0.alike (hU.kept hS.2.1)
  have hN' : vx_Zq Bundle.tN "SUPPRESSED_SENTINEL" Bundle.listD A s' s'.heap := by rw [hhp]; exact vx_Zq.moved hW0.alike (hN.kept hS.2.1)
  have h : ∀ w ∈ Bundle.ownAtoms own ic cls names, w.before args s' = true := vx_own hat' (vx_isRefq hU'.1) (vx_isRefq hN'.1) hU'.2.word hN'.2.word
  have hown' : s'.vm.findClass own = some m.cls := by rw [hvm]; exact hown
  have hins : (Cond.instantiable cls 6).before args s' = true := h _ (by simp [Bundle.ownAtoms])
  obtain ⟨vm₁, cX, kX, hfX, hkX, -, -, X₁, st1⟩ := Y.newCold hexec (own := own) (C := cls) (index := ik) (n := 6) hown' hk' hins hini'
    (g := F0 m pc ls rest) rfl (by rw [hb]; exact d0) (Nat.le_refl _) (Nat.le_refl _)
  generalize hT1 : (T.setVm vm₁).pushCell { cls := cX, slots := kX.instanceTypes.map defaultValue, vm := .none } = T1 at X₁ st1
  have hcat : (Value.ref T.heap.size).category = 1 := rfl
  have hcellA : T1.heap[T.heap.size]? = some (freshCell cX kX) := by rw [← hT1]; exact State.heap_pushCell_size _ _
  have d3' : decode c.code (pc + 3) = .ok (.dup, 1) := by rw [hb]; exact d3
  have d4' : decode c.code (pc + 4) = .ok (.ldc is, 2) := by rw [hb]; exact d4
  have hstr' : vk_R own is text sa s' := vk_R.warm hW0 hstr
  obtain ⟨U, hsteps, hrun, hend, hW, hsame, ce, hce, hO⟩ := X₁.ctorThrowS hexec htr (own := own) (cls := cls) (names := names) (ic := ic) hown' hcls hnames h (fun x hx => nomatch hx) hfX hkX hcellA (by rw [hhp, hT]; exact Nat.le_refl _) (msg := .ref sa) rfl
    (g := { method := m, pc := pc + 6, locals := ls, stack := .ref sa :: .ref T.heap.size :: .ref T.heap.size :: rest, locked := none }) rfl hsize rfl rfl (rest := rest) rfl
    (by rw [hb]; exact d6) (by rw [hb]; exact d9) hout hRframes (by simp only [List.map_cons, List.sum_cons, hcat]; omega) hlocks
  obtain ⟨f1, f2⟩ := vx_frame hsame
  rw [hhp] at f1 f2
  have hWs : s.WarmedH U.vm := State.WarmedH.trans hW0 hW
  have hcl : s.vm.findClass cls = some ce.cls := by
    have h9 := hO.cls
    rw [hvm] at h9
    exact h9
  have hall : s.sameButNew ({ U with vm := s.vm } : State) locs mc ms := by
    subst hA
    obtain ⟨e1, e2⟩ := hsame
    rw [State.setFrames_setFrames] at e1
    have h2 : (T.setVm s.vm).sameButNew ({ U with vm := s.vm } : State) [] (0 + 1) (0 + 6) := ⟨e1, e2⟩
    have h3 := X.same.trans h2
    rw [List.append_nil] at h3
    exact h3.mono hc hs
  refine ⟨U, ?_, .threw T.heap.size, hrun, hend, Or.inr ⟨T.heap.size, rfl, cls, ce, locs, hx U hWs.alike f1 (fun q hq => f2 q hq (fun z hz => nomatch hz)), hce, hO.vm, hcl, hWs, hall, hf⟩⟩
  refine st1 _ ?_
  show Steps p.tables e below (T1.setTop { method := m, pc := pc + 3, locals := ls, stack := .ref T.heap.size :: rest, locked := none }) _
  jvm_step X₁.here [X₁.here.top, hexec, d3', Value.category]
  exact X₁.ldcString hexec (own := own) (text := text) (index := is) (a := sa) hown' hstr'.1 hstr'.2
    (g := { method := m, pc := pc + 4, locals := ls, stack := .ref T.heap.size :: .ref T.heap.size :: rest, locked := none }) rfl d4' _ hsteps
/-- 'throw new E("text")', the text by a wide index -/
theorem vx_throwSW {cc : ByteArray} {pc : Nat} (hexec : p.tables.exec = Jvm.exec) (hb : c.code = cc) (hl : l.stackTraces = false) {own cls text : String} {names : List String} {ik is ic mc ms sa : Nat} {A : Nat → Prop}
    (hown : s.vm.findClass own = some m.cls) (hcls : Bundle.fit cls = true) (hnames : ∀ n ∈ names, Bundle.fit n = true)
    (hk : (Cond.classLink own ik cls).before args s = true) (hini : (Cond.initialized cls).before args s = true) (hstr : vk_R own is text sa s) (hat : ∀ w ∈ vx_atS own ic cls names, w.before args s = true)
    (hgood : ∀ w ∈ Cond.classLink own ik cls :: Cond.initialized cls :: vx_atS own ic cls names, vx_ot w = true)
    (hU : vx_Zq Bundle.tN "UNASSIGNED_STACK" Bundle.steD A s s.heap) (hN : vx_Zq Bundle.tN "SUPPRESSED_SENTINEL" Bundle.listD A s s.heap) (hS : va_S A s.heap H locs) (hsize : ls.size = c.maxLocals)
    (d0 : decode cc pc = .ok (.new ik, 3)) (d3 : decode cc (pc + 3) = .ok (.dup, 1)) (d4 : decode cc (pc + 4) = .ok (.ldc_w is, 3)) (d7 : decode cc (pc + 7) = .ok (.invokespecial ic, 3)) (d10 : decode cc (pc + 10) = .ok (.athrow, 1))
    (hout : ∀ x ∈ c.exceptionTable.toList, covers x (pc + 10) = false)
    (hRframes : names.length + 3 < R.frames) (hRlocals : (rest.map fun v => v.category).sum + (13 * (names.length + 1) + 43) ≤ R.locals) (hRcells : cells + 1 ≤ R.cells) (hRslots : slots + 6 ≤ R.slots) (hlocks : meth.locks = false)
    (hx : ∀ t : State, s.vm.Alike t.vm → H.size ≤ t.heap.size → (∀ q : Nat, q < H.size → t.heap[q]? = H[q]?) → XC cls s t)
    (hf : ∀ z ∈ locs, free z.base) (hc : cells + 1 ≤ mc) (hs : slots + 6 ≤ ms) :
    W p l e R s m args below meth c H locs cells slots (vx_MQ below Qc XC args s mc ms free) (F0 m pc ls rest) := by
  intro T hT X
  have htr : e.platform.stackTraces = false := (show e.platform.stackTraces = l.stackTraces by rw [X.admits.platform]).trans hl
  have Y := vx_rebase X (R' := { frames := R.frames, locals := R.locals, cells := 1, slots := 6 }) (Nat.le_refl _) (Nat.le_refl _) hRcells hRslots
  obtain ⟨s', hA⟩ : ∃ z, z = (T.setVm s.vm).setFrames (.invoking m args :: below) := ⟨_, rfl⟩
  rw [← hA] at Y
  have hvm : s'.vm = s.vm := by rw [hA]; rfl
  have hhp : s'.heap = H := by rw [hA]; exact hT
  have hW0 : s.WarmedH s'.vm := by rw [hvm]; exact State.WarmedH.refl s
  have hat' : ∀ w ∈ vx_atS own ic cls names, w.before args s' = true := fun w hw => vx_ot_at hW0 hvm.symm (hgood w (List.mem_cons_of_mem _ (List.mem_cons_of_mem _ hw))) (hat w hw)
  have hk' : (Cond.classLink own ik cls).before args s' = true := vx_ot_at hW0 hvm.symm (hgood _ List.mem_cons_self) hk
  have hini' : (Cond.initialized cls).before args s' = true := vx_ot_at hW0 hvm.symm (hgood _ (List.mem_cons_of_mem _ List.mem_cons_self)) hini
  have hU' : vx_Zq Bundle.tN "UNASSIGNED_STACK" Bundle.steD A s' s'.heap := by rw [hhp]; exact vx_Zq.moved hW0.alike (hU.kept hS.2.1)
  have hN' : vx_Zq Bundle.tN "SUPPRESSED_SENTINEL" Bundle.listD A s' s'.heap := by rw [hhp]; exact vx_Zq.moved hW0.alike (hN.kept hS.2.1)
  have h : ∀ w ∈ Bundle.ownAtoms own ic cls names, w.before args s' = true := vx_own hat' (vx_isRefq hU'.1) (vx_isRefq hN'.1) hU'.2.word hN'.2.word
  have hown' : s'.vm.findClass own = some m.cls := by rw [hvm]; exact hown
  have hins : (Cond.instantiable cls 6).before args s' = true := h _ (by simp [Bundle.ownAtoms])
  obtain ⟨vm₁, cX, kX, hfX, hkX, -, -, X₁, st1⟩ := Y.newCold hexec (own := own) (C := cls) (index := ik) (n := 6) hown' hk' hins hini'
    (g := F0 m pc ls rest) rfl (by rw [hb]; exact d0) (Nat.le_refl _) (Nat.le_refl _)
  generalize hT1 : (T.setVm vm₁).pushCell { cls := cX, slots := kX.instanceTypes.map defaultValue, vm := .none } = T1 at X₁ st1
  have hcat : (Value.ref T.heap.size).category = 1 := rfl
  have hcellA : T1.heap[T.heap.size]? = some (freshCell cX kX) := by rw [← hT1]; exact State.heap_pushCell_size _ _
  have d3' : decode c.code (pc + 3) = .ok (.dup, 1) := by rw [hb]; exact d3
  have d4' : decode c.code (pc + 4) = .ok (.ldc_w is, 3) := by rw [hb]; exact d4
  have hstr' : vk_R own is text sa s' := vk_R.warm hW0 hstr
  obtain ⟨U, hsteps, hrun, hend, hW, hsame, ce, hce, hO⟩ := X₁.ctorThrowS hexec htr (own := own) (cls := cls) (names := names) (ic := ic) hown' hcls hnames h (fun x hx => nomatch hx) hfX hkX hcellA (by rw [hhp, hT]; exact Nat.le_refl _) (msg := .ref sa) rfl
    (g := { method := m, pc := pc + 7, locals := ls, stack := .ref sa :: .ref T.heap.size :: .ref T.heap.size :: rest, locked := none }) rfl hsize rfl rfl (rest := rest) rfl
    (by rw [hb]; exact d7) (by rw [hb]; exact d10) hout hRframes (by simp only [List.map_cons, List.sum_cons, hcat]; omega) hlocks
  obtain ⟨f1, f2⟩ := vx_frame hsame
  rw [hhp] at f1 f2
  have hWs : s.WarmedH U.vm := State.WarmedH.trans hW0 hW
  have hcl : s.vm.findClass cls = some ce.cls := by
    have h9 := hO.cls
    rw [hvm] at h9
    exact h9
  have hall : s.sameButNew ({ U with vm := s.vm } : State) locs mc ms := by
    subst hA
    obtain ⟨e1, e2⟩ := hsame
    rw [State.setFrames_setFrames] at e1
    have h2 : (T.setVm s.vm).sameButNew ({ U with vm := s.vm } : State) [] (0 + 1) (0 + 6) := ⟨e1, e2⟩
    have h3 := X.same.trans h2
    rw [List.append_nil] at h3
    exact h3.mono hc hs
  refine ⟨U, ?_, .threw T.heap.size, hrun, hend, Or.inr ⟨T.heap.size, rfl, cls, ce, locs, hx U hWs.alike f1 (fun q hq => f2 q hq (fun z hz => nomatch hz)), hce, hO.vm, hcl, hWs, hall, hf⟩⟩
  refine st1 _ ?_
  show Steps p.tables e below (T1.setTop { method := m, pc := pc + 3, locals := ls, stack := .ref T.heap.size :: rest, locked := none }) _
  jvm_step X₁.here [X₁.here.top, hexec, d3', Value.category]
  exact X₁.ldcStringW hexec (own := own) (text := text) (index := is) (a := sa) hown' hstr'.1 hstr'.2
    (g := { method := m, pc := pc + 4, locals := ls, stack := .ref T.heap.size :: .ref T.heap.size :: rest, locked := none }) rfl d4' _ hsteps
end Ends
section Bodies
variable {l : Launch}
theorem vx_ofW {y : MethodName} {ws ws' : List Cond} {rm : Room} {Pc : Array Value → State → Prop} {Qc : Array Value → State → Outcome → State → Prop} {XC : String → State → State → Prop} {mc ms : Nat} {free : Addr → Prop} {cc : ByteArray} {maxL : Nat} {ret : Option FieldType}
    (hy : plainName y.cls = true) (hw : ws = Cond.code y cc maxL ret :: ws')
    (body : ∀ p e s m args below meth c s₁, BodyLoose p l y (headSpec ws rm) cc maxL ret e s m args below meth c s₁ → c.maxLocals = maxL → (∀ x ∈ c.exceptionTable.toList, False) → Pc args s →
      W p l e (headSpec ws rm).room s m args below meth c s.heap [] 0 0 (vx_MQ below Qc XC args s mc ms free) (entryFrame m args maxL)) : vx_Met l y ws rm Pc Qc XC mc ms free := by
  refine MetFree.of_bodyS (code := cc) (maxLocals := maxL) (ret := ret) hy ?_ ?_
  · intro args s m h hn
    obtain ⟨meth, c, h1, h2, h3, h4, h5, h6, -, -⟩ := Cond.code_spec hn (atoms_spec (ws := ws) h _ (by rw [hw]; exact List.mem_cons_self))
    exact ⟨meth, c, h1, h2, h3, h4, h5, h6⟩
  · intro p e s m args below meth c s₁ B hml hP _
    have hh0 : s₁.heap = s.heap := by rw [B.state]; rfl
    have ht : ∀ x ∈ c.exceptionTable.toList, False := by
      obtain ⟨meth9, c9, h1, h2, -, -, -, -, h7, -⟩ := Cond.code_spec B.named (atoms_spec (ws := ws) B.pre _ (by rw [hw]; exact List.mem_cons_self))
      cases Option.some.inj (h1.symm.trans B.method)
      cases Option.some.inj (h2.symm.trans (Stand.of_body B).code)
      intro x hx
      rw [Array.isEmpty_iff.mp h7] at hx
      cases hx
    obtain ⟨t, a1, o, b1, b2, b3⟩ := body p e s m args below meth c s₁ B hml ht hP s₁ hh0 (Stand.of_body B)
    exact ⟨t, o, a1, b1, b2, b3⟩
/-- the table of a body with handlers -/
theorem vx_table {p : Program} {x y : MethodName} {S : Spec} {cc bytes : ByteArray} {maxL maxL' : Nat} {ret ret' : Option FieldType} {e : Env} {s s₁ : State} {m : MethodId} {args : Array Value} {below : List Frame} {meth : Method} {c : Code} {hh : List (Nat × Nat × Nat × Nat)}
    (B : BodyLoose p l y S cc maxL ret e s m args below meth c s₁) (h : (Cond.codeWith y bytes maxL' ret' hh).before args s = true) : c.exceptionTable.toList = tableOf hh := by
  obtain ⟨m9, meth9, c9, hn9, h1, h2, -, -, h6, -⟩ := Cond.codeWith_spec h
  cases Option.some.inj (hn9.symm.trans B.named)
  cases Option.some.inj (h1.symm.trans B.method)
  cases Option.some.inj (h2.symm.trans (Stand.of_body B).code)
  rw [← h6, table_eq]
end Bodies
end VXA
/-! ===== END ===== -/
/-! ===== BEGIN a static call of a method with an exception table ===== -/
section VXS
variable {p : Program} {l : Launch} {e : Env} {R : Room} {s : State} {m : MethodId} {args : Array Value} {below : List Frame} {meth : Method} {c : Code} {T : State} {H : Heap} {locs : List Loc} {cells slots : Nat}
abbrev vx_CSW (R : Room) (s : State) (args : Array Value) (own : String) (index : Nat) (y : MethodName) (bytes : ByteArray) (maxL : Nat) (ret : Option FieldType) (hh : List (Nat × Nat × Nat × Nat)) (ws : List Cond) (rm : Room) (mc ms n : Nat) : Prop :=
  (rm.cells = mc ∧ rm.slots = ms ∧ rm.frames + 1 ≤ R.frames ∧ 8 + (maxL + 11) + rm.locals ≤ R.locals ∧ (∀ w ∈ ws, ∀ (a' : Array Value) (U : State), s.WarmedH U.vm → w.before a' U = true) ∧ Cond.codeWith y bytes maxL ret hh ∈ ws) ∧
  (Cond.codeWith y bytes maxL ret hh).before args s = true ∧ (Cond.initialized y.cls).before args s = true ∧ (y.cls ≠ "java/lang/invoke/MethodHandle" ∧ y.cls ≠ "java/lang/invoke/VarHandle") ∧
  (∀ sig, parseMethodDescriptor y.desc = some sig → n = sig.parameters.length) ∧ (Cond.methodLink own index y).before args s = true ∧ (Cond.static y).before args s = true
theorem vx_cwSW {own : String} {index maxL mc ms : Nat} {y : MethodName} {bytes : ByteArray} {ret : Option FieldType} {hh : List (Nat × Nat × Nat × Nat)} {Ts ws ws' : List Cond} {rm : Room} (n : Nat) (ht : ∀ w ∈ Ts, w.before args s = true) (hT : GoodIn Ts (va_wsS own index y ws)) (hw : ws = Cond.codeWith y bytes maxL ret hh :: ws') (hrc : rm.cells = mc) (hrs : rm.slots = ms)
    (hd : y.cls ≠ "java/lang/invoke/MethodHandle" ∧ y.cls ≠ "java/lang/invoke/VarHandle" ∧ (parseMethodDescriptor y.desc).map (fun d => d.parameters.length) = some n) (hR : rm.frames + 1 ≤ R.frames ∧ 8 + (maxL + 11) + rm.locals ≤ R.locals) :
    vx_CSW R s args own index y bytes maxL ret hh ws rm mc ms n := by
  have ok : ∀ w ∈ va_wsS own index y ws, w.before args s = true := fun w h => ht w (hT w h).1
  have hG : GoodIn Ts ws := fun w h => hT w (by unfold va_wsS; exact List.mem_append_right _ h)
  have hc : Cond.codeWith y bytes maxL ret hh ∈ ws := by rw [hw]; exact List.mem_cons_self
  refine ⟨⟨hrc, hrs, hR.1, hR.2, pay_in ht hG, hc⟩, ht _ (hG _ hc).1, ok _ (by simp [va_wsS]), ⟨hd.1, hd.2.1⟩, fun sig h => ?_, ok _ (by simp [va_wsS]), ok _ (by simp [va_wsS])⟩
  have h2 := hd.2.2
  rw [h] at h2
  exact (Option.some.inj h2).symm
theorem vx_callSW (X : Stand p l e R s m args below meth c T locs cells slots) (hexec : p.tables.exec = Jvm.exec) {own : String} {index : Nat} {y : MethodName} {bytes : ByteArray} {maxL : Nat} {ret : Option FieldType} {hh : List (Nat × Nat × Nat × Nat)}
    (hown : s.vm.findClass own = some m.cls) (hlink : (Cond.methodLink own index y).before args s = true) (hstat : (Cond.static y).before args s = true) (hinit : (Cond.initialized y.cls).before args s = true)
    (hcode : (Cond.codeWith y bytes maxL ret hh).before args s = true) (hy : y.cls ≠ "java/lang/invoke/MethodHandle" ∧ y.cls ≠ "java/lang/invoke/VarHandle")
    {W9 : Nat} {Pre : Pt → Array Value → Prop} {Post : Pt → Array Value → Option Value → Pt → Prop} (hK : Back l R p e below s args y 3 W9 Pre Post)
    {g : JFrame} (hg : g.method = m) (hsize : g.locals.size = c.maxLocals) {argsL rest : List Value} (hlen : ∀ sig, parseMethodDescriptor y.desc = some sig → argsL.length = sig.parameters.length)
    (hstack : g.stack = argsL.reverse ++ rest) (hW : 2 * g.monitorRoom + (rest.map fun v => v.category).sum ≤ W9) (hdg : decode c.code g.pc = .ok (.invokestatic index, 3))
    (hpre : ∀ vm₁, s.WarmedH vm₁ → Pre ⟨T.setVm vm₁, locs, cells, slots⟩ argsL.toArray) :
    ∃ (v : Option Value) (vm₁ : Vm) (B : Pt), s.WarmedH vm₁ ∧ Stand p l e R s m args below meth c B.U B.locs B.cells B.slots ∧ Post ⟨T.setVm vm₁, locs, cells, slots⟩ argsL.toArray v B ∧
      ∀ target, Steps p.tables e below (B.U.setTop { g with pc := g.pc + 3, stack := v.toList ++ rest }) target → Steps p.tables e below (T.setTop g) target := by
  obtain ⟨mk, methM, cM, hnamed, hmethM, -, -, -, -, -, -, hsigM⟩ := Cond.codeWith_spec hcode
  have hstatic : methM.isStatic = true := Cond.static_spec hnamed hmethM hstat
  obtain ⟨kP, hkP, -⟩ := className_of_methodNamed hnamed
  have hinitP : kP.init = .initialized := Cond.initialized_spec (findClass_of_methodNamed hnamed) hkP hinit
  obtain ⟨vm₁, X₁, hstep₁⟩ := X.invokestatic hexec hown hlink hnamed hmethM hstatic hkP hinitP hy (g := g) hg (argsL := argsL) (rest := rest) (hlen _ hsigM) hstack hdg
  obtain ⟨v, B, X', hpost, hsteps⟩ := hK m meth c ⟨T.setVm vm₁, locs, cells, slots⟩ { g with stack := rest } (.invokestatic index) mk argsL.toArray X₁ hg hsize hdg hW (X₁.named hnamed) (hpre vm₁ X₁.warmed)
  exact ⟨v, vm₁, B, X₁.warmed, X', hpost, fun target h => hstep₁ _ fun acts => by rw [doInvoke_state]; exact hsteps.trans h⟩
theorem vx_runSW {y : MethodName} {bytes cc : ByteArray} {maxL nL mc ms n index : Nat} {ret : Option FieldType} {hh : List (Nat × Nat × Nat × Nat)} {ws : List Cond} {rm : Room} {Pc : Array Value → State → Prop} {Qc : Array Value → State → Outcome → State → Prop} {free : Addr → Prop} {Ts : List Cond} {own : String} {As rest : List Value} {g : JFrame}
    (S : CallFix p m c cc nL s args Ts own) (hM : Met l y ws rm Pc Qc mc ms free) (cw : vx_CSW R s args own index y bytes maxL ret hh ws rm mc ms n) (hp : PreS s H Pc As)
    (hg : g.method = m) (hn : As.length = n) (hsize : g.locals.size = nL) (hstack : g.stack = As.reverse ++ rest) (hW : 2 * g.monitorRoom + (rest.map fun v => v.category).sum ≤ 8) (hdg : decode cc g.pc = .ok (.invokestatic index, 3)) (hf : cells + mc ≤ R.cells ∧ slots + ms ≤ R.slots) :
    va_Run p l e R s m args below meth c H locs cells slots mc ms g rest (Qc As.toArray) (free) := by
  obtain ⟨⟨hrc, hrs, hfr, hlo, hws, hcw⟩, hcode, hini, hy, hlen, hl, hstt⟩ := cw
  have hK : Back l R p e below s args y 3 8 (PreOf R mc ms Pc) (PostOf Qc mc ms free) := va_backW (hh := hh) (bytes := bytes) (maxL := maxL) (ret := ret) hM hp.1 hrc hrs hfr hlo hws hcw (fun a' U hW => word_at hW (Or.inl (by first | rfl | simp [Cond.onTables, Cond.keeps, Cond.steady])) hini)
  obtain ⟨hx, hb, hml, ho, -⟩ := S
  intro T hT X
  obtain ⟨v, vm₁, ⟨U', l2, c2, s2⟩, hW₁, X', ⟨g', mk, t, L, e1, e2, hq, h1, hL, h2, h3⟩, st⟩ := vx_callSW X hx (hh := hh) (bytes := bytes) (maxL := maxL) (ret := ret) ho hl hstt hini hcode hy hK hg (hsize.trans hml.symm) (argsL := As) (rest := rest) (fun sig h => hn.trans (hlen sig h)) hstack hW (by rw [hb]; exact hdg)
    (fun vm₁ hW₁ => ⟨hf.1, hf.2, hp.2 (T.setVm vm₁) hT hW₁⟩)
  dsimp only [Pt.U, Pt.locs, Pt.cells, Pt.slots] at X' e1 e2 h1 h2 h3 st
  subst h1; subst h2; subst h3
  exact ⟨v, (T.setVm vm₁).calling g' mk As.toArray, t, U', L, hT, X', hL, e1, e2, hq, st⟩
/-- not caught here, past rows that name other classes: it goes on to the caller -/
theorem vx_outP {p : Program} {l : Launch} {e : Env} {R : Room} {s : State} {m : MethodId} {args : Array Value} {below : List Frame} {meth : Method} {c : Code} {H : Heap} {locs : List Loc} {cells slots : Nat} {free : Addr → Prop} {ls : Array Slot} {rest : List Value} {Qc : Array Value → State → Outcome → State → Prop} {XC : String → State → State → Prop}
    {pc : Nat} {own E : String} {ce : Cell} {q : Addr} {mc ms : Nat} (hown : s.vm.findClass own = some m.cls) (hlocks : meth.locks = false)
    (hpass : ∀ z ∈ c.exceptionTable.toList, covers z pc = false ∨ (z.catchType ≠ 0 ∧ ∃ nm : String, (Cond.classLink own z.catchType nm).before args s = true ∧ va_Nc E nm s)) (hcell : H[q]? = some ce) (hv : ce.vm = .none) (hcl : s.vm.findClass E = some ce.cls)
    (hx : ∀ t : State, t.heap = H → s.vm.Alike t.vm → XC E s t) (hf : ∀ z ∈ locs, free z.base) (hc : cells ≤ mc) (hs : slots ≤ ms) :
    vx_W p l e R s m args below meth c H locs cells slots (vx_MQ below Qc XC args s mc ms free) (F0 m pc ls rest) q := by
  intro T hT X
  have hpl : e.platform.magicAccessors = ({} : Platform).magicAccessors := by rw [X.admits.platform]
  obtain ⟨vm', hW', X', st⟩ := X.outThrough hlocks q (g := F0 m pc ls rest) rfl rfl rfl (cell := ce) (by rw [hT]; exact hcell) (by rw [hv]; rfl)
    (by obtain ⟨k9, h9, -⟩ := Vm.findClass_spec hcl; exact ⟨k9, h9⟩) (fun z hz => by
      rcases hpass z hz with h | ⟨hz0, nm, hl1, hn1⟩
      · exact Or.inl h
      · obtain ⟨c6, hc6, hcl6⟩ := Cond.classLink_spec hown hl1 e.platform hpl
        obtain ⟨a8, b8, h1, h2, h3⟩ := hn1
        cases Option.some.inj (h1.symm.trans hcl)
        cases Option.some.inj (h2.symm.trans hc6)
        exact Or.inr ⟨hz0, _, hcl6, h3⟩)
  obtain ⟨g₀, hfr⟩ := X'.frames_eq
  have hcell9 : ((T.setVm vm').setFrames (.throwing q :: below)).heap[q]? = some ce := by
    show T.heap[q]? = some ce
    rw [hT]; exact hcell
  have hend : Ended ((T.setVm vm').setFrames (.throwing q :: below)) below (.threw q) := State.frames_setFrames _ (State.cur_lt_of_frames hfr)
  refine ⟨(T.setVm vm').setFrames (.throwing q :: below), ?_, .threw q, X'.here.running, hend, Or.inr ⟨q, rfl, E, ce, locs, hx _ hT (X'.ends _).1.alike, hcell9, hv, hcl, (X'.ends _).1, (X'.ends _).2.mono hc hs, hf⟩⟩
  rw [X.pushThrowing_eq]
  exact st
/-- a thing of a world lies in the heap -/
theorem vx_lt {D : va_G} {cl : List vw_C} {ws : va_W} {H1 : Heap} (h : va_P D cl ws H1) {k : Nat} {q : Nat × va_E} (hk : ws[k]? = some q) : q.1 < H1.size := (h k q hk).lt
end VXS
/-! ===== END ===== -/
/-! ===== BEGIN methods with a table of their own: called by a name, returning or throwing ===== -/
section VXH
/-! vx_backW, vx_callVX, vx_callSX, vx_callVW, vx_runVW, vx_runVX, vx_runSX, vx_ofWH follow the same proofs as their sisters above (Free/Laws.lean, Shelf42/LK1.lean); vx_outP calls Shelf42/NT130.lean (outThrough). -/
section
variable {l : Launch} {R : Room} {p : Program} {e : Env} {below : List Frame} {s : State} {sargs : Array Value} {y : MethodName} {len W9 : Nat}
theorem vx_backW {ws : List Cond} {rm : Room} {Pc : Array Value → State → Prop} {Qc : Array Value → State → Outcome → State → Prop} {XC : String → State → State → Prop} {mc ms : Nat} {free : Addr → Prop} {bytes : ByteArray} {maxL : Nat} {ret : Option FieldType} {hh : List (Nat × Nat × Nat × Nat)}
    (hM : vx_Met l y ws rm Pc Qc XC mc ms free) (hblind : FrameBlind Pc) (hrc : rm.cells = mc) (hrs : rm.slots = ms)
    (hframes : rm.frames + 1 ≤ R.frames) (hlocals : W9 + (maxL + 11) + rm.locals ≤ R.locals)
    (hws : ∀ w ∈ ws, ∀ a' U, s.WarmedH U.vm → w.before a' U = true) (hcode : Cond.codeWith y bytes maxL ret hh ∈ ws) (hinit : ∀ a' U, s.WarmedH U.vm → (Cond.initialized y.cls).before a' U = true) :
    vx_Back l R p e below s sargs y len W9 (PreOf R mc ms Pc) (PostOf Qc mc ms free) (vx_Post XC mc ms free) := by
  intro m meth c A g ig mk a X hg hsize hdg hW hn hp
  have h1 : (headSpec ws rm).pre.before a A.U = true := atoms_intro fun w hw => hws w hw _ _ X.warmed
  have h2 : (Cond.codeWith y bytes maxL ret hh).before a A.U = true := hws _ hcode _ _ X.warmed
  have h3 : (Cond.initialized y.cls).before a A.U = true := hinit _ _ X.warmed
  have h4 : A.cells + (headSpec ws rm).room.cells ≤ R.cells := by rw [show (headSpec ws rm).room.cells = mc from hrc]; exact hp.1
  have h5 : A.slots + (headSpec ws rm).room.slots ≤ R.slots := by rw [show (headSpec ws rm).room.slots = ms from hrs]; exact hp.2.1
  have hPc : Pc a (A.U.calling g mk a) := hblind _ _ _ _ hp.2.2
  obtain ⟨U, Ls, c0, s0⟩ := A
  dsimp only [Pt.U, Pt.locs, Pt.cells, Pt.slots] at h1 h2 h3 h4 h5 X hn hPc ⊢
  obtain ⟨m9, methY, cY, hn9, hmY, hcY, -, hlY, -⟩ := Cond.codeWith_spec h2
  cases Option.some.inj (hn9.symm.trans hn)
  obtain ⟨kY, hkY, -⟩ := className_of_methodNamed hn
  have hinitY : kY.init = .initialized := Cond.initialized_spec (findClass_of_methodNamed hn) hkY h3
  have h : At U g.method c below := by rw [hg]; exact X.here
  have hlocals9 : W9 + (maxL + 11) + (headSpec ws rm).room.locals ≤ R.locals := hlocals
  have happ : (headSpec ws rm).appliesLoose y e.platform (U.calling g mk a) = true :=
    Spec.appliesLoose_calling (g := g) h hdg hn hkY hinitY
      (X.room_calling (g := g) (R' := (headSpec ws rm).room) hsize hmY hcY hframes (by rw [hlY]; omega) h4 h5) h1
  obtain ⟨mid, hmid⟩ := h.above
  have hfr : (U.setTop g).frames = (.java g :: mid) ++ below := by rw [State.frames_setTop' g h.top, hmid]; rfl
  obtain ⟨o, s₂, hsteps, -, hend, hq⟩ := Steps.callFree hM p X.admits X.cas X.clock (acts := []) hfr happ hPc trivial
  have hq' : vx_Q Qc XC mc ms free a (U.calling g mk a) o s₂ := hq
  rw [State.frames_setTop' g h.top] at hend
  obtain ⟨g₀, hg0⟩ := Option.isSome_iff_exists.mp h.top
  obtain ⟨r, hr⟩ := State.topJava?_eq_some.mp hg0
  have hr' : (({ U with heap := s₂.heap, slotsUsed := s₂.slotsUsed } : State).setVm s₂.vm).frames = .java g₀ :: r := hr
  rcases hq' with ⟨hqc, L, hfe, hL⟩ | ⟨q, rfl, E, ce, L, hx, hce, hcv, hcl, hW₂, hsm, hL⟩
  · obtain ⟨⟨v, rfl⟩, hW₂, e2, q2, q3, q4, q5, q6⟩ := id hfe
    have e3 : s₂ = ({ (U.calling g mk a).setFrames s₂.frames with heap := s₂.heap, slotsUsed := s₂.slotsUsed } : State).setVm s₂.vm := by
      have : s₂ = ({ s₂ with vm := (U.calling g mk a).vm } : State).setVm s₂.vm := rfl
      rw [e2] at this
      exact this
    obtain ⟨c₂, i₂, len₂, hc₂, hd₂, hf₂⟩ := hend
    have hW' : U.WarmedH s₂.vm := hW₂
    have hcc : c₂ = c := by
      have h1 : s₂.code? g.method = U.code? g.method := by
        rw [State.code?_eq, State.code?_eq, hW'.alike.method?]
      exact Option.some.inj (hc₂.symm.trans (h1.trans h.code))
    subst hcc
    have hlen : len₂ = len := by rw [hdg] at hd₂; cases hd₂; rfl
    subst hlen
    have hs₂ : s₂ = (({ U with heap := s₂.heap, slotsUsed := s₂.slotsUsed } : State).setVm s₂.vm).setTop { g with pc := g.pc + len₂, stack := v.toList ++ g.stack } := by
      refine e3.trans ?_
      rw [hf₂, State.calling_eq h.top, State.setFrames_setFrames, State.setTop_of_frames _ hr', hr]
      rfl
    have hsame : U.sameButNew ({ U with heap := s₂.heap, slotsUsed := s₂.slotsUsed } : State) L mc ms := by
      refine ⟨?_, q2, q3, q4, q5, q6⟩
      obtain ⟨t, ht, -⟩ := State.frames_cons hr
      show ({ U with heap := s₂.heap, slotsUsed := s₂.slotsUsed } : State) = { U.setFrames U.frames with heap := s₂.heap, slotsUsed := s₂.slotsUsed }
      rw [State.setFrames_self ht]
    subst hg
    refine Or.inl ⟨v, ⟨(({ U with heap := s₂.heap, slotsUsed := s₂.slotsUsed } : State).setVm s₂.vm), Ls ++ L, c0 + mc, s0 + ms⟩,
      ⟨X.admits, X.cas, X.clock, X.frames, X.room, X.hears, X.method, X.code, (X.here.setHeapUsed s₂.heap s₂.slotsUsed).setVm hW'.alike, X.tail, State.WarmedH.trans X.warmed hW', X.limits, X.bytes, X.same.trans (hsame.setVm s.vm)⟩,
      ⟨g, mk, s₂, L, rfl, rfl, hqc, rfl, hL, rfl, rfl⟩, ?_⟩
    show Steps p.tables e below _ ((({ U with heap := s₂.heap, slotsUsed := s₂.slotsUsed } : State).setVm s₂.vm).setTop { g with pc := g.pc + len₂, stack := v.toList ++ g.stack })
    rw [← hs₂]
    exact hsteps
  · obtain ⟨e2, q2, q3, q4, q5, q6⟩ := id hsm
    have e3 : s₂ = ({ (U.calling g mk a).setFrames s₂.frames with heap := s₂.heap, slotsUsed := s₂.slotsUsed } : State).setVm s₂.vm := by
      have : s₂ = ({ s₂ with vm := (U.calling g mk a).vm } : State).setVm s₂.vm := rfl
      rw [e2] at this
      exact this
    have hf₂ : s₂.frames = .throwing q :: .java g :: U.frames.tail := hend
    have hW' : U.WarmedH s₂.vm := hW₂
    have hs₂ : s₂ = ((({ U with heap := s₂.heap, slotsUsed := s₂.slotsUsed } : State).setVm s₂.vm).setTop g).pushFrame (.throwing q) := by
      refine e3.trans ?_
      rw [hf₂, State.calling_eq h.top, State.setFrames_setFrames, State.pushFrame, State.frames_setTop _ hr', State.setTop_of_frames _ hr', State.setFrames_setFrames, hr]
      rfl
    have hsame : U.sameButNew ({ U with heap := s₂.heap, slotsUsed := s₂.slotsUsed } : State) L mc ms := by
      refine ⟨?_, q2, q3, q4, q5, q6⟩
      obtain ⟨t, ht, -⟩ := State.frames_cons hr
      show ({ U with heap := s₂.heap, slotsUsed := s₂.slotsUsed } : State) = { U.setFrames U.frames with heap := s₂.heap, slotsUsed := s₂.slotsUsed }
      rw [State.setFrames_self ht]
    subst hg
    refine Or.inr ⟨q, ⟨(({ U with heap := s₂.heap, slotsUsed := s₂.slotsUsed } : State).setVm s₂.vm), Ls ++ L, c0 + mc, s0 + ms⟩,
      ⟨X.admits, X.cas, X.clock, X.frames, X.room, X.hears, X.method, X.code, (X.here.setHeapUsed s₂.heap s₂.slotsUsed).setVm hW'.alike, X.tail, State.WarmedH.trans X.warmed hW', X.limits, X.bytes, X.same.trans (hsame.setVm s.vm)⟩,
      ⟨g, mk, s₂, L, E, ce, rfl, rfl, hx, hce, hcv, hcl, rfl, hL, rfl, rfl⟩, ?_⟩
    show Steps p.tables e below _ (((({ U with heap := s₂.heap, slotsUsed := s₂.slotsUsed } : State).setVm s₂.vm).setTop g).pushFrame (.throwing q))
    rw [← hs₂]
    exact hsteps
end
variable {p : Program} {l : Launch} {e : Env} {R : Room} {s : State} {m : MethodId} {args : Array Value} {below : List Frame} {meth : Method} {c : Code} {T : State} {H : Heap} {locs : List Loc} {cells slots : Nat}
theorem vx_callVX (X : Stand p l e R s m args below meth c T locs cells slots) (hexec : p.tables.exec = Jvm.exec) {own C : String} {index : Nat} {y : MethodName} {bytes : ByteArray} {maxL : Nat} {ret : Option FieldType} {hh : List (Nat × Nat × Nat × Nat)}
    (hown : s.vm.findClass own = some m.cls) (hlink : (Cond.methodLink own index y).before args s = true) (hinst : (Cond.instanceMethod y).before args s = true) (hsel : (Cond.selects C y y).before args s = true)
    (hcode : (Cond.codeWith y bytes maxL ret hh).before args s = true) (hy : y.cls ≠ "java/lang/invoke/MethodHandle" ∧ y.cls ≠ "java/lang/invoke/VarHandle")
    {W9 : Nat} {Pre : Pt → Array Value → Prop} {Post : Pt → Array Value → Option Value → Pt → Prop} {PostX : Pt → Array Value → Addr → Pt → Prop} (hK : vx_Back l R p e below s args y 3 W9 Pre Post PostX)
    {b : Addr} {cellB : Cell} (hcell : T.heap[b]? = some cellB) (hobj : cellB.vm.isStatics = false) (hcls : s.vm.findClass C = some cellB.cls)
    {g : JFrame} (hg : g.method = m) (hsize : g.locals.size = c.maxLocals) {argsL rest : List Value} (hlen : ∀ sig, parseMethodDescriptor y.desc = some sig → argsL.length = sig.parameters.length)
    (hstack : g.stack = argsL.reverse ++ .ref b :: rest) (hW : 2 * g.monitorRoom + (rest.map fun v => v.category).sum ≤ W9) (hdg : decode c.code g.pc = .ok (.invokevirtual index, 3))
    (hpre : ∀ vm₁, s.WarmedH vm₁ → Pre ⟨T.setVm vm₁, locs, cells, slots⟩ (Value.ref b :: argsL).toArray) :
    (∃ (v : Option Value) (vm₁ : Vm) (B : Pt), s.WarmedH vm₁ ∧ Stand p l e R s m args below meth c B.U B.locs B.cells B.slots ∧ Post ⟨T.setVm vm₁, locs, cells, slots⟩ (Value.ref b :: argsL).toArray v B ∧
      ∀ target, Steps p.tables e below (B.U.setTop { g with pc := g.pc + 3, stack := v.toList ++ rest }) target → Steps p.tables e below (T.setTop g) target) ∨
    (∃ (q : Addr) (vm₁ : Vm) (B : Pt), s.WarmedH vm₁ ∧ Stand p l e R s m args below meth c B.U B.locs B.cells B.slots ∧ PostX ⟨T.setVm vm₁, locs, cells, slots⟩ (Value.ref b :: argsL).toArray q B ∧
      Steps p.tables e below (T.setTop g) ((B.U.setTop { g with stack := rest }).pushFrame (.throwing q))) := by
  obtain ⟨mk, methM, hnamed, hmethM, hstM, habM⟩ := Cond.instanceMethod_spec hinst
  obtain ⟨m8, methM', cM, hn8, hmethM', -, -, -, -, -, -, hsigM⟩ := Cond.codeWith_spec hcode
  cases Option.some.inj (hn8.symm.trans hnamed)
  cases hmethM.symm.trans hmethM'
  obtain ⟨c2, r2, m2, q1, q2, q3, q4, kP, hkP, hkPi⟩ := Cond.selects_spec hsel
  cases hcls.symm.trans q1
  cases (State.methodFound?_of_named hnamed hy).symm.trans q2
  cases hnamed.symm.trans q3
  have hselP : selectMethod e.platform s.vm cellB.cls mk = .method mk := by rw [Launch.admits_selectMethod X.admits]; exact q4
  obtain ⟨vm₁, X₁, hstep₁⟩ := X.invokevirtual hexec hown hlink hnamed hmethM hstM hkP hkPi hy (a := b) (cell := cellB) hcell
    (fun z h => by rw [h] at hobj; cases hobj) hselP hmethM habM hkP hkPi (g := g) hg (argsL := argsL) (rest := rest) (hlen _ hsigM) hstack hdg
  rcases hK m meth c ⟨T.setVm vm₁, locs, cells, slots⟩ { g with stack := rest } (.invokevirtual index) mk (Value.ref b :: argsL).toArray X₁ hg hsize hdg hW (X₁.named hnamed) (hpre vm₁ X₁.warmed) with ⟨v, B, X', hpost, hsteps⟩ | ⟨q, B, X', hpost, hsteps⟩
  · exact Or.inl ⟨v, vm₁, B, X₁.warmed, X', hpost, fun target h => hstep₁ _ fun acts => by rw [doInvoke_state]; exact hsteps.trans h⟩
  · exact Or.inr ⟨q, vm₁, B, X₁.warmed, X', hpost, hstep₁ _ fun acts => by rw [doInvoke_state]; exact hsteps⟩
theorem vx_callSX (X : Stand p l e R s m args below meth c T locs cells slots) (hexec : p.tables.exec = Jvm.exec) {own : String} {index : Nat} {y : MethodName} {bytes : ByteArray} {maxL : Nat} {ret : Option FieldType} {hh : List (Nat × Nat × Nat × Nat)}
    (hown : s.vm.findClass own = some m.cls) (hlink : (Cond.methodLink own index y).before args s = true) (hstat : (Cond.static y).before args s = true) (hinit : (Cond.initialized y.cls).before args s = true)
    (hcode : (Cond.codeWith y bytes maxL ret hh).before args s = true) (hy : y.cls ≠ "java/lang/invoke/MethodHandle" ∧ y.cls ≠ "java/lang/invoke/VarHandle")
    {W9 : Nat} {Pre : Pt → Array Value → Prop} {Post : Pt → Array Value → Option Value → Pt → Prop} {PostX : Pt → Array Value → Addr → Pt → Prop} (hK : vx_Back l R p e below s args y 3 W9 Pre Post PostX)
    {g : JFrame} (hg : g.method = m) (hsize : g.locals.size = c.maxLocals) {argsL rest : List Value} (hlen : ∀ sig, parseMethodDescriptor y.desc = some sig → argsL.length = sig.parameters.length)
    (hstack : g.stack = argsL.reverse ++ rest) (hW : 2 * g.monitorRoom + (rest.map fun v => v.category).sum ≤ W9) (hdg : decode c.code g.pc = .ok (.invokestatic index, 3))
    (hpre : ∀ vm₁, s.WarmedH vm₁ → Pre ⟨T.setVm vm₁, locs, cells, slots⟩ argsL.toArray) :
    (∃ (v : Option Value) (vm₁ : Vm) (B : Pt), s.WarmedH vm₁ ∧ Stand p l e R s m args below meth c B.U B.locs B.cells B.slots ∧ Post ⟨T.setVm vm₁, locs, cells, slots⟩ argsL.toArray v B ∧
      ∀ target, Steps p.tables e below (B.U.setTop { g with pc := g.pc + 3, stack := v.toList ++ rest }) target → Steps p.tables e below (T.setTop g) target) ∨
    (∃ (q : Addr) (vm₁ : Vm) (B : Pt), s.WarmedH vm₁ ∧ Stand p l e R s m args below meth c B.U B.locs B.cells B.slots ∧ PostX ⟨T.setVm vm₁, locs, cells, slots⟩ argsL.toArray q B ∧
      Steps p.tables e below (T.setTop g) ((B.U.setTop { g with stack := rest }).pushFrame (.throwing q))) := by
  obtain ⟨mk, methM, cM, hnamed, hmethM, -, -, -, -, -, -, hsigM⟩ := Cond.codeWith_spec hcode
  have hstatic : methM.isStatic = true := Cond.static_spec hnamed hmethM hstat
  obtain ⟨kP, hkP, -⟩ := className_of_methodNamed hnamed
  have hinitP : kP.init = .initialized := Cond.initialized_spec (findClass_of_methodNamed hnamed) hkP hinit
  obtain ⟨vm₁, X₁, hstep₁⟩ := X.invokestatic hexec hown hlink hnamed hmethM hstatic hkP hinitP hy (g := g) hg (argsL := argsL) (rest := rest) (hlen _ hsigM) hstack hdg
  rcases hK m meth c ⟨T.setVm vm₁, locs, cells, slots⟩ { g with stack := rest } (.invokestatic index) mk argsL.toArray X₁ hg hsize hdg hW (X₁.named hnamed) (hpre vm₁ X₁.warmed) with ⟨v, B, X', hpost, hsteps⟩ | ⟨q, B, X', hpost, hsteps⟩
  · exact Or.inl ⟨v, vm₁, B, X₁.warmed, X', hpost, fun target h => hstep₁ _ fun acts => by rw [doInvoke_state]; exact hsteps.trans h⟩
  · exact Or.inr ⟨q, vm₁, B, X₁.warmed, X', hpost, hstep₁ _ fun acts => by rw [doInvoke_state]; exact hsteps⟩
theorem vx_callVW (X : Stand p l e R s m args below meth c T locs cells slots) (hexec : p.tables.exec = Jvm.exec) {own C : String} {index : Nat} {y : MethodName} {bytes : ByteArray} {maxL : Nat} {ret : Option FieldType} {hh : List (Nat × Nat × Nat × Nat)}
    (hown : s.vm.findClass own = some m.cls) (hlink : (Cond.methodLink own index y).before args s = true) (hinst : (Cond.instanceMethod y).before args s = true) (hsel : (Cond.selects C y y).before args s = true)
    (hcode : (Cond.codeWith y bytes maxL ret hh).before args s = true) (hy : y.cls ≠ "java/lang/invoke/MethodHandle" ∧ y.cls ≠ "java/lang/invoke/VarHandle")
    {W9 : Nat} {Pre : Pt → Array Value → Prop} {Post : Pt → Array Value → Option Value → Pt → Prop} (hK : Back l R p e below s args y 3 W9 Pre Post)
    {b : Addr} {cellB : Cell} (hcell : T.heap[b]? = some cellB) (hobj : cellB.vm.isStatics = false) (hcls : s.vm.findClass C = some cellB.cls)
    {g : JFrame} (hg : g.method = m) (hsize : g.locals.size = c.maxLocals) {argsL rest : List Value} (hlen : ∀ sig, parseMethodDescriptor y.desc = some sig → argsL.length = sig.parameters.length)
    (hstack : g.stack = argsL.reverse ++ .ref b :: rest) (hW : 2 * g.monitorRoom + (rest.map fun v => v.category).sum ≤ W9) (hdg : decode c.code g.pc = .ok (.invokevirtual index, 3))
    (hpre : ∀ vm₁, s.WarmedH vm₁ → Pre ⟨T.setVm vm₁, locs, cells, slots⟩ (Value.ref b :: argsL).toArray) :
    ∃ (v : Option Value) (vm₁ : Vm) (B : Pt), s.WarmedH vm₁ ∧ Stand p l e R s m args below meth c B.U B.locs B.cells B.slots ∧ Post ⟨T.setVm vm₁, locs, cells, slots⟩ (Value.ref b :: argsL).toArray v B ∧
      ∀ target, Steps p.tables e below (B.U.setTop { g with pc := g.pc + 3, stack := v.toList ++ rest }) target → Steps p.tables e below (T.setTop g) target := by
  obtain ⟨mk, methM, hnamed, hmethM, hstM, habM⟩ := Cond.instanceMethod_spec hinst
  obtain ⟨m8, methM', cM, hn8, hmethM', -, -, -, -, -, -, hsigM⟩ := Cond.codeWith_spec hcode
  cases Option.some.inj (hn8.symm.trans hnamed)
  cases hmethM.symm.trans hmethM'
  obtain ⟨c2, r2, m2, q1, q2, q3, q4, kP, hkP, hkPi⟩ := Cond.selects_spec hsel
  cases hcls.symm.trans q1
  cases (State.methodFound?_of_named hnamed hy).symm.trans q2
  cases hnamed.symm.trans q3
  have hselP : selectMethod e.platform s.vm cellB.cls mk = .method mk := by rw [Launch.admits_selectMethod X.admits]; exact q4
  obtain ⟨vm₁, X₁, hstep₁⟩ := X.invokevirtual hexec hown hlink hnamed hmethM hstM hkP hkPi hy (a := b) (cell := cellB) hcell
    (fun z h => by rw [h] at hobj; cases hobj) hselP hmethM habM hkP hkPi (g := g) hg (argsL := argsL) (rest := rest) (hlen _ hsigM) hstack hdg
  obtain ⟨v, B, X', hpost, hsteps⟩ := hK m meth c ⟨T.setVm vm₁, locs, cells, slots⟩ { g with stack := rest } (.invokevirtual index) mk (Value.ref b :: argsL).toArray X₁ hg hsize hdg hW (X₁.named hnamed) (hpre vm₁ X₁.warmed)
  exact ⟨v, vm₁, B, X₁.warmed, X', hpost, fun target h => hstep₁ _ fun acts => by rw [doInvoke_state]; exact hsteps.trans h⟩
abbrev vx_CVW (R : Room) (s : State) (args : Array Value) (own C : String) (index : Nat) (y : MethodName) (bytes : ByteArray) (maxL : Nat) (ret : Option FieldType) (hh : List (Nat × Nat × Nat × Nat)) (ws : List Cond) (rm : Room) (mc ms n : Nat) : Prop :=
  (rm.cells = mc ∧ rm.slots = ms ∧ rm.frames + 1 ≤ R.frames ∧ 8 + (maxL + 11) + rm.locals ≤ R.locals ∧ (∀ w ∈ ws, ∀ (a' : Array Value) (U : State), s.WarmedH U.vm → w.before a' U = true) ∧ Cond.codeWith y bytes maxL ret hh ∈ ws) ∧
  (Cond.codeWith y bytes maxL ret hh).before args s = true ∧ (Cond.initialized y.cls).before args s = true ∧ (y.cls ≠ "java/lang/invoke/MethodHandle" ∧ y.cls ≠ "java/lang/invoke/VarHandle") ∧
  (∀ sig, parseMethodDescriptor y.desc = some sig → n = sig.parameters.length) ∧ (Cond.methodLink own index y).before args s = true ∧ (Cond.instanceMethod y).before args s = true ∧ (Cond.selects C y y).before args s = true
theorem vx_cwVW {own C : String} {index maxL mc ms : Nat} {y : MethodName} {bytes : ByteArray} {ret : Option FieldType} {hh : List (Nat × Nat × Nat × Nat)} {Ts ws ws' : List Cond} {rm : Room} (n : Nat) (ht : ∀ w ∈ Ts, w.before args s = true) (hT : GoodIn Ts (wsV own index C y ws)) (hw : ws = Cond.codeWith y bytes maxL ret hh :: ws') (hrc : rm.cells = mc) (hrs : rm.slots = ms)
    (hd : y.cls = C ∧ y.cls ≠ "java/lang/invoke/MethodHandle" ∧ y.cls ≠ "java/lang/invoke/VarHandle" ∧ (parseMethodDescriptor y.desc).map (fun d => d.parameters.length) = some n) (hR : rm.frames + 1 ≤ R.frames ∧ 8 + (maxL + 11) + rm.locals ≤ R.locals) :
    vx_CVW R s args own C index y bytes maxL ret hh ws rm mc ms n := by
  obtain ⟨hC, hd⟩ := hd
  subst hC
  have ok : ∀ w ∈ wsV own index y.cls y ws, w.before args s = true := fun w h => ht w (hT w h).1
  have hG : GoodIn Ts ws := fun w h => hT w (by unfold wsV; exact List.mem_append_right _ h)
  have hc : Cond.codeWith y bytes maxL ret hh ∈ ws := by rw [hw]; exact List.mem_cons_self
  refine ⟨⟨hrc, hrs, hR.1, hR.2, pay_in ht hG, hc⟩, ht _ (hG _ hc).1, ok _ (by simp [wsV]), ⟨hd.1, hd.2.1⟩, fun sig h => ?_, ok _ (by simp [wsV]), ok _ (by simp [wsV]), ok _ (by simp [wsV])⟩
  have h2 := hd.2.2
  rw [h] at h2
  exact (Option.some.inj h2).symm
theorem vx_runVW {y : MethodName} {bytes cc : ByteArray} {maxL nL mc ms n index : Nat} {ret : Option FieldType} {hh : List (Nat × Nat × Nat × Nat)} {ws : List Cond} {rm : Room} {Pc : Array Value → State → Prop} {Qc : Array Value → State → Outcome → State → Prop} {free : Addr → Prop} {Ts : List Cond} {own C : String} {b : Addr} {As rest : List Value} {g : JFrame}
    (S : CallFix p m c cc nL s args Ts own) (hM : Met l y ws rm Pc Qc mc ms free) (cw : vx_CVW R s args own C index y bytes maxL ret hh ws rm mc ms n) (hp : PreV s H C b Pc As)
    (hg : g.method = m) (hn : As.length = n) (hsize : g.locals.size = nL) (hstack : g.stack = As.reverse ++ .ref b :: rest) (hW : 2 * g.monitorRoom + (rest.map fun v => v.category).sum ≤ 8) (hdg : decode cc g.pc = .ok (.invokevirtual index, 3)) (hf : cells + mc ≤ R.cells ∧ slots + ms ≤ R.slots) :
    va_Run p l e R s m args below meth c H locs cells slots mc ms g rest (Qc (Value.ref b :: As).toArray) free := by
  obtain ⟨⟨hrc, hrs, hfr, hlo, hws, hcw⟩, hcode, hini, hy, hlen, hl, hin, hse⟩ := cw
  have hK : Back l R p e below s args y 3 8 (PreOf R mc ms Pc) (PostOf Qc mc ms free) := va_backW (hh := hh) (bytes := bytes) (maxL := maxL) (ret := ret) hM hp.1 hrc hrs hfr hlo hws hcw (fun a' U hW => word_at hW (Or.inl (by first | rfl | simp [Cond.onTables, Cond.keeps, Cond.steady])) hini)
  obtain ⟨hx, hb, hml, ho, -⟩ := S
  obtain ⟨-, ⟨cellB, hcB, hoB, hclB⟩, hPc⟩ := hp
  intro T hT X
  obtain ⟨v, vm₁, ⟨U', l2, c2, s2⟩, hW₁, X', ⟨g', mk, t, L, e1, e2, hq, h1, hL, h2, h3⟩, st⟩ := vx_callVW X hx (C := C) (hh := hh) (bytes := bytes) (maxL := maxL) (ret := ret) ho hl hin hse hcode hy hK (by rw [hT]; exact hcB) hoB hclB hg (hsize.trans hml.symm) (argsL := As) (rest := rest) (fun sig h => hn.trans (hlen sig h)) hstack hW (by rw [hb]; exact hdg)
    (fun vm₁ hW₁ => ⟨hf.1, hf.2, hPc (T.setVm vm₁) hT hW₁⟩)
  dsimp only [Pt.U, Pt.locs, Pt.cells, Pt.slots] at X' e1 e2 h1 h2 h3 st
  subst h1; subst h2; subst h3
  exact ⟨v, (T.setVm vm₁).calling g' mk (Value.ref b :: As).toArray, t, U', L, hT, X', hL, e1, e2, hq, st⟩
section
variable {y : MethodName} {bytes cc : ByteArray} {maxL nL mc ms n index : Nat} {ret : Option FieldType} {ws : List Cond} {rm : Room} {Pc : Array Value → State → Prop} {Qc : Array Value → State → Outcome → State → Prop} {XC : String → State → State → Prop} {free : Addr → Prop} {Ts : List Cond} {own C : String} {b : Addr} {As rest : List Value} {g : JFrame}
theorem vx_runVX {hh : List (Nat × Nat × Nat × Nat)} (S : CallFix p m c cc nL s args Ts own) (hM : vx_Met l y ws rm Pc Qc XC mc ms free) (cw : vx_CVW R s args own C index y bytes maxL ret hh ws rm mc ms n) (hp : PreV s H C b Pc As)
    (hg : g.method = m) (hn : As.length = n) (hsize : g.locals.size = nL) (hstack : g.stack = As.reverse ++ .ref b :: rest) (hW : 2 * g.monitorRoom + (rest.map fun v => v.category).sum ≤ 8) (hdg : decode cc g.pc = .ok (.invokevirtual index, 3)) (hf : cells + mc ≤ R.cells ∧ slots + ms ≤ R.slots) :
    vx_Run p l e R s m args below meth c H locs cells slots mc ms g rest (Qc (Value.ref b :: As).toArray) XC free := by
  obtain ⟨⟨hrc, hrs, hfr, hlo, hws, hcw⟩, hcode, hini, hy, hlen, hl, hin, hse⟩ := cw
  have hK : vx_Back l R p e below s args y 3 8 (PreOf R mc ms Pc) (PostOf Qc mc ms free) (vx_Post XC mc ms free) := vx_backW (hh := hh) (bytes := bytes) (maxL := maxL) (ret := ret) hM hp.1 hrc hrs hfr hlo hws hcw (fun a' U hW => word_at hW (Or.inl (by first | rfl | simp [Cond.onTables, Cond.keeps, Cond.steady])) hini)
  obtain ⟨hx, hb, hml, ho, -⟩ := S
  obtain ⟨-, ⟨cellB, hcB, hoB, hclB⟩, hPc⟩ := hp
  intro T hT X
  rcases vx_callVX X hx (C := C) (hh := hh) (bytes := bytes) (maxL := maxL) (ret := ret) ho hl hin hse hcode hy hK (by rw [hT]; exact hcB) hoB hclB hg (hsize.trans hml.symm) (argsL := As) (rest := rest) (fun sig h => hn.trans (hlen sig h)) hstack hW (by rw [hb]; exact hdg)
    (fun vm₁ hW₁ => ⟨hf.1, hf.2, hPc (T.setVm vm₁) hT hW₁⟩) with ⟨v, vm₁, ⟨U', l2, c2, s2⟩, hW₁, X', ⟨g', mk, t, L, e1, e2, hq, h1, hL, h2, h3⟩, st⟩ | ⟨q, vm₁, ⟨U', l2, c2, s2⟩, hW₁, X', ⟨g', mk, t, L, E, ce, e1, e2, hq, hce, hcv, hcl, h1, hL, h2, h3⟩, st⟩
  · dsimp only [Pt.U, Pt.locs, Pt.cells, Pt.slots] at X' e1 e2 h1 h2 h3 st
    subst h1; subst h2; subst h3
    exact Or.inl ⟨v, (T.setVm vm₁).calling g' mk (Value.ref b :: As).toArray, t, U', L, hT, X', hL, e1, e2, hq, st⟩
  · dsimp only [Pt.U, Pt.locs, Pt.cells, Pt.slots] at X' e1 e2 h1 h2 h3 st hcl
    subst h1; subst h2; subst h3
    exact Or.inr ⟨q, (T.setVm vm₁).calling g' mk (Value.ref b :: As).toArray, t, U', L, E, ce, hT, X', hL, e1, e2, hq, hce, hcv, vx_cls hW₁ hcl, st⟩
theorem vx_runSX {hh : List (Nat × Nat × Nat × Nat)} (S : CallFix p m c cc nL s args Ts own) (hM : vx_Met l y ws rm Pc Qc XC mc ms free) (cw : vx_CSW R s args own index y bytes maxL ret hh ws rm mc ms n) (hp : PreS s H Pc As)
    (hg : g.method = m) (hn : As.length = n) (hsize : g.locals.size = nL) (hstack : g.stack = As.reverse ++ rest) (hW : 2 * g.monitorRoom + (rest.map fun v => v.category).sum ≤ 8) (hdg : decode cc g.pc = .ok (.invokestatic index, 3)) (hf : cells + mc ≤ R.cells ∧ slots + ms ≤ R.slots) :
    vx_Run p l e R s m args below meth c H locs cells slots mc ms g rest (Qc As.toArray) XC free := by
  obtain ⟨⟨hrc, hrs, hfr, hlo, hws, hcw⟩, hcode, hini, hy, hlen, hl, hstt⟩ := cw
  have hK : vx_Back l R p e below s args y 3 8 (PreOf R mc ms Pc) (PostOf Qc mc ms free) (vx_Post XC mc ms free) := vx_backW (hh := hh) (bytes := bytes) (maxL := maxL) (ret := ret) hM hp.1 hrc hrs hfr hlo hws hcw (fun a' U hW => word_at hW (Or.inl (by first | rfl | simp [Cond.onTables, Cond.keeps, Cond.steady])) hini)
  obtain ⟨hx, hb, hml, ho, -⟩ := S
  intro T hT X
  rcases vx_callSX X hx (hh := hh) (bytes := bytes) (maxL := maxL) (ret := ret) ho hl hstt hini hcode hy hK hg (hsize.trans hml.symm) (argsL := As) (rest := rest) (fun sig h => hn.trans (hlen sig h)) hstack hW (by rw [hb]; exact hdg)
    (fun vm₁ hW₁ => ⟨hf.1, hf.2, hp.2 (T.setVm vm₁) hT hW₁⟩) with ⟨v, vm₁, ⟨U', l2, c2, s2⟩, hW₁, X', ⟨g', mk, t, L, e1, e2, hq, h1, hL, h2, h3⟩, st⟩ | ⟨q, vm₁, ⟨U', l2, c2, s2⟩, hW₁, X', ⟨g', mk, t, L, E, ce, e1, e2, hq, hce, hcv, hcl, h1, hL, h2, h3⟩, st⟩
  · dsimp only [Pt.U, Pt.locs, Pt.cells, Pt.slots] at X' e1 e2 h1 h2 h3 st
    subst h1; subst h2; subst h3
    exact Or.inl ⟨v, (T.setVm vm₁).calling g' mk As.toArray, t, U', L, hT, X', hL, e1, e2, hq, st⟩
  · dsimp only [Pt.U, Pt.locs, Pt.cells, Pt.slots] at X' e1 e2 h1 h2 h3 st hcl
    subst h1; subst h2; subst h3
    exact Or.inr ⟨q, (T.setVm vm₁).calling g' mk As.toArray, t, U', L, E, ce, hT, X', hL, e1, e2, hq, hce, hcv, vx_cls hW₁ hcl, st⟩
end
end VXH
theorem vx_ofWH {l : Launch} {y : MethodName} {ws ws' : List Cond} {rm : Room} {Pc : Array Value → State → Prop} {Qc : Array Value → State → Outcome → State → Prop} {XC : String → State → State → Prop} {mc ms : Nat} {free : Addr → Prop} {cc : ByteArray} {maxL : Nat} {ret : Option FieldType} {hh : List (Nat × Nat × Nat × Nat)}
    (hy : plainName y.cls = true) (hw : ws = Cond.codeWith y cc maxL ret hh :: ws')
    (body : ∀ p e s m args below meth c s₁, BodyLoose p l y (headSpec ws rm) cc maxL ret e s m args below meth c s₁ → c.maxLocals = maxL → Pc args s →
      W p l e (headSpec ws rm).room s m args below meth c s.heap [] 0 0 (vx_MQ below Qc XC args s mc ms free) (entryFrame m args maxL)) : vx_Met l y ws rm Pc Qc XC mc ms free := by
  refine MetFree.of_bodyS (code := cc) (maxLocals := maxL) (ret := ret) hy ?_ ?_
  · intro args s m h hn
    obtain ⟨m9, meth, c, hn9, h1, h2, h3, h4, -, h5, h6, -⟩ := Cond.codeWith_spec (atoms_spec (ws := ws) h _ (by rw [hw]; exact List.mem_cons_self))
    cases hn.symm.trans hn9
    exact ⟨meth, c, h1, h2, h3, h4, h5, h6⟩
  · intro p e s m args below meth c s₁ B hml hP _
    have hh0 : s₁.heap = s.heap := by rw [B.state]; rfl
    obtain ⟨t, a1, o, b1, b2, b3⟩ := body p e s m args below meth c s₁ B hml hP s₁ hh0 (Stand.of_body B)
    exact ⟨t, o, a1, b1, b2, b3⟩
/-! ===== END ===== -/

/-! ===== BEGIN printed: names, fields, word lists, decode rows ===== -/
def RX0 : String := "MirrorLoom$CommandReader"
def TX0 : u_T := fun k => match k with
  | 0 => ("MirrorLoom$CommandReader", "text", "LMirrorLoom$CommandText;", true)
  | 1 => ("MirrorLoom$CommandReader", "numbers", "LMirrorLoom$Numbers;", true)
  | 2 => ("MirrorLoom$CommandReader", "word", "LMirrorLoom$Word;", false)
  | 3 => ("MirrorLoom$CommandReader", "position", "I", false)
  | _ => ("MirrorLoom$CommandReader", "fault", "I", false)
def tyX0 : Nat → FieldType := fun k => match k with
  | 0 => .object "MirrorLoom$CommandText"
  | 1 => .object "MirrorLoom$Numbers"
  | 2 => .object "MirrorLoom$Word"
  | 3 => .int
  | _ => .int
abbrev wsX00 : List Cond := u_ws RX0 TX0 5
theorem nmX0 : ∀ a, a < 5 → ∀ b, b < 5 → a ≠ b → (TX0 a).2.1 ≠ (TX0 b).2.1 := by decide +kernel
theorem tyX0_ok : ∀ k, k < 5 → parseFieldDescriptor (TX0 k).2.2.1 = some (tyX0 k) := by decide +kernel
abbrev cX0_init : ByteArray := prog_2_method_1_code
def yX0_init : MethodName := ⟨RX0, "<init>", "(LMirrorLoom$CommandText;)V"⟩
def RX1 : String := "MirrorLoom$CommandText"
def TX1 : u_T := fun k => match k with
  | 0 => ("MirrorLoom$CommandText", "bytes", "LMirrorLoom$Numbers;", true)
  | _ => ("MirrorLoom$CommandText", "length", "I", false)
def tyX1 : Nat → FieldType := fun k => match k with
  | 0 => .object "MirrorLoom$Numbers"
  | _ => .int
abbrev wsX10 : List Cond := u_ws RX1 TX1 2
theorem nmX1 : ∀ a, a < 2 → ∀ b, b < 2 → a ≠ b → (TX1 a).2.1 ≠ (TX1 b).2.1 := by decide +kernel
theorem tyX1_ok : ∀ k, k < 2 → parseFieldDescriptor (TX1 k).2.2.1 = some (tyX1 k) := by decide +kernel
abbrev cX1_init : ByteArray := prog_3_method_1_code
def yX1_init : MethodName := ⟨RX1, "<init>", "()V"⟩
def RX2 : String := "MirrorLoom$Grid"
def TX2 : u_T := fun k => match k with
  | _ => ("MirrorLoom$Grid", "values", "[I", true)
def tyX2 : Nat → FieldType := fun k => match k with
  | _ => .array .int
abbrev wsX20 : List Cond := u_ws RX2 TX2 1
theorem nmX2 : ∀ a, a < 1 → ∀ b, b < 1 → a ≠ b → (TX2 a).2.1 ≠ (TX2 b).2.1 := by decide +kernel
theorem tyX2_ok : ∀ k, k < 1 → parseFieldDescriptor (TX2 k).2.2.1 = some (tyX2 k) := by decide +kernel
abbrev cX2_init : ByteArray := prog_4_method_1_code
def yX2_init : MethodName := ⟨RX2, "<init>", "()V"⟩
abbrev cX2_at : ByteArray := prog_4_method_2_code
def yX2_at : MethodName := ⟨RX2, "at", "(II)I"⟩
abbrev cX2_put : ByteArray := prog_4_method_3_code
def yX2_put : MethodName := ⟨RX2, "put", "(III)V"⟩
abbrev cX2_putAll : ByteArray := prog_4_method_4_code
def yX2_putAll : MethodName := ⟨RX2, "putAll", "(I)V"⟩
abbrev cX2_copyFrom : ByteArray := prog_4_method_5_code
def yX2_copyFrom : MethodName := ⟨RX2, "copyFrom", "(LMirrorLoom$Grid;)V"⟩
abbrev cX2_startsRun : ByteArray := prog_4_method_6_code
def yX2_startsRun : MethodName := ⟨RX2, "startsRun", "(II)Z"⟩
abbrev cX2_runs : ByteArray := prog_4_method_7_code
def yX2_runs : MethodName := ⟨RX2, "runs", "(II)I"⟩
abbrev cX2_runsOf : ByteArray := prog_4_method_8_code
def yX2_runsOf : MethodName := ⟨RX2, "runsOf", "(III)I"⟩
abbrev cX2_cellsOf : ByteArray := prog_4_method_9_code
def yX2_cellsOf : MethodName := ⟨RX2, "cellsOf", "(III)I"⟩
abbrev cX2_unitsOf : ByteArray := prog_4_method_10_code
def yX2_unitsOf : MethodName := ⟨RX2, "unitsOf", "(III)I"⟩
def RX3 : String := "MirrorLoom$History"
def TX3 : u_T := fun k => match k with
  | 0 => ("MirrorLoom$History", "saved", "[LMirrorLoom$Loom;", true)
  | 1 => ("MirrorLoom$History", "count", "I", false)
  | _ => ("MirrorLoom$History", "next", "I", false)
def tyX3 : Nat → FieldType := fun k => match k with
  | 0 => .array (.object "MirrorLoom$Loom")
  | 1 => .int
  | _ => .int
abbrev wsX30 : List Cond := u_ws RX3 TX3 3
theorem nmX3 : ∀ a, a < 3 → ∀ b, b < 3 → a ≠ b → (TX3 a).2.1 ≠ (TX3 b).2.1 := by decide +kernel
theorem tyX3_ok : ∀ k, k < 3 → parseFieldDescriptor (TX3 k).2.2.1 = some (tyX3 k) := by decide +kernel
abbrev cX3_init : ByteArray := prog_5_method_1_code
def yX3_init : MethodName := ⟨RX3, "<init>", "()V"⟩
abbrev cX3_save : ByteArray := prog_5_method_2_code
def yX3_save : MethodName := ⟨RX3, "save", "(LMirrorLoom$Loom;)V"⟩
abbrev cX3_restore : ByteArray := prog_5_method_3_code
def yX3_restore : MethodName := ⟨RX3, "restore", "(LMirrorLoom$Loom;)I"⟩
abbrev cX3_roomAt : ByteArray := prog_5_method_4_code
def yX3_roomAt : MethodName := ⟨RX3, "roomAt", "(I)LMirrorLoom$Loom;"⟩
def RX4 : String := "MirrorLoom$Loom"
def TX4 : u_T := fun k => match k with
  | 0 => ("MirrorLoom$Loom", "columns", "I", false)
  | 1 => ("MirrorLoom$Loom", "rows", "I", false)
  | 2 => ("MirrorLoom$Loom", "wovenRows", "I", false)
  | 3 => ("MirrorLoom$Loom", "limit", "I", false)
  | 4 => ("MirrorLoom$Loom", "toleranceBits", "I", false)
  | 5 => ("MirrorLoom$Loom", "cartoon", "LMirrorLoom$Grid;", true)
  | 6 => ("MirrorLoom$Loom", "woven", "LMirrorLoom$Grid;", true)
  | 7 => ("MirrorLoom$Loom", "lotOfCell", "LMirrorLoom$Grid;", true)
  | 8 => ("MirrorLoom$Loom", "sewn", "LMirrorLoom$Grid;", true)
  | 9 => ("MirrorLoom$Loom", "mistakes", "LMirrorLoom$Numbers;", true)
  | _ => ("MirrorLoom$Loom", "lots", "LMirrorLoom$Lots;", true)
def tyX4 : Nat → FieldType := fun k => match k with
  | 0 => .int
  | 1 => .int
  | 2 => .int
  | 3 => .int
  | 4 => .int
  | 5 => .object "MirrorLoom$Grid"
  | 6 => .object "MirrorLoom$Grid"
  | 7 => .object "MirrorLoom$Grid"
  | 8 => .object "MirrorLoom$Grid"
  | 9 => .object "MirrorLoom$Numbers"
  | _ => .object "MirrorLoom$Lots"
abbrev wsX40 : List Cond := u_ws RX4 TX4 11
theorem nmX4 : ∀ a, a < 11 → ∀ b, b < 11 → a ≠ b → (TX4 a).2.1 ≠ (TX4 b).2.1 := by decide +kernel
theorem tyX4_ok : ∀ k, k < 11 → parseFieldDescriptor (TX4 k).2.2.1 = some (tyX4 k) := by decide +kernel
abbrev cX4_init : ByteArray := prog_6_method_1_code
def yX4_init : MethodName := ⟨RX4, "<init>", "()V"⟩
abbrev cX4_copyFrom : ByteArray := prog_6_method_2_code
def yX4_copyFrom : MethodName := ⟨RX4, "copyFrom", "(LMirrorLoom$Loom;)V"⟩
abbrev cX4_whyNotBegin : ByteArray := prog_6_method_3_code
def yX4_whyNotBegin : MethodName := ⟨RX4, "whyNotBegin", "(II)I"⟩
abbrev cX4_whyNotFill : ByteArray := prog_6_method_4_code
def yX4_whyNotFill : MethodName := ⟨RX4, "whyNotFill", "(IIIII)I"⟩
abbrev cX4_whyNotAddLot : ByteArray := prog_6_method_5_code
def yX4_whyNotAddLot : MethodName := ⟨RX4, "whyNotAddLot", "(III)I"⟩
abbrev cX4_whyNotLimit : ByteArray := prog_6_method_6_code
def yX4_whyNotLimit : MethodName := ⟨RX4, "whyNotLimit", "(I)I"⟩
abbrev cX4_whyNotPlant : ByteArray := prog_6_method_7_code
def yX4_whyNotPlant : MethodName := ⟨RX4, "whyNotPlant", "(II)I"⟩
abbrev cX4_whyNotWeave : ByteArray := prog_6_method_8_code
def yX4_whyNotWeave : MethodName := ⟨RX4, "whyNotWeave", "(I)I"⟩
abbrev cX4_whyNotUnweave : ByteArray := prog_6_method_9_code
def yX4_whyNotUnweave : MethodName := ⟨RX4, "whyNotUnweave", "(I)I"⟩
abbrev cX4_whyNotSew : ByteArray := prog_6_method_10_code
def yX4_whyNotSew : MethodName := ⟨RX4, "whyNotSew", "(I)I"⟩
abbrev cX4_takeCartoon : ByteArray := prog_6_method_11_code
def yX4_takeCartoon : MethodName := ⟨RX4, "takeCartoon", "(II)I"⟩
abbrev cX4_paint : ByteArray := prog_6_method_12_code
def yX4_paint : MethodName := ⟨RX4, "paint", "(IIIII)I"⟩
abbrev cX4_changeLimit : ByteArray := prog_6_method_14_code
def yX4_changeLimit : MethodName := ⟨RX4, "changeLimit", "(I)I"⟩
abbrev cX4_plantMistake : ByteArray := prog_6_method_15_code
def yX4_plantMistake : MethodName := ⟨RX4, "plantMistake", "(II)I"⟩
abbrev cX4_weaveRows : ByteArray := prog_6_method_16_code
def yX4_weaveRows : MethodName := ⟨RX4, "weaveRows", "(I)I"⟩
abbrev cX4_weaveNext : ByteArray := prog_6_method_17_code
def yX4_weaveNext : MethodName := ⟨RX4, "weaveNext", "()Z"⟩
abbrev cX4_layColors : ByteArray := prog_6_method_18_code
def yX4_layColors : MethodName := ⟨RX4, "layColors", "(I)V"⟩
abbrev cX4_hasYarnFor : ByteArray := prog_6_method_19_code
def yX4_hasYarnFor : MethodName := ⟨RX4, "hasYarnFor", "(I)Z"⟩
abbrev cX4_unweaveRows : ByteArray := prog_6_method_20_code
def yX4_unweaveRows : MethodName := ⟨RX4, "unweaveRows", "(I)I"⟩
abbrev cX4_sewSlit : ByteArray := prog_6_method_21_code
def yX4_sewSlit : MethodName := ⟨RX4, "sewSlit", "(I)I"⟩
abbrev cX4_forgetLostSlits : ByteArray := prog_6_method_22_code
def yX4_forgetLostSlits : MethodName := ⟨RX4, "forgetLostSlits", "()V"⟩
abbrev cX4_hasCell : ByteArray := prog_6_method_23_code
def yX4_hasCell : MethodName := ⟨RX4, "hasCell", "(II)Z"⟩
abbrev cX4_isWoven : ByteArray := prog_6_method_24_code
def yX4_isWoven : MethodName := ⟨RX4, "isWoven", "(I)Z"⟩
abbrev cX4_mirror : ByteArray := prog_6_method_25_code
def yX4_mirror : MethodName := ⟨RX4, "mirror", "(I)I"⟩
abbrev cX4_wovenColor : ByteArray := prog_6_method_26_code
def yX4_wovenColor : MethodName := ⟨RX4, "wovenColor", "(II)I"⟩
abbrev cX4_shadeAt : ByteArray := prog_6_method_27_code
def yX4_shadeAt : MethodName := ⟨RX4, "shadeAt", "(II)F"⟩
abbrev cX4_isWrong : ByteArray := prog_6_method_28_code
def yX4_isWrong : MethodName := ⟨RX4, "isWrong", "(II)Z"⟩
abbrev cX4_cellValue : ByteArray := prog_6_method_29_code
def yX4_cellValue : MethodName := ⟨RX4, "cellValue", "(III)I"⟩
abbrev cX4_rowValue : ByteArray := prog_6_method_30_code
def yX4_rowValue : MethodName := ⟨RX4, "rowValue", "(II)I"⟩
abbrev cX4_newShuttles : ByteArray := prog_6_method_31_code
def yX4_newShuttles : MethodName := ⟨RX4, "newShuttles", "(I)I"⟩
abbrev cX4_isNewRun : ByteArray := prog_6_method_32_code
def yX4_isNewRun : MethodName := ⟨RX4, "isNewRun", "(II)Z"⟩
abbrev cX4_wrongCells : ByteArray := prog_6_method_33_code
def yX4_wrongCells : MethodName := ⟨RX4, "wrongCells", "(I)I"⟩
abbrev cX4_lotsInRow : ByteArray := prog_6_method_34_code
def yX4_lotsInRow : MethodName := ⟨RX4, "lotsInRow", "(I)I"⟩
abbrev cX4_firstWrongRow : ByteArray := prog_6_method_35_code
def yX4_firstWrongRow : MethodName := ⟨RX4, "firstWrongRow", "()I"⟩
abbrev cX4_lotValue : ByteArray := prog_6_method_36_code
def yX4_lotValue : MethodName := ⟨RX4, "lotValue", "(II)I"⟩
abbrev cX4_colorValue : ByteArray := prog_6_method_37_code
def yX4_colorValue : MethodName := ⟨RX4, "colorValue", "(II)I"⟩
abbrev cX4_cellsIn : ByteArray := prog_6_method_38_code
def yX4_cellsIn : MethodName := ⟨RX4, "cellsIn", "(LMirrorLoom$Grid;II)I"⟩
abbrev cX4_wovenRuns : ByteArray := prog_6_method_39_code
def yX4_wovenRuns : MethodName := ⟨RX4, "wovenRuns", "(I)I"⟩
abbrev cX4_unitsToCome : ByteArray := prog_6_method_40_code
def yX4_unitsToCome : MethodName := ⟨RX4, "unitsToCome", "(I)I"⟩
abbrev cX4_possibleRows : ByteArray := prog_6_method_41_code
def yX4_possibleRows : MethodName := ⟨RX4, "possibleRows", "()I"⟩
abbrev cX4_rowsWithYarnOf : ByteArray := prog_6_method_42_code
def yX4_rowsWithYarnOf : MethodName := ⟨RX4, "rowsWithYarnOf", "(I)I"⟩
abbrev cX4_slitRows : ByteArray := prog_6_method_43_code
def yX4_slitRows : MethodName := ⟨RX4, "slitRows", "(II)I"⟩
abbrev cX4_parts : ByteArray := prog_6_method_44_code
def yX4_parts : MethodName := ⟨RX4, "parts", "(II)Z"⟩
abbrev cX4_slitCount : ByteArray := prog_6_method_45_code
def yX4_slitCount : MethodName := ⟨RX4, "slitCount", "(I)I"⟩
abbrev cX4_slitPlace : ByteArray := prog_6_method_46_code
def yX4_slitPlace : MethodName := ⟨RX4, "slitPlace", "(I)I"⟩
abbrev cX4_slitValue : ByteArray := prog_6_method_47_code
def yX4_slitValue : MethodName := ⟨RX4, "slitValue", "(III)I"⟩
abbrev cX4_isSewn : ByteArray := prog_6_method_48_code
def yX4_isSewn : MethodName := ⟨RX4, "isSewn", "(II)Z"⟩
abbrev cX4_sewnSlits : ByteArray := prog_6_method_49_code
def yX4_sewnSlits : MethodName := ⟨RX4, "sewnSlits", "()I"⟩
abbrev cX4_rowsOfSewnSlits : ByteArray := prog_6_method_50_code
def yX4_rowsOfSewnSlits : MethodName := ⟨RX4, "rowsOfSewnSlits", "()I"⟩
abbrev cX4_wholeValueOf : ByteArray := prog_6_method_51_code
def yX4_wholeValueOf : MethodName := ⟨RX4, "wholeValueOf", "(II)I"⟩
abbrev cX4_allWrongCells : ByteArray := prog_6_method_52_code
def yX4_allWrongCells : MethodName := ⟨RX4, "allWrongCells", "()I"⟩
abbrev cX4_mostShuttles : ByteArray := prog_6_method_53_code
def yX4_mostShuttles : MethodName := ⟨RX4, "mostShuttles", "()I"⟩
abbrev cX4_allNewShuttles : ByteArray := prog_6_method_54_code
def yX4_allNewShuttles : MethodName := ⟨RX4, "allNewShuttles", "()I"⟩
abbrev cX4_meanShadeOf : ByteArray := prog_6_method_55_code
def yX4_meanShadeOf : MethodName := ⟨RX4, "meanShadeOf", "(I)F"⟩
abbrev cX4_contrastOf : ByteArray := prog_6_method_56_code
def yX4_contrastOf : MethodName := ⟨RX4, "contrastOf", "(I)F"⟩
abbrev cX4_difference : ByteArray := prog_6_method_57_code
def yX4_difference : MethodName := ⟨RX4, "difference", "(IIII)F"⟩
abbrev cX4_isSeam : ByteArray := prog_6_method_58_code
def yX4_isSeam : MethodName := ⟨RX4, "isSeam", "(IIII)Z"⟩
abbrev cX4_gapsAbove : ByteArray := prog_6_method_59_code
def yX4_gapsAbove : MethodName := ⟨RX4, "gapsAbove", "(F)I"⟩
abbrev cX4_gap : ByteArray := prog_6_method_60_code
def yX4_gap : MethodName := ⟨RX4, "gap", "(IIII)F"⟩
abbrev cX4_widestGap : ByteArray := prog_6_method_61_code
def yX4_widestGap : MethodName := ⟨RX4, "widestGap", "()F"⟩
def RX5 : String := "MirrorLoom$Lots"
def TX5 : u_T := fun k => match k with
  | 0 => ("MirrorLoom$Lots", "count", "I", false)
  | 1 => ("MirrorLoom$Lots", "colors", "LMirrorLoom$Numbers;", true)
  | 2 => ("MirrorLoom$Lots", "lengths", "LMirrorLoom$Numbers;", true)
  | 3 => ("MirrorLoom$Lots", "left", "LMirrorLoom$Numbers;", true)
  | 4 => ("MirrorLoom$Lots", "shadeBits", "LMirrorLoom$Numbers;", true)
  | _ => ("MirrorLoom$Lots", "shades", "[F", true)
def tyX5 : Nat → FieldType := fun k => match k with
  | 0 => .int
  | 1 => .object "MirrorLoom$Numbers"
  | 2 => .object "MirrorLoom$Numbers"
  | 3 => .object "MirrorLoom$Numbers"
  | 4 => .object "MirrorLoom$Numbers"
  | _ => .array .float
abbrev wsX50 : List Cond := u_ws RX5 TX5 6
theorem nmX5 : ∀ a, a < 6 → ∀ b, b < 6 → a ≠ b → (TX5 a).2.1 ≠ (TX5 b).2.1 := by decide +kernel
theorem tyX5_ok : ∀ k, k < 6 → parseFieldDescriptor (TX5 k).2.2.1 = some (tyX5 k) := by decide +kernel
abbrev cX5_init : ByteArray := prog_7_method_1_code
def yX5_init : MethodName := ⟨RX5, "<init>", "()V"⟩
abbrev cX5_has : ByteArray := prog_7_method_2_code
def yX5_has : MethodName := ⟨RX5, "has", "(I)Z"⟩
abbrev cX5_include : ByteArray := prog_7_method_3_code
def yX5_include : MethodName := ⟨RX5, "include", "(III)I"⟩
abbrev cX5_shadeOf : ByteArray := prog_7_method_4_code
def yX5_shadeOf : MethodName := ⟨RX5, "shadeOf", "(I)F"⟩
abbrev cX5_putShade : ByteArray := prog_7_method_5_code
def yX5_putShade : MethodName := ⟨RX5, "putShade", "(IF)V"⟩
abbrev cX5_inUse : ByteArray := prog_7_method_6_code
def yX5_inUse : MethodName := ⟨RX5, "inUse", "(I)I"⟩
abbrev cX5_countOf : ByteArray := prog_7_method_7_code
def yX5_countOf : MethodName := ⟨RX5, "countOf", "(I)I"⟩
abbrev cX5_leftOf : ByteArray := prog_7_method_8_code
def yX5_leftOf : MethodName := ⟨RX5, "leftOf", "(I)I"⟩
abbrev cX5_take : ByteArray := prog_7_method_9_code
def yX5_take : MethodName := ⟨RX5, "take", "(I)I"⟩
abbrev cX5_giveBack : ByteArray := prog_7_method_10_code
def yX5_giveBack : MethodName := ⟨RX5, "giveBack", "(I)V"⟩
abbrev cX5_copyFrom : ByteArray := prog_7_method_11_code
def yX5_copyFrom : MethodName := ⟨RX5, "copyFrom", "(LMirrorLoom$Lots;)V"⟩
def RX6 : String := "MirrorLoom$Numbers"
def TX6 : u_T := fun k => match k with
  | _ => ("MirrorLoom$Numbers", "values", "[I", true)
def tyX6 : Nat → FieldType := fun k => match k with
  | _ => .array .int
abbrev wsX60 : List Cond := u_ws RX6 TX6 1
theorem nmX6 : ∀ a, a < 1 → ∀ b, b < 1 → a ≠ b → (TX6 a).2.1 ≠ (TX6 b).2.1 := by decide +kernel
theorem tyX6_ok : ∀ k, k < 1 → parseFieldDescriptor (TX6 k).2.2.1 = some (tyX6 k) := by decide +kernel
abbrev cX6_init : ByteArray := prog_8_method_1_code
def yX6_init : MethodName := ⟨RX6, "<init>", "(I)V"⟩
abbrev cX6_at : ByteArray := prog_8_method_2_code
def yX6_at : MethodName := ⟨RX6, "at", "(I)I"⟩
abbrev cX6_put : ByteArray := prog_8_method_3_code
def yX6_put : MethodName := ⟨RX6, "put", "(II)V"⟩
abbrev cX6_putAll : ByteArray := prog_8_method_4_code
def yX6_putAll : MethodName := ⟨RX6, "putAll", "(I)V"⟩
abbrev cX6_copyFrom : ByteArray := prog_8_method_5_code
def yX6_copyFrom : MethodName := ⟨RX6, "copyFrom", "(LMirrorLoom$Numbers;)V"⟩
abbrev cX6_countOthersThan : ByteArray := prog_8_method_6_code
def yX6_countOthersThan : MethodName := ⟨RX6, "countOthersThan", "(I)I"⟩
def RX7 : String := "MirrorLoom$Shades"
def TX7 : u_T := fun k => match k with
  | _ => ("", "", "", false)
def tyX7 : Nat → FieldType := fun k => match k with
  | _ => .int
abbrev wsX70 : List Cond := u_ws RX7 TX7 0
theorem nmX7 : ∀ a, a < 0 → ∀ b, b < 0 → a ≠ b → (TX7 a).2.1 ≠ (TX7 b).2.1 := by decide +kernel
theorem tyX7_ok : ∀ k, k < 0 → parseFieldDescriptor (TX7 k).2.2.1 = some (tyX7 k) := by decide +kernel
abbrev cX7_isShade : ByteArray := prog_9_method_2_code
def yX7_isShade : MethodName := ⟨RX7, "isShade", "(I)Z"⟩
abbrev cX7_fromBits : ByteArray := prog_9_method_3_code
def yX7_fromBits : MethodName := ⟨RX7, "fromBits", "(I)F"⟩
abbrev cX7_bitsOf : ByteArray := prog_9_method_4_code
def yX7_bitsOf : MethodName := ⟨RX7, "bitsOf", "(F)I"⟩
def RX8 : String := "MirrorLoom$Word"
def TX8 : u_T := fun k => match k with
  | _ => ("", "", "", false)
def tyX8 : Nat → FieldType := fun k => match k with
  | _ => .int
abbrev wsX80 : List Cond := u_ws RX8 TX8 0
theorem nmX8 : ∀ a, a < 0 → ∀ b, b < 0 → a ≠ b → (TX8 a).2.1 ≠ (TX8 b).2.1 := by decide +kernel
theorem tyX8_ok : ∀ k, k < 0 → parseFieldDescriptor (TX8 k).2.2.1 = some (tyX8 k) := by decide +kernel
def RX9 : String := "MirrorLoom"
def TX9 : u_T := fun k => match k with
  | 0 => ("MirrorLoom", "loom", "LMirrorLoom$Loom;", true)
  | 1 => ("MirrorLoom", "history", "LMirrorLoom$History;", true)
  | 2 => ("MirrorLoom", "text", "LMirrorLoom$CommandText;", true)
  | _ => ("MirrorLoom", "reader", "LMirrorLoom$CommandReader;", true)
def tyX9 : Nat → FieldType := fun k => match k with
  | 0 => .object "MirrorLoom$Loom"
  | 1 => .object "MirrorLoom$History"
  | 2 => .object "MirrorLoom$CommandText"
  | _ => .object "MirrorLoom$CommandReader"
abbrev wsX90 : List Cond := u_ws RX9 TX9 4
theorem nmX9 : ∀ a, a < 4 → ∀ b, b < 4 → a ≠ b → (TX9 a).2.1 ≠ (TX9 b).2.1 := by decide +kernel
theorem tyX9_ok : ∀ k, k < 4 → parseFieldDescriptor (TX9 k).2.2.1 = some (tyX9 k) := by decide +kernel
abbrev cX9_init : ByteArray := prog_1_method_1_code
def yX9_init : MethodName := ⟨RX9, "<init>", "()V"⟩
abbrev cX9_begin : ByteArray := prog_1_method_2_code
def yX9_begin : MethodName := ⟨RX9, "begin", "(II)I"⟩
abbrev cX9_fill : ByteArray := prog_1_method_3_code
def yX9_fill : MethodName := ⟨RX9, "fill", "(IIIII)I"⟩
abbrev cX9_addLot : ByteArray := prog_1_method_4_code
def yX9_addLot : MethodName := ⟨RX9, "addLot", "(III)I"⟩
abbrev cX9_setLimit : ByteArray := prog_1_method_6_code
def yX9_setLimit : MethodName := ⟨RX9, "setLimit", "(I)I"⟩
abbrev cX9_plant : ByteArray := prog_1_method_7_code
def yX9_plant : MethodName := ⟨RX9, "plant", "(II)I"⟩
abbrev cX9_weave : ByteArray := prog_1_method_8_code
def yX9_weave : MethodName := ⟨RX9, "weave", "(I)I"⟩
abbrev cX9_unweave : ByteArray := prog_1_method_9_code
def yX9_unweave : MethodName := ⟨RX9, "unweave", "(I)I"⟩
abbrev cX9_sew : ByteArray := prog_1_method_10_code
def yX9_sew : MethodName := ⟨RX9, "sew", "(I)I"⟩
abbrev cX9_cell : ByteArray := prog_1_method_11_code
def yX9_cell : MethodName := ⟨RX9, "cell", "(III)I"⟩
abbrev cX9_row : ByteArray := prog_1_method_12_code
def yX9_row : MethodName := ⟨RX9, "row", "(II)I"⟩
abbrev cX9_lot : ByteArray := prog_1_method_13_code
def yX9_lot : MethodName := ⟨RX9, "lot", "(II)I"⟩
abbrev cX9_color : ByteArray := prog_1_method_14_code
def yX9_color : MethodName := ⟨RX9, "color", "(II)I"⟩
abbrev cX9_slit : ByteArray := prog_1_method_15_code
def yX9_slit : MethodName := ⟨RX9, "slit", "(II)I"⟩
abbrev cX9_whole : ByteArray := prog_1_method_16_code
def yX9_whole : MethodName := ⟨RX9, "whole", "(I)I"⟩
abbrev cX9_rowsPossible : ByteArray := prog_1_method_20_code
def yX9_rowsPossible : MethodName := ⟨RX9, "rowsPossible", "()I"⟩
abbrev cX9_missing : ByteArray := prog_1_method_21_code
def yX9_missing : MethodName := ⟨RX9, "missing", "(I)I"⟩
abbrev cX9_slitsWith : ByteArray := prog_1_method_22_code
def yX9_slitsWith : MethodName := ⟨RX9, "slitsWith", "(I)I"⟩
abbrev cX9_firstWrong : ByteArray := prog_1_method_23_code
def yX9_firstWrong : MethodName := ⟨RX9, "firstWrong", "()I"⟩
abbrev cX9_shuttlesFor : ByteArray := prog_1_method_24_code
def yX9_shuttlesFor : MethodName := ⟨RX9, "shuttlesFor", "(I)I"⟩
abbrev cX9_undo : ByteArray := prog_1_method_28_code
def yX9_undo : MethodName := ⟨RX9, "undo", "()I"⟩
abbrev cX9_digest : ByteArray := prog_1_method_29_code
def yX9_digest : MethodName := ⟨RX9, "digest", "()J"⟩
abbrev cX9_refuse : ByteArray := prog_1_method_30_code
def yX9_refuse : MethodName := ⟨RX9, "refuse", "(I)V"⟩
abbrev cX9_isFrom : ByteArray := prog_1_method_31_code
def yX9_isFrom : MethodName := ⟨RX9, "isFrom", "(III)Z"⟩
abbrev cX9_isColor : ByteArray := prog_1_method_32_code
def yX9_isColor : MethodName := ⟨RX9, "isColor", "(I)Z"⟩
abbrev cX9_mixed : ByteArray := prog_1_method_35_code
def yX9_mixed : MethodName := ⟨RX9, "mixed", "(JI)J"⟩
abbrev cX9_mixedCells : ByteArray := prog_1_method_36_code
def yX9_mixedCells : MethodName := ⟨RX9, "mixedCells", "(J)J"⟩
abbrev cX9_mixedRows : ByteArray := prog_1_method_37_code
def yX9_mixedRows : MethodName := ⟨RX9, "mixedRows", "(J)J"⟩
abbrev cX9_mixedLots : ByteArray := prog_1_method_38_code
def yX9_mixedLots : MethodName := ⟨RX9, "mixedLots", "(J)J"⟩
abbrev cX9_mixedColors : ByteArray := prog_1_method_39_code
def yX9_mixedColors : MethodName := ⟨RX9, "mixedColors", "(J)J"⟩
abbrev cX9_mixedSlits : ByteArray := prog_1_method_40_code
def yX9_mixedSlits : MethodName := ⟨RX9, "mixedSlits", "(J)J"⟩
def RX10 : String := "MirrorLoomModel"
def TX10 : u_T := fun k => match k with
  | _ => ("", "", "", false)
def tyX10 : Nat → FieldType := fun k => match k with
  | _ => .int
abbrev wsX100 : List Cond := u_ws RX10 TX10 0
theorem nmX10 : ∀ a, a < 0 → ∀ b, b < 0 → a ≠ b → (TX10 a).2.1 ≠ (TX10 b).2.1 := by decide +kernel
theorem tyX10_ok : ∀ k, k < 0 → parseFieldDescriptor (TX10 k).2.2.1 = some (tyX10 k) := by decide +kernel
def RJx29ce0 : String := "java/lang/Enum"
def TJx29ce0 : u_T := fun k => match k with
  | _ => ("", "", "", false)
def tyJx29ce0 : Nat → FieldType := fun k => match k with
  | _ => .int
theorem nmJx29ce0 : ∀ a, a < 0 → ∀ b, b < 0 → a ≠ b → (TJx29ce0 a).2.1 ≠ (TJx29ce0 b).2.1 := by decide +kernel
theorem tyJx29ce0_ok : ∀ k, k < 0 → parseFieldDescriptor (TJx29ce0 k).2.2.1 = some (tyJx29ce0 k) := by decide +kernel
def RJ9 : String := "java/lang/Math"
def TJ9 : u_T := fun k => match k with
  | _ => ("", "", "", false)
def tyJ9 : Nat → FieldType := fun k => match k with
  | _ => .int
theorem nmJ9 : ∀ a, a < 0 → ∀ b, b < 0 → a ≠ b → (TJ9 a).2.1 ≠ (TJ9 b).2.1 := by decide +kernel
theorem tyJ9_ok : ∀ k, k < 0 → parseFieldDescriptor (TJ9 k).2.2.1 = some (tyJ9 k) := by decide +kernel
abbrev cJ9_max_7cf53 : ByteArray := prog_18_method_65_code
def yJ9_max_7cf53 : MethodName := ⟨RJ9, "max", "(II)I"⟩
abbrev cJ9_min_7cf53 : ByteArray := prog_18_method_69_code
def yJ9_min_7cf53 : MethodName := ⟨RJ9, "min", "(II)I"⟩
def RJ0 : String := "java/lang/String"
def TJ0 : u_T := fun k => match k with
  | _ => ("", "", "", false)
def tyJ0 : Nat → FieldType := fun k => match k with
  | _ => .int
theorem nmJ0 : ∀ a, a < 0 → ∀ b, b < 0 → a ≠ b → (TJ0 a).2.1 ≠ (TJ0 b).2.1 := by decide +kernel
theorem tyJ0_ok : ∀ k, k < 0 → parseFieldDescriptor (TJ0 k).2.2.1 = some (tyJ0 k) := by decide +kernel
def RL : String := "MirrorLoomLaw"
abbrev cL_cell : ByteArray := method_2_code
def yL_cell : MethodName := ⟨RL, "cell", "([II)I"⟩
abbrev cL_begins : ByteArray := method_3_code
def yL_begins : MethodName := ⟨RL, "begins", "(LMirrorLoom;II)I"⟩
abbrev cL_fills : ByteArray := method_4_code
def yL_fills : MethodName := ⟨RL, "fills", "(LMirrorLoom;IIIII)I"⟩
abbrev cL_lots : ByteArray := method_5_code
def yL_lots : MethodName := ⟨RL, "lots", "(LMirrorLoom;III)I"⟩
abbrev cL_limits : ByteArray := method_6_code
def yL_limits : MethodName := ⟨RL, "limits", "(LMirrorLoom;I)I"⟩
abbrev cL_plants : ByteArray := method_7_code
def yL_plants : MethodName := ⟨RL, "plants", "(LMirrorLoom;II)I"⟩
abbrev cL_weaves : ByteArray := method_8_code
def yL_weaves : MethodName := ⟨RL, "weaves", "(LMirrorLoom;I)I"⟩
abbrev cL_unweaves : ByteArray := method_9_code
def yL_unweaves : MethodName := ⟨RL, "unweaves", "(LMirrorLoom;I)I"⟩
abbrev cL_sews : ByteArray := method_10_code
def yL_sews : MethodName := ⟨RL, "sews", "(LMirrorLoom;I)I"⟩
abbrev cL_cells : ByteArray := method_11_code
def yL_cells : MethodName := ⟨RL, "cells", "(LMirrorLoom;III)I"⟩
abbrev cL_rows : ByteArray := method_12_code
def yL_rows : MethodName := ⟨RL, "rows", "(LMirrorLoom;II)I"⟩
abbrev cL_lotOf : ByteArray := method_13_code
def yL_lotOf : MethodName := ⟨RL, "lotOf", "(LMirrorLoom;II)I"⟩
abbrev cL_colorOf : ByteArray := method_14_code
def yL_colorOf : MethodName := ⟨RL, "colorOf", "(LMirrorLoom;II)I"⟩
abbrev cL_slitOf : ByteArray := method_15_code
def yL_slitOf : MethodName := ⟨RL, "slitOf", "(LMirrorLoom;II)I"⟩
abbrev cL_whole : ByteArray := method_16_code
def yL_whole : MethodName := ⟨RL, "whole", "(LMirrorLoom;I)I"⟩
abbrev cL_missing : ByteArray := method_17_code
def yL_missing : MethodName := ⟨RL, "missing", "(LMirrorLoom;I)I"⟩
abbrev cL_slitsWith : ByteArray := method_18_code
def yL_slitsWith : MethodName := ⟨RL, "slitsWith", "(LMirrorLoom;I)I"⟩
abbrev cL_shuttlesFor : ByteArray := method_19_code
def yL_shuttlesFor : MethodName := ⟨RL, "shuttlesFor", "(LMirrorLoom;I)I"⟩
abbrev cL_undoes : ByteArray := method_20_code
def yL_undoes : MethodName := ⟨RL, "undoes", "(LMirrorLoom;)I"⟩
abbrev cL_wovenRows : ByteArray := method_21_code
def yL_wovenRows : MethodName := ⟨RL, "wovenRows", "(LMirrorLoom;)Z"⟩
abbrev cL_yarns : ByteArray := method_22_code
def yL_yarns : MethodName := ⟨RL, "yarns", "(LMirrorLoom;)Z"⟩
abbrev cL_slits : ByteArray := method_23_code
def yL_slits : MethodName := ⟨RL, "slits", "(LMirrorLoom;)Z"⟩
abbrev cL_holds : ByteArray := method_24_code
def yL_holds : MethodName := ⟨RL, "holds", "(LMirrorLoom;)Z"⟩
abbrev cL_law : ByteArray := code
def yL_law : MethodName := ⟨RL, "law", "([I)Z"⟩
theorem dX0_init_0 : decode cX0_init 0 = .ok (.aload_n 0, 1) := by decide +kernel
theorem dX0_init_1 : decode cX0_init 1 = .ok (.invokespecial 3, 3) := by decide +kernel
theorem dX0_init_4 : decode cX0_init 4 = .ok (.aload_n 0, 1) := by decide +kernel
theorem dX0_init_5 : decode cX0_init 5 = .ok (.new 9, 3) := by decide +kernel
theorem dX0_init_8 : decode cX0_init 8 = .ok (.dup, 1) := by decide +kernel
theorem dX0_init_9 : decode cX0_init 9 = .ok (.iconst 5, 1) := by decide +kernel
theorem dX0_init_10 : decode cX0_init 10 = .ok (.invokespecial 11, 3) := by decide +kernel
theorem dX0_init_13 : decode cX0_init 13 = .ok (.putfield 14, 3) := by decide +kernel
theorem dX0_init_16 : decode cX0_init 16 = .ok (.aload_n 0, 1) := by decide +kernel
theorem dX0_init_17 : decode cX0_init 17 = .ok (.getstatic 20, 3) := by decide +kernel
theorem dX0_init_20 : decode cX0_init 20 = .ok (.putfield 26, 3) := by decide +kernel
theorem dX0_init_23 : decode cX0_init 23 = .ok (.aload_n 0, 1) := by decide +kernel
theorem dX0_init_24 : decode cX0_init 24 = .ok (.iconst (-1), 1) := by decide +kernel
theorem dX0_init_25 : decode cX0_init 25 = .ok (.putfield 29, 3) := by decide +kernel
theorem dX0_init_28 : decode cX0_init 28 = .ok (.aload_n 0, 1) := by decide +kernel
theorem dX0_init_29 : decode cX0_init 29 = .ok (.aload_n 1, 1) := by decide +kernel
theorem dX0_init_30 : decode cX0_init 30 = .ok (.putfield 33, 3) := by decide +kernel
theorem dX0_init_33 : decode cX0_init 33 = .ok (.return_, 1) := by decide +kernel
theorem dX1_init_0 : decode cX1_init 0 = .ok (.aload_n 0, 1) := by decide +kernel
theorem dX1_init_1 : decode cX1_init 1 = .ok (.invokespecial 3, 3) := by decide +kernel
theorem dX1_init_4 : decode cX1_init 4 = .ok (.aload_n 0, 1) := by decide +kernel
theorem dX1_init_5 : decode cX1_init 5 = .ok (.new 9, 3) := by decide +kernel
theorem dX1_init_8 : decode cX1_init 8 = .ok (.dup, 1) := by decide +kernel
theorem dX1_init_9 : decode cX1_init 9 = .ok (.sipush 150, 3) := by decide +kernel
theorem dX1_init_12 : decode cX1_init 12 = .ok (.invokespecial 11, 3) := by decide +kernel
theorem dX1_init_15 : decode cX1_init 15 = .ok (.putfield 14, 3) := by decide +kernel
theorem dX1_init_18 : decode cX1_init 18 = .ok (.return_, 1) := by decide +kernel
theorem dX2_init_0 : decode cX2_init 0 = .ok (.aload_n 0, 1) := by decide +kernel
theorem dX2_init_1 : decode cX2_init 1 = .ok (.invokespecial 3, 3) := by decide +kernel
theorem dX2_init_4 : decode cX2_init 4 = .ok (.aload_n 0, 1) := by decide +kernel
theorem dX2_init_5 : decode cX2_init 5 = .ok (.sipush 320, 3) := by decide +kernel
theorem dX2_init_8 : decode cX2_init 8 = .ok (.newarray .int, 2) := by decide +kernel
theorem dX2_init_10 : decode cX2_init 10 = .ok (.putfield 9, 3) := by decide +kernel
theorem dX2_init_13 : decode cX2_init 13 = .ok (.return_, 1) := by decide +kernel
theorem dX2_at_0 : decode cX2_at 0 = .ok (.iload_n 2, 1) := by decide +kernel
theorem dX2_at_1 : decode cX2_at 1 = .ok (.bipush 20, 2) := by decide +kernel
theorem dX2_at_3 : decode cX2_at 3 = .ok (.imul, 1) := by decide +kernel
theorem dX2_at_4 : decode cX2_at 4 = .ok (.iload_n 1, 1) := by decide +kernel
theorem dX2_at_5 : decode cX2_at 5 = .ok (.iadd, 1) := by decide +kernel
theorem dX2_at_6 : decode cX2_at 6 = .ok (.istore_n 3, 1) := by decide +kernel
theorem dX2_at_7 : decode cX2_at 7 = .ok (.iload_n 1, 1) := by decide +kernel
theorem dX2_at_8 : decode cX2_at 8 = .ok (.ifCond .lt 31, 3) := by decide +kernel
theorem dX2_at_11 : decode cX2_at 11 = .ok (.iload_n 1, 1) := by decide +kernel
theorem dX2_at_12 : decode cX2_at 12 = .ok (.bipush 20, 2) := by decide +kernel
theorem dX2_at_14 : decode cX2_at 14 = .ok (.if_icmp .ge 25, 3) := by decide +kernel
theorem dX2_at_17 : decode cX2_at 17 = .ok (.iload_n 3, 1) := by decide +kernel
theorem dX2_at_18 : decode cX2_at 18 = .ok (.ifCond .lt 21, 3) := by decide +kernel
theorem dX2_at_21 : decode cX2_at 21 = .ok (.iload_n 3, 1) := by decide +kernel
theorem dX2_at_22 : decode cX2_at 22 = .ok (.aload_n 0, 1) := by decide +kernel
theorem dX2_at_23 : decode cX2_at 23 = .ok (.getfield 9, 3) := by decide +kernel
theorem dX2_at_26 : decode cX2_at 26 = .ok (.arraylength, 1) := by decide +kernel
theorem dX2_at_27 : decode cX2_at 27 = .ok (.if_icmp .ge 12, 3) := by decide +kernel
theorem dX2_at_30 : decode cX2_at 30 = .ok (.aload_n 0, 1) := by decide +kernel
theorem dX2_at_31 : decode cX2_at 31 = .ok (.getfield 9, 3) := by decide +kernel
theorem dX2_at_34 : decode cX2_at 34 = .ok (.iload_n 3, 1) := by decide +kernel
theorem dX2_at_35 : decode cX2_at 35 = .ok (.iaload, 1) := by decide +kernel
theorem dX2_at_36 : decode cX2_at 36 = .ok (.goto 4, 3) := by decide +kernel
theorem dX2_at_39 : decode cX2_at 39 = .ok (.iconst (-1), 1) := by decide +kernel
theorem dX2_at_40 : decode cX2_at 40 = .ok (.ireturn, 1) := by decide +kernel
theorem dX2_put_0 : decode cX2_put 0 = .ok (.iload_n 2, 1) := by decide +kernel
theorem dX2_put_1 : decode cX2_put 1 = .ok (.bipush 20, 2) := by decide +kernel
theorem dX2_put_3 : decode cX2_put 3 = .ok (.imul, 1) := by decide +kernel
theorem dX2_put_4 : decode cX2_put 4 = .ok (.iload_n 1, 1) := by decide +kernel
theorem dX2_put_5 : decode cX2_put 5 = .ok (.iadd, 1) := by decide +kernel
theorem dX2_put_6 : decode cX2_put 6 = .ok (.istore 4, 2) := by decide +kernel
theorem dX2_put_8 : decode cX2_put 8 = .ok (.iload_n 1, 1) := by decide +kernel
theorem dX2_put_9 : decode cX2_put 9 = .ok (.ifCond .lt 32, 3) := by decide +kernel
theorem dX2_put_12 : decode cX2_put 12 = .ok (.iload_n 1, 1) := by decide +kernel
theorem dX2_put_13 : decode cX2_put 13 = .ok (.bipush 20, 2) := by decide +kernel
theorem dX2_put_15 : decode cX2_put 15 = .ok (.if_icmp .ge 26, 3) := by decide +kernel
theorem dX2_put_18 : decode cX2_put 18 = .ok (.iload 4, 2) := by decide +kernel
theorem dX2_put_20 : decode cX2_put 20 = .ok (.ifCond .lt 21, 3) := by decide +kernel
theorem dX2_put_23 : decode cX2_put 23 = .ok (.iload 4, 2) := by decide +kernel
theorem dX2_put_25 : decode cX2_put 25 = .ok (.aload_n 0, 1) := by decide +kernel
theorem dX2_put_26 : decode cX2_put 26 = .ok (.getfield 9, 3) := by decide +kernel
theorem dX2_put_29 : decode cX2_put 29 = .ok (.arraylength, 1) := by decide +kernel
theorem dX2_put_30 : decode cX2_put 30 = .ok (.if_icmp .ge 11, 3) := by decide +kernel
theorem dX2_put_33 : decode cX2_put 33 = .ok (.aload_n 0, 1) := by decide +kernel
theorem dX2_put_34 : decode cX2_put 34 = .ok (.getfield 9, 3) := by decide +kernel
theorem dX2_put_37 : decode cX2_put 37 = .ok (.iload 4, 2) := by decide +kernel
theorem dX2_put_39 : decode cX2_put 39 = .ok (.iload_n 3, 1) := by decide +kernel
theorem dX2_put_40 : decode cX2_put 40 = .ok (.iastore, 1) := by decide +kernel
theorem dX2_put_41 : decode cX2_put 41 = .ok (.return_, 1) := by decide +kernel
theorem dX2_putAll_0 : decode cX2_putAll 0 = .ok (.iconst 0, 1) := by decide +kernel
theorem dX2_putAll_1 : decode cX2_putAll 1 = .ok (.istore_n 2, 1) := by decide +kernel
theorem dX2_putAll_2 : decode cX2_putAll 2 = .ok (.iload_n 2, 1) := by decide +kernel
theorem dX2_putAll_3 : decode cX2_putAll 3 = .ok (.aload_n 0, 1) := by decide +kernel
theorem dX2_putAll_4 : decode cX2_putAll 4 = .ok (.getfield 9, 3) := by decide +kernel
theorem dX2_putAll_7 : decode cX2_putAll 7 = .ok (.arraylength, 1) := by decide +kernel
theorem dX2_putAll_8 : decode cX2_putAll 8 = .ok (.if_icmp .ge 16, 3) := by decide +kernel
theorem dX2_putAll_11 : decode cX2_putAll 11 = .ok (.aload_n 0, 1) := by decide +kernel
theorem dX2_putAll_12 : decode cX2_putAll 12 = .ok (.getfield 9, 3) := by decide +kernel
theorem dX2_putAll_15 : decode cX2_putAll 15 = .ok (.iload_n 2, 1) := by decide +kernel
theorem dX2_putAll_16 : decode cX2_putAll 16 = .ok (.iload_n 1, 1) := by decide +kernel
theorem dX2_putAll_17 : decode cX2_putAll 17 = .ok (.iastore, 1) := by decide +kernel
theorem dX2_putAll_18 : decode cX2_putAll 18 = .ok (.iinc 2 1, 3) := by decide +kernel
theorem dX2_putAll_21 : decode cX2_putAll 21 = .ok (.goto (-19), 3) := by decide +kernel
theorem dX2_putAll_24 : decode cX2_putAll 24 = .ok (.return_, 1) := by decide +kernel
theorem dX2_copyFrom_0 : decode cX2_copyFrom 0 = .ok (.iconst 0, 1) := by decide +kernel
theorem dX2_copyFrom_1 : decode cX2_copyFrom 1 = .ok (.istore_n 2, 1) := by decide +kernel
theorem dX2_copyFrom_2 : decode cX2_copyFrom 2 = .ok (.iload_n 2, 1) := by decide +kernel
theorem dX2_copyFrom_3 : decode cX2_copyFrom 3 = .ok (.aload_n 0, 1) := by decide +kernel
theorem dX2_copyFrom_4 : decode cX2_copyFrom 4 = .ok (.getfield 9, 3) := by decide +kernel
theorem dX2_copyFrom_7 : decode cX2_copyFrom 7 = .ok (.arraylength, 1) := by decide +kernel
theorem dX2_copyFrom_8 : decode cX2_copyFrom 8 = .ok (.if_icmp .ge 30, 3) := by decide +kernel
theorem dX2_copyFrom_11 : decode cX2_copyFrom 11 = .ok (.iload_n 2, 1) := by decide +kernel
theorem dX2_copyFrom_12 : decode cX2_copyFrom 12 = .ok (.aload_n 1, 1) := by decide +kernel
theorem dX2_copyFrom_13 : decode cX2_copyFrom 13 = .ok (.getfield 9, 3) := by decide +kernel
theorem dX2_copyFrom_16 : decode cX2_copyFrom 16 = .ok (.arraylength, 1) := by decide +kernel
theorem dX2_copyFrom_17 : decode cX2_copyFrom 17 = .ok (.if_icmp .ge 21, 3) := by decide +kernel
theorem dX2_copyFrom_20 : decode cX2_copyFrom 20 = .ok (.aload_n 0, 1) := by decide +kernel
theorem dX2_copyFrom_21 : decode cX2_copyFrom 21 = .ok (.getfield 9, 3) := by decide +kernel
theorem dX2_copyFrom_24 : decode cX2_copyFrom 24 = .ok (.iload_n 2, 1) := by decide +kernel
theorem dX2_copyFrom_25 : decode cX2_copyFrom 25 = .ok (.aload_n 1, 1) := by decide +kernel
theorem dX2_copyFrom_26 : decode cX2_copyFrom 26 = .ok (.getfield 9, 3) := by decide +kernel
theorem dX2_copyFrom_29 : decode cX2_copyFrom 29 = .ok (.iload_n 2, 1) := by decide +kernel
theorem dX2_copyFrom_30 : decode cX2_copyFrom 30 = .ok (.iaload, 1) := by decide +kernel
theorem dX2_copyFrom_31 : decode cX2_copyFrom 31 = .ok (.iastore, 1) := by decide +kernel
theorem dX2_copyFrom_32 : decode cX2_copyFrom 32 = .ok (.iinc 2 1, 3) := by decide +kernel
theorem dX2_copyFrom_35 : decode cX2_copyFrom 35 = .ok (.goto (-33), 3) := by decide +kernel
theorem dX2_copyFrom_38 : decode cX2_copyFrom 38 = .ok (.return_, 1) := by decide +kernel
theorem dX2_startsRun_0 : decode cX2_startsRun 0 = .ok (.aload_n 0, 1) := by decide +kernel
theorem dX2_startsRun_1 : decode cX2_startsRun 1 = .ok (.iload_n 1, 1) := by decide +kernel
theorem dX2_startsRun_2 : decode cX2_startsRun 2 = .ok (.iload_n 2, 1) := by decide +kernel
theorem dX2_startsRun_3 : decode cX2_startsRun 3 = .ok (.invokevirtual 15, 3) := by decide +kernel
theorem dX2_startsRun_6 : decode cX2_startsRun 6 = .ok (.aload_n 0, 1) := by decide +kernel
theorem dX2_startsRun_7 : decode cX2_startsRun 7 = .ok (.iload_n 1, 1) := by decide +kernel
theorem dX2_startsRun_8 : decode cX2_startsRun 8 = .ok (.iconst 1, 1) := by decide +kernel
theorem dX2_startsRun_9 : decode cX2_startsRun 9 = .ok (.isub, 1) := by decide +kernel
theorem dX2_startsRun_10 : decode cX2_startsRun 10 = .ok (.iload_n 2, 1) := by decide +kernel
theorem dX2_startsRun_11 : decode cX2_startsRun 11 = .ok (.invokevirtual 15, 3) := by decide +kernel
theorem dX2_startsRun_14 : decode cX2_startsRun 14 = .ok (.if_icmp .eq 7, 3) := by decide +kernel
theorem dX2_startsRun_17 : decode cX2_startsRun 17 = .ok (.iconst 1, 1) := by decide +kernel
theorem dX2_startsRun_18 : decode cX2_startsRun 18 = .ok (.goto 4, 3) := by decide +kernel
theorem dX2_startsRun_21 : decode cX2_startsRun 21 = .ok (.iconst 0, 1) := by decide +kernel
theorem dX2_startsRun_22 : decode cX2_startsRun 22 = .ok (.ireturn, 1) := by decide +kernel
theorem dX2_runs_0 : decode cX2_runs 0 = .ok (.iconst 0, 1) := by decide +kernel
theorem dX2_runs_1 : decode cX2_runs 1 = .ok (.istore_n 3, 1) := by decide +kernel
theorem dX2_runs_2 : decode cX2_runs 2 = .ok (.iconst 0, 1) := by decide +kernel
theorem dX2_runs_3 : decode cX2_runs 3 = .ok (.istore 4, 2) := by decide +kernel
theorem dX2_runs_5 : decode cX2_runs 5 = .ok (.iload 4, 2) := by decide +kernel
theorem dX2_runs_7 : decode cX2_runs 7 = .ok (.iload_n 2, 1) := by decide +kernel
theorem dX2_runs_8 : decode cX2_runs 8 = .ok (.if_icmp .ge 27, 3) := by decide +kernel
theorem dX2_runs_11 : decode cX2_runs 11 = .ok (.iload_n 3, 1) := by decide +kernel
theorem dX2_runs_12 : decode cX2_runs 12 = .ok (.aload_n 0, 1) := by decide +kernel
theorem dX2_runs_13 : decode cX2_runs 13 = .ok (.iload 4, 2) := by decide +kernel
theorem dX2_runs_15 : decode cX2_runs 15 = .ok (.iload_n 1, 1) := by decide +kernel
theorem dX2_runs_16 : decode cX2_runs 16 = .ok (.invokevirtual 19, 3) := by decide +kernel
theorem dX2_runs_19 : decode cX2_runs 19 = .ok (.ifCond .eq 7, 3) := by decide +kernel
theorem dX2_runs_22 : decode cX2_runs 22 = .ok (.iconst 1, 1) := by decide +kernel
theorem dX2_runs_23 : decode cX2_runs 23 = .ok (.goto 4, 3) := by decide +kernel
theorem dX2_runs_26 : decode cX2_runs 26 = .ok (.iconst 0, 1) := by decide +kernel
theorem dX2_runs_27 : decode cX2_runs 27 = .ok (.iadd, 1) := by decide +kernel
theorem dX2_runs_28 : decode cX2_runs 28 = .ok (.istore_n 3, 1) := by decide +kernel
theorem dX2_runs_29 : decode cX2_runs 29 = .ok (.iinc 4 1, 3) := by decide +kernel
theorem dX2_runs_32 : decode cX2_runs 32 = .ok (.goto (-27), 3) := by decide +kernel
theorem dX2_runs_35 : decode cX2_runs 35 = .ok (.iload_n 3, 1) := by decide +kernel
theorem dX2_runs_36 : decode cX2_runs 36 = .ok (.ireturn, 1) := by decide +kernel
theorem dX2_runsOf_0 : decode cX2_runsOf 0 = .ok (.iconst 0, 1) := by decide +kernel
theorem dX2_runsOf_1 : decode cX2_runsOf 1 = .ok (.istore 4, 2) := by decide +kernel
theorem dX2_runsOf_3 : decode cX2_runsOf 3 = .ok (.iconst 0, 1) := by decide +kernel
theorem dX2_runsOf_4 : decode cX2_runsOf 4 = .ok (.istore 5, 2) := by decide +kernel
theorem dX2_runsOf_6 : decode cX2_runsOf 6 = .ok (.iload 5, 2) := by decide +kernel
theorem dX2_runsOf_8 : decode cX2_runsOf 8 = .ok (.iload_n 3, 1) := by decide +kernel
theorem dX2_runsOf_9 : decode cX2_runsOf 9 = .ok (.if_icmp .ge 43, 3) := by decide +kernel
theorem dX2_runsOf_12 : decode cX2_runsOf 12 = .ok (.iload 4, 2) := by decide +kernel
theorem dX2_runsOf_14 : decode cX2_runsOf 14 = .ok (.aload_n 0, 1) := by decide +kernel
theorem dX2_runsOf_15 : decode cX2_runsOf 15 = .ok (.iload 5, 2) := by decide +kernel
theorem dX2_runsOf_17 : decode cX2_runsOf 17 = .ok (.iload_n 2, 1) := by decide +kernel
theorem dX2_runsOf_18 : decode cX2_runsOf 18 = .ok (.invokevirtual 15, 3) := by decide +kernel
theorem dX2_runsOf_21 : decode cX2_runsOf 21 = .ok (.iload_n 1, 1) := by decide +kernel
theorem dX2_runsOf_22 : decode cX2_runsOf 22 = .ok (.if_icmp .ne 20, 3) := by decide +kernel
theorem dX2_runsOf_25 : decode cX2_runsOf 25 = .ok (.aload_n 0, 1) := by decide +kernel
theorem dX2_runsOf_26 : decode cX2_runsOf 26 = .ok (.iload 5, 2) := by decide +kernel
theorem dX2_runsOf_28 : decode cX2_runsOf 28 = .ok (.iconst 1, 1) := by decide +kernel
theorem dX2_runsOf_29 : decode cX2_runsOf 29 = .ok (.isub, 1) := by decide +kernel
theorem dX2_runsOf_30 : decode cX2_runsOf 30 = .ok (.iload_n 2, 1) := by decide +kernel
theorem dX2_runsOf_31 : decode cX2_runsOf 31 = .ok (.invokevirtual 15, 3) := by decide +kernel
theorem dX2_runsOf_34 : decode cX2_runsOf 34 = .ok (.iload_n 1, 1) := by decide +kernel
theorem dX2_runsOf_35 : decode cX2_runsOf 35 = .ok (.if_icmp .eq 7, 3) := by decide +kernel
theorem dX2_runsOf_38 : decode cX2_runsOf 38 = .ok (.iconst 1, 1) := by decide +kernel
theorem dX2_runsOf_39 : decode cX2_runsOf 39 = .ok (.goto 4, 3) := by decide +kernel
theorem dX2_runsOf_42 : decode cX2_runsOf 42 = .ok (.iconst 0, 1) := by decide +kernel
theorem dX2_runsOf_43 : decode cX2_runsOf 43 = .ok (.iadd, 1) := by decide +kernel
theorem dX2_runsOf_44 : decode cX2_runsOf 44 = .ok (.istore 4, 2) := by decide +kernel
theorem dX2_runsOf_46 : decode cX2_runsOf 46 = .ok (.iinc 5 1, 3) := by decide +kernel
theorem dX2_runsOf_49 : decode cX2_runsOf 49 = .ok (.goto (-43), 3) := by decide +kernel
theorem dX2_runsOf_52 : decode cX2_runsOf 52 = .ok (.iload 4, 2) := by decide +kernel
theorem dX2_runsOf_54 : decode cX2_runsOf 54 = .ok (.ireturn, 1) := by decide +kernel
theorem dX2_cellsOf_0 : decode cX2_cellsOf 0 = .ok (.iconst 0, 1) := by decide +kernel
theorem dX2_cellsOf_1 : decode cX2_cellsOf 1 = .ok (.istore 4, 2) := by decide +kernel
theorem dX2_cellsOf_3 : decode cX2_cellsOf 3 = .ok (.iconst 0, 1) := by decide +kernel
theorem dX2_cellsOf_4 : decode cX2_cellsOf 4 = .ok (.istore 5, 2) := by decide +kernel
theorem dX2_cellsOf_6 : decode cX2_cellsOf 6 = .ok (.iload 5, 2) := by decide +kernel
theorem dX2_cellsOf_8 : decode cX2_cellsOf 8 = .ok (.iload_n 3, 1) := by decide +kernel
theorem dX2_cellsOf_9 : decode cX2_cellsOf 9 = .ok (.if_icmp .ge 30, 3) := by decide +kernel
theorem dX2_cellsOf_12 : decode cX2_cellsOf 12 = .ok (.iload 4, 2) := by decide +kernel
theorem dX2_cellsOf_14 : decode cX2_cellsOf 14 = .ok (.aload_n 0, 1) := by decide +kernel
theorem dX2_cellsOf_15 : decode cX2_cellsOf 15 = .ok (.iload 5, 2) := by decide +kernel
theorem dX2_cellsOf_17 : decode cX2_cellsOf 17 = .ok (.iload_n 2, 1) := by decide +kernel
theorem dX2_cellsOf_18 : decode cX2_cellsOf 18 = .ok (.invokevirtual 15, 3) := by decide +kernel
theorem dX2_cellsOf_21 : decode cX2_cellsOf 21 = .ok (.iload_n 1, 1) := by decide +kernel
theorem dX2_cellsOf_22 : decode cX2_cellsOf 22 = .ok (.if_icmp .ne 7, 3) := by decide +kernel
theorem dX2_cellsOf_25 : decode cX2_cellsOf 25 = .ok (.iconst 1, 1) := by decide +kernel
theorem dX2_cellsOf_26 : decode cX2_cellsOf 26 = .ok (.goto 4, 3) := by decide +kernel
theorem dX2_cellsOf_29 : decode cX2_cellsOf 29 = .ok (.iconst 0, 1) := by decide +kernel
theorem dX2_cellsOf_30 : decode cX2_cellsOf 30 = .ok (.iadd, 1) := by decide +kernel
theorem dX2_cellsOf_31 : decode cX2_cellsOf 31 = .ok (.istore 4, 2) := by decide +kernel
theorem dX2_cellsOf_33 : decode cX2_cellsOf 33 = .ok (.iinc 5 1, 3) := by decide +kernel
theorem dX2_cellsOf_36 : decode cX2_cellsOf 36 = .ok (.goto (-30), 3) := by decide +kernel
theorem dX2_cellsOf_39 : decode cX2_cellsOf 39 = .ok (.iload 4, 2) := by decide +kernel
theorem dX2_cellsOf_41 : decode cX2_cellsOf 41 = .ok (.ireturn, 1) := by decide +kernel
theorem dX2_unitsOf_0 : decode cX2_unitsOf 0 = .ok (.aload_n 0, 1) := by decide +kernel
theorem dX2_unitsOf_1 : decode cX2_unitsOf 1 = .ok (.iload_n 1, 1) := by decide +kernel
theorem dX2_unitsOf_2 : decode cX2_unitsOf 2 = .ok (.iload_n 2, 1) := by decide +kernel
theorem dX2_unitsOf_3 : decode cX2_unitsOf 3 = .ok (.iload_n 3, 1) := by decide +kernel
theorem dX2_unitsOf_4 : decode cX2_unitsOf 4 = .ok (.invokevirtual 23, 3) := by decide +kernel
theorem dX2_unitsOf_7 : decode cX2_unitsOf 7 = .ok (.aload_n 0, 1) := by decide +kernel
theorem dX2_unitsOf_8 : decode cX2_unitsOf 8 = .ok (.iload_n 1, 1) := by decide +kernel
theorem dX2_unitsOf_9 : decode cX2_unitsOf 9 = .ok (.iload_n 2, 1) := by decide +kernel
theorem dX2_unitsOf_10 : decode cX2_unitsOf 10 = .ok (.iload_n 3, 1) := by decide +kernel
theorem dX2_unitsOf_11 : decode cX2_unitsOf 11 = .ok (.invokevirtual 27, 3) := by decide +kernel
theorem dX2_unitsOf_14 : decode cX2_unitsOf 14 = .ok (.iadd, 1) := by decide +kernel
theorem dX2_unitsOf_15 : decode cX2_unitsOf 15 = .ok (.ireturn, 1) := by decide +kernel
theorem dX3_init_0 : decode cX3_init 0 = .ok (.aload_n 0, 1) := by decide +kernel
theorem dX3_init_1 : decode cX3_init 1 = .ok (.invokespecial 3, 3) := by decide +kernel
theorem dX3_init_4 : decode cX3_init 4 = .ok (.aload_n 0, 1) := by decide +kernel
theorem dX3_init_5 : decode cX3_init 5 = .ok (.iconst 4, 1) := by decide +kernel
theorem dX3_init_6 : decode cX3_init 6 = .ok (.anewarray 9, 3) := by decide +kernel
theorem dX3_init_9 : decode cX3_init 9 = .ok (.putfield 11, 3) := by decide +kernel
theorem dX3_init_12 : decode cX3_init 12 = .ok (.iconst 0, 1) := by decide +kernel
theorem dX3_init_13 : decode cX3_init 13 = .ok (.istore_n 1, 1) := by decide +kernel
theorem dX3_init_14 : decode cX3_init 14 = .ok (.iload_n 1, 1) := by decide +kernel
theorem dX3_init_15 : decode cX3_init 15 = .ok (.aload_n 0, 1) := by decide +kernel
theorem dX3_init_16 : decode cX3_init 16 = .ok (.getfield 11, 3) := by decide +kernel
theorem dX3_init_19 : decode cX3_init 19 = .ok (.arraylength, 1) := by decide +kernel
theorem dX3_init_20 : decode cX3_init 20 = .ok (.if_icmp .ge 22, 3) := by decide +kernel
theorem dX3_init_23 : decode cX3_init 23 = .ok (.aload_n 0, 1) := by decide +kernel
theorem dX3_init_24 : decode cX3_init 24 = .ok (.getfield 11, 3) := by decide +kernel
theorem dX3_init_27 : decode cX3_init 27 = .ok (.iload_n 1, 1) := by decide +kernel
theorem dX3_init_28 : decode cX3_init 28 = .ok (.new 9, 3) := by decide +kernel
theorem dX3_init_31 : decode cX3_init 31 = .ok (.dup, 1) := by decide +kernel
theorem dX3_init_32 : decode cX3_init 32 = .ok (.invokespecial 17, 3) := by decide +kernel
theorem dX3_init_35 : decode cX3_init 35 = .ok (.aastore, 1) := by decide +kernel
theorem dX3_init_36 : decode cX3_init 36 = .ok (.iinc 1 1, 3) := by decide +kernel
theorem dX3_init_39 : decode cX3_init 39 = .ok (.goto (-25), 3) := by decide +kernel
theorem dX3_init_42 : decode cX3_init 42 = .ok (.return_, 1) := by decide +kernel
theorem dX3_save_0 : decode cX3_save 0 = .ok (.aload_n 0, 1) := by decide +kernel
theorem dX3_save_1 : decode cX3_save 1 = .ok (.aload_n 0, 1) := by decide +kernel
theorem dX3_save_2 : decode cX3_save 2 = .ok (.getfield 18, 3) := by decide +kernel
theorem dX3_save_5 : decode cX3_save 5 = .ok (.invokevirtual 22, 3) := by decide +kernel
theorem dX3_save_8 : decode cX3_save 8 = .ok (.astore_n 2, 1) := by decide +kernel
theorem dX3_save_9 : decode cX3_save 9 = .ok (.aload_n 2, 1) := by decide +kernel
theorem dX3_save_10 : decode cX3_save 10 = .ok (.ifnull 34, 3) := by decide +kernel
theorem dX3_save_13 : decode cX3_save 13 = .ok (.aload_n 2, 1) := by decide +kernel
theorem dX3_save_14 : decode cX3_save 14 = .ok (.aload_n 1, 1) := by decide +kernel
theorem dX3_save_15 : decode cX3_save 15 = .ok (.invokevirtual 26, 3) := by decide +kernel
theorem dX3_save_18 : decode cX3_save 18 = .ok (.aload_n 0, 1) := by decide +kernel
theorem dX3_save_19 : decode cX3_save 19 = .ok (.aload_n 0, 1) := by decide +kernel
theorem dX3_save_20 : decode cX3_save 20 = .ok (.getfield 18, 3) := by decide +kernel
theorem dX3_save_23 : decode cX3_save 23 = .ok (.iconst 1, 1) := by decide +kernel
theorem dX3_save_24 : decode cX3_save 24 = .ok (.iadd, 1) := by decide +kernel
theorem dX3_save_25 : decode cX3_save 25 = .ok (.iconst 4, 1) := by decide +kernel
theorem dX3_save_26 : decode cX3_save 26 = .ok (.irem, 1) := by decide +kernel
theorem dX3_save_27 : decode cX3_save 27 = .ok (.putfield 18, 3) := by decide +kernel
theorem dX3_save_30 : decode cX3_save 30 = .ok (.aload_n 0, 1) := by decide +kernel
theorem dX3_save_31 : decode cX3_save 31 = .ok (.aload_n 0, 1) := by decide +kernel
theorem dX3_save_32 : decode cX3_save 32 = .ok (.getfield 30, 3) := by decide +kernel
theorem dX3_save_35 : decode cX3_save 35 = .ok (.iconst 1, 1) := by decide +kernel
theorem dX3_save_36 : decode cX3_save 36 = .ok (.iadd, 1) := by decide +kernel
theorem dX3_save_37 : decode cX3_save 37 = .ok (.iconst 4, 1) := by decide +kernel
theorem dX3_save_38 : decode cX3_save 38 = .ok (.invokestatic 33, 3) := by decide +kernel
theorem dX3_save_41 : decode cX3_save 41 = .ok (.putfield 30, 3) := by decide +kernel
theorem dX3_save_44 : decode cX3_save 44 = .ok (.return_, 1) := by decide +kernel
theorem dX3_restore_0 : decode cX3_restore 0 = .ok (.aload_n 0, 1) := by decide +kernel
theorem dX3_restore_1 : decode cX3_restore 1 = .ok (.getfield 18, 3) := by decide +kernel
theorem dX3_restore_4 : decode cX3_restore 4 = .ok (.iconst 4, 1) := by decide +kernel
theorem dX3_restore_5 : decode cX3_restore 5 = .ok (.iadd, 1) := by decide +kernel
theorem dX3_restore_6 : decode cX3_restore 6 = .ok (.iconst 1, 1) := by decide +kernel
theorem dX3_restore_7 : decode cX3_restore 7 = .ok (.isub, 1) := by decide +kernel
theorem dX3_restore_8 : decode cX3_restore 8 = .ok (.iconst 4, 1) := by decide +kernel
theorem dX3_restore_9 : decode cX3_restore 9 = .ok (.irem, 1) := by decide +kernel
theorem dX3_restore_10 : decode cX3_restore 10 = .ok (.istore_n 2, 1) := by decide +kernel
theorem dX3_restore_11 : decode cX3_restore 11 = .ok (.aload_n 0, 1) := by decide +kernel
theorem dX3_restore_12 : decode cX3_restore 12 = .ok (.iload_n 2, 1) := by decide +kernel
theorem dX3_restore_13 : decode cX3_restore 13 = .ok (.invokevirtual 22, 3) := by decide +kernel
theorem dX3_restore_16 : decode cX3_restore 16 = .ok (.astore_n 3, 1) := by decide +kernel
theorem dX3_restore_17 : decode cX3_restore 17 = .ok (.aload_n 3, 1) := by decide +kernel
theorem dX3_restore_18 : decode cX3_restore 18 = .ok (.ifnull 30, 3) := by decide +kernel
theorem dX3_restore_21 : decode cX3_restore 21 = .ok (.aload_n 0, 1) := by decide +kernel
theorem dX3_restore_22 : decode cX3_restore 22 = .ok (.getfield 30, 3) := by decide +kernel
theorem dX3_restore_25 : decode cX3_restore 25 = .ok (.ifCond .le 23, 3) := by decide +kernel
theorem dX3_restore_28 : decode cX3_restore 28 = .ok (.aload_n 1, 1) := by decide +kernel
theorem dX3_restore_29 : decode cX3_restore 29 = .ok (.aload_n 3, 1) := by decide +kernel
theorem dX3_restore_30 : decode cX3_restore 30 = .ok (.invokevirtual 26, 3) := by decide +kernel
theorem dX3_restore_33 : decode cX3_restore 33 = .ok (.aload_n 0, 1) := by decide +kernel
theorem dX3_restore_34 : decode cX3_restore 34 = .ok (.iload_n 2, 1) := by decide +kernel
theorem dX3_restore_35 : decode cX3_restore 35 = .ok (.putfield 18, 3) := by decide +kernel
theorem dX3_restore_38 : decode cX3_restore 38 = .ok (.aload_n 0, 1) := by decide +kernel
theorem dX3_restore_39 : decode cX3_restore 39 = .ok (.dup, 1) := by decide +kernel
theorem dX3_restore_40 : decode cX3_restore 40 = .ok (.getfield 30, 3) := by decide +kernel
theorem dX3_restore_43 : decode cX3_restore 43 = .ok (.iconst 1, 1) := by decide +kernel
theorem dX3_restore_44 : decode cX3_restore 44 = .ok (.isub, 1) := by decide +kernel
theorem dX3_restore_45 : decode cX3_restore 45 = .ok (.putfield 30, 3) := by decide +kernel
theorem dX3_restore_48 : decode cX3_restore 48 = .ok (.aload_n 0, 1) := by decide +kernel
theorem dX3_restore_49 : decode cX3_restore 49 = .ok (.getfield 30, 3) := by decide +kernel
theorem dX3_restore_52 : decode cX3_restore 52 = .ok (.ireturn, 1) := by decide +kernel
theorem dX3_roomAt_0 : decode cX3_roomAt 0 = .ok (.iload_n 1, 1) := by decide +kernel
theorem dX3_roomAt_1 : decode cX3_roomAt 1 = .ok (.ifCond .lt 21, 3) := by decide +kernel
theorem dX3_roomAt_4 : decode cX3_roomAt 4 = .ok (.iload_n 1, 1) := by decide +kernel
theorem dX3_roomAt_5 : decode cX3_roomAt 5 = .ok (.aload_n 0, 1) := by decide +kernel
theorem dX3_roomAt_6 : decode cX3_roomAt 6 = .ok (.getfield 11, 3) := by decide +kernel
theorem dX3_roomAt_9 : decode cX3_roomAt 9 = .ok (.arraylength, 1) := by decide +kernel
theorem dX3_roomAt_10 : decode cX3_roomAt 10 = .ok (.if_icmp .ge 12, 3) := by decide +kernel
theorem dX3_roomAt_13 : decode cX3_roomAt 13 = .ok (.aload_n 0, 1) := by decide +kernel
theorem dX3_roomAt_14 : decode cX3_roomAt 14 = .ok (.getfield 11, 3) := by decide +kernel
theorem dX3_roomAt_17 : decode cX3_roomAt 17 = .ok (.iload_n 1, 1) := by decide +kernel
theorem dX3_roomAt_18 : decode cX3_roomAt 18 = .ok (.aaload, 1) := by decide +kernel
theorem dX3_roomAt_19 : decode cX3_roomAt 19 = .ok (.goto 4, 3) := by decide +kernel
theorem dX3_roomAt_22 : decode cX3_roomAt 22 = .ok (.aconst_null, 1) := by decide +kernel
theorem dX3_roomAt_23 : decode cX3_roomAt 23 = .ok (.areturn, 1) := by decide +kernel
theorem dX4_init_0 : decode cX4_init 0 = .ok (.aload_n 0, 1) := by decide +kernel
theorem dX4_init_1 : decode cX4_init 1 = .ok (.invokespecial 3, 3) := by decide +kernel
theorem dX4_init_4 : decode cX4_init 4 = .ok (.aload_n 0, 1) := by decide +kernel
theorem dX4_init_5 : decode cX4_init 5 = .ok (.bipush 8, 2) := by decide +kernel
theorem dX4_init_7 : decode cX4_init 7 = .ok (.putfield 9, 3) := by decide +kernel
theorem dX4_init_10 : decode cX4_init 10 = .ok (.aload_n 0, 1) := by decide +kernel
theorem dX4_init_11 : decode cX4_init 11 = .ok (.bipush 6, 2) := by decide +kernel
theorem dX4_init_13 : decode cX4_init 13 = .ok (.putfield 15, 3) := by decide +kernel
theorem dX4_init_16 : decode cX4_init 16 = .ok (.aload_n 0, 1) := by decide +kernel
theorem dX4_init_17 : decode cX4_init 17 = .ok (.iconst 3, 1) := by decide +kernel
theorem dX4_init_18 : decode cX4_init 18 = .ok (.putfield 18, 3) := by decide +kernel
theorem dX4_init_21 : decode cX4_init 21 = .ok (.aload_n 0, 1) := by decide +kernel
theorem dX4_init_22 : decode cX4_init 22 = .ok (.ldc 21, 2) := by decide +kernel
theorem dX4_init_24 : decode cX4_init 24 = .ok (.putfield 22, 3) := by decide +kernel
theorem dX4_init_27 : decode cX4_init 27 = .ok (.aload_n 0, 1) := by decide +kernel
theorem dX4_init_28 : decode cX4_init 28 = .ok (.new 25, 3) := by decide +kernel
theorem dX4_init_31 : decode cX4_init 31 = .ok (.dup, 1) := by decide +kernel
theorem dX4_init_32 : decode cX4_init 32 = .ok (.invokespecial 27, 3) := by decide +kernel
theorem dX4_init_35 : decode cX4_init 35 = .ok (.putfield 28, 3) := by decide +kernel
theorem dX4_init_38 : decode cX4_init 38 = .ok (.aload_n 0, 1) := by decide +kernel
theorem dX4_init_39 : decode cX4_init 39 = .ok (.new 25, 3) := by decide +kernel
theorem dX4_init_42 : decode cX4_init 42 = .ok (.dup, 1) := by decide +kernel
theorem dX4_init_43 : decode cX4_init 43 = .ok (.invokespecial 27, 3) := by decide +kernel
theorem dX4_init_46 : decode cX4_init 46 = .ok (.putfield 32, 3) := by decide +kernel
theorem dX4_init_49 : decode cX4_init 49 = .ok (.aload_n 0, 1) := by decide +kernel
theorem dX4_init_50 : decode cX4_init 50 = .ok (.new 25, 3) := by decide +kernel
theorem dX4_init_53 : decode cX4_init 53 = .ok (.dup, 1) := by decide +kernel
theorem dX4_init_54 : decode cX4_init 54 = .ok (.invokespecial 27, 3) := by decide +kernel
theorem dX4_init_57 : decode cX4_init 57 = .ok (.putfield 35, 3) := by decide +kernel
theorem dX4_init_60 : decode cX4_init 60 = .ok (.aload_n 0, 1) := by decide +kernel
theorem dX4_init_61 : decode cX4_init 61 = .ok (.new 25, 3) := by decide +kernel
theorem dX4_init_64 : decode cX4_init 64 = .ok (.dup, 1) := by decide +kernel
theorem dX4_init_65 : decode cX4_init 65 = .ok (.invokespecial 27, 3) := by decide +kernel
theorem dX4_init_68 : decode cX4_init 68 = .ok (.putfield 38, 3) := by decide +kernel
theorem dX4_init_71 : decode cX4_init 71 = .ok (.aload_n 0, 1) := by decide +kernel
theorem dX4_init_72 : decode cX4_init 72 = .ok (.new 41, 3) := by decide +kernel
theorem dX4_init_75 : decode cX4_init 75 = .ok (.dup, 1) := by decide +kernel
theorem dX4_init_76 : decode cX4_init 76 = .ok (.bipush 20, 2) := by decide +kernel
theorem dX4_init_78 : decode cX4_init 78 = .ok (.invokespecial 43, 3) := by decide +kernel
theorem dX4_init_81 : decode cX4_init 81 = .ok (.putfield 46, 3) := by decide +kernel
theorem dX4_init_84 : decode cX4_init 84 = .ok (.aload_n 0, 1) := by decide +kernel
theorem dX4_init_85 : decode cX4_init 85 = .ok (.new 50, 3) := by decide +kernel
theorem dX4_init_88 : decode cX4_init 88 = .ok (.dup, 1) := by decide +kernel
theorem dX4_init_89 : decode cX4_init 89 = .ok (.invokespecial 52, 3) := by decide +kernel
theorem dX4_init_92 : decode cX4_init 92 = .ok (.putfield 53, 3) := by decide +kernel
theorem dX4_init_95 : decode cX4_init 95 = .ok (.aload_n 0, 1) := by decide +kernel
theorem dX4_init_96 : decode cX4_init 96 = .ok (.getfield 46, 3) := by decide +kernel
theorem dX4_init_99 : decode cX4_init 99 = .ok (.iconst (-1), 1) := by decide +kernel
theorem dX4_init_100 : decode cX4_init 100 = .ok (.invokevirtual 57, 3) := by decide +kernel
theorem dX4_init_103 : decode cX4_init 103 = .ok (.return_, 1) := by decide +kernel
theorem dX4_copyFrom_0 : decode cX4_copyFrom 0 = .ok (.aload_n 0, 1) := by decide +kernel
theorem dX4_copyFrom_1 : decode cX4_copyFrom 1 = .ok (.aload_n 1, 1) := by decide +kernel
theorem dX4_copyFrom_2 : decode cX4_copyFrom 2 = .ok (.getfield 9, 3) := by decide +kernel
theorem dX4_copyFrom_5 : decode cX4_copyFrom 5 = .ok (.putfield 9, 3) := by decide +kernel
theorem dX4_copyFrom_8 : decode cX4_copyFrom 8 = .ok (.aload_n 0, 1) := by decide +kernel
theorem dX4_copyFrom_9 : decode cX4_copyFrom 9 = .ok (.aload_n 1, 1) := by decide +kernel
theorem dX4_copyFrom_10 : decode cX4_copyFrom 10 = .ok (.getfield 15, 3) := by decide +kernel
theorem dX4_copyFrom_13 : decode cX4_copyFrom 13 = .ok (.putfield 15, 3) := by decide +kernel
theorem dX4_copyFrom_16 : decode cX4_copyFrom 16 = .ok (.aload_n 0, 1) := by decide +kernel
theorem dX4_copyFrom_17 : decode cX4_copyFrom 17 = .ok (.aload_n 1, 1) := by decide +kernel
theorem dX4_copyFrom_18 : decode cX4_copyFrom 18 = .ok (.getfield 60, 3) := by decide +kernel
theorem dX4_copyFrom_21 : decode cX4_copyFrom 21 = .ok (.putfield 60, 3) := by decide +kernel
theorem dX4_copyFrom_24 : decode cX4_copyFrom 24 = .ok (.aload_n 0, 1) := by decide +kernel
theorem dX4_copyFrom_25 : decode cX4_copyFrom 25 = .ok (.aload_n 1, 1) := by decide +kernel
theorem dX4_copyFrom_26 : decode cX4_copyFrom 26 = .ok (.getfield 18, 3) := by decide +kernel
theorem dX4_copyFrom_29 : decode cX4_copyFrom 29 = .ok (.putfield 18, 3) := by decide +kernel
theorem dX4_copyFrom_32 : decode cX4_copyFrom 32 = .ok (.aload_n 0, 1) := by decide +kernel
theorem dX4_copyFrom_33 : decode cX4_copyFrom 33 = .ok (.aload_n 1, 1) := by decide +kernel
theorem dX4_copyFrom_34 : decode cX4_copyFrom 34 = .ok (.getfield 22, 3) := by decide +kernel
theorem dX4_copyFrom_37 : decode cX4_copyFrom 37 = .ok (.putfield 22, 3) := by decide +kernel
theorem dX4_copyFrom_40 : decode cX4_copyFrom 40 = .ok (.aload_n 0, 1) := by decide +kernel
theorem dX4_copyFrom_41 : decode cX4_copyFrom 41 = .ok (.getfield 28, 3) := by decide +kernel
theorem dX4_copyFrom_44 : decode cX4_copyFrom 44 = .ok (.aload_n 1, 1) := by decide +kernel
theorem dX4_copyFrom_45 : decode cX4_copyFrom 45 = .ok (.getfield 28, 3) := by decide +kernel
theorem dX4_copyFrom_48 : decode cX4_copyFrom 48 = .ok (.invokevirtual 63, 3) := by decide +kernel
theorem dX4_copyFrom_51 : decode cX4_copyFrom 51 = .ok (.aload_n 0, 1) := by decide +kernel
theorem dX4_copyFrom_52 : decode cX4_copyFrom 52 = .ok (.getfield 32, 3) := by decide +kernel
theorem dX4_copyFrom_55 : decode cX4_copyFrom 55 = .ok (.aload_n 1, 1) := by decide +kernel
theorem dX4_copyFrom_56 : decode cX4_copyFrom 56 = .ok (.getfield 32, 3) := by decide +kernel
theorem dX4_copyFrom_59 : decode cX4_copyFrom 59 = .ok (.invokevirtual 63, 3) := by decide +kernel
theorem dX4_copyFrom_62 : decode cX4_copyFrom 62 = .ok (.aload_n 0, 1) := by decide +kernel
theorem dX4_copyFrom_63 : decode cX4_copyFrom 63 = .ok (.getfield 35, 3) := by decide +kernel
theorem dX4_copyFrom_66 : decode cX4_copyFrom 66 = .ok (.aload_n 1, 1) := by decide +kernel
theorem dX4_copyFrom_67 : decode cX4_copyFrom 67 = .ok (.getfield 35, 3) := by decide +kernel
theorem dX4_copyFrom_70 : decode cX4_copyFrom 70 = .ok (.invokevirtual 63, 3) := by decide +kernel
theorem dX4_copyFrom_73 : decode cX4_copyFrom 73 = .ok (.aload_n 0, 1) := by decide +kernel
theorem dX4_copyFrom_74 : decode cX4_copyFrom 74 = .ok (.getfield 38, 3) := by decide +kernel
theorem dX4_copyFrom_77 : decode cX4_copyFrom 77 = .ok (.aload_n 1, 1) := by decide +kernel
theorem dX4_copyFrom_78 : decode cX4_copyFrom 78 = .ok (.getfield 38, 3) := by decide +kernel
theorem dX4_copyFrom_81 : decode cX4_copyFrom 81 = .ok (.invokevirtual 63, 3) := by decide +kernel
theorem dX4_copyFrom_84 : decode cX4_copyFrom 84 = .ok (.aload_n 0, 1) := by decide +kernel
theorem dX4_copyFrom_85 : decode cX4_copyFrom 85 = .ok (.getfield 46, 3) := by decide +kernel
theorem dX4_copyFrom_88 : decode cX4_copyFrom 88 = .ok (.aload_n 1, 1) := by decide +kernel
theorem dX4_copyFrom_89 : decode cX4_copyFrom 89 = .ok (.getfield 46, 3) := by decide +kernel
theorem dX4_copyFrom_92 : decode cX4_copyFrom 92 = .ok (.invokevirtual 67, 3) := by decide +kernel
theorem dX4_copyFrom_95 : decode cX4_copyFrom 95 = .ok (.aload_n 0, 1) := by decide +kernel
theorem dX4_copyFrom_96 : decode cX4_copyFrom 96 = .ok (.getfield 53, 3) := by decide +kernel
theorem dX4_copyFrom_99 : decode cX4_copyFrom 99 = .ok (.aload_n 1, 1) := by decide +kernel
theorem dX4_copyFrom_100 : decode cX4_copyFrom 100 = .ok (.getfield 53, 3) := by decide +kernel
theorem dX4_copyFrom_103 : decode cX4_copyFrom 103 = .ok (.invokevirtual 70, 3) := by decide +kernel
theorem dX4_copyFrom_106 : decode cX4_copyFrom 106 = .ok (.return_, 1) := by decide +kernel
theorem dX4_whyNotBegin_0 : decode cX4_whyNotBegin 0 = .ok (.iconst 1, 1) := by decide +kernel
theorem dX4_whyNotBegin_1 : decode cX4_whyNotBegin 1 = .ok (.iload_n 1, 1) := by decide +kernel
theorem dX4_whyNotBegin_2 : decode cX4_whyNotBegin 2 = .ok (.bipush 20, 2) := by decide +kernel
theorem dX4_whyNotBegin_4 : decode cX4_whyNotBegin 4 = .ok (.invokestatic 73, 3) := by decide +kernel
theorem dX4_whyNotBegin_7 : decode cX4_whyNotBegin 7 = .ok (.ifCond .eq 17, 3) := by decide +kernel
theorem dX4_whyNotBegin_10 : decode cX4_whyNotBegin 10 = .ok (.iconst 1, 1) := by decide +kernel
theorem dX4_whyNotBegin_11 : decode cX4_whyNotBegin 11 = .ok (.iload_n 2, 1) := by decide +kernel
theorem dX4_whyNotBegin_12 : decode cX4_whyNotBegin 12 = .ok (.bipush 16, 2) := by decide +kernel
theorem dX4_whyNotBegin_14 : decode cX4_whyNotBegin 14 = .ok (.invokestatic 73, 3) := by decide +kernel
theorem dX4_whyNotBegin_17 : decode cX4_whyNotBegin 17 = .ok (.ifCond .eq 7, 3) := by decide +kernel
theorem dX4_whyNotBegin_20 : decode cX4_whyNotBegin 20 = .ok (.iconst 0, 1) := by decide +kernel
theorem dX4_whyNotBegin_21 : decode cX4_whyNotBegin 21 = .ok (.goto 4, 3) := by decide +kernel
theorem dX4_whyNotBegin_24 : decode cX4_whyNotBegin 24 = .ok (.iconst 2, 1) := by decide +kernel
theorem dX4_whyNotBegin_25 : decode cX4_whyNotBegin 25 = .ok (.ireturn, 1) := by decide +kernel
theorem dX4_whyNotFill_0 : decode cX4_whyNotFill 0 = .ok (.aload_n 0, 1) := by decide +kernel
theorem dX4_whyNotFill_1 : decode cX4_whyNotFill 1 = .ok (.iload_n 1, 1) := by decide +kernel
theorem dX4_whyNotFill_2 : decode cX4_whyNotFill 2 = .ok (.iload_n 2, 1) := by decide +kernel
theorem dX4_whyNotFill_3 : decode cX4_whyNotFill 3 = .ok (.invokevirtual 77, 3) := by decide +kernel
theorem dX4_whyNotFill_6 : decode cX4_whyNotFill 6 = .ok (.ifCond .eq 13, 3) := by decide +kernel
theorem dX4_whyNotFill_9 : decode cX4_whyNotFill 9 = .ok (.aload_n 0, 1) := by decide +kernel
theorem dX4_whyNotFill_10 : decode cX4_whyNotFill 10 = .ok (.iload_n 3, 1) := by decide +kernel
theorem dX4_whyNotFill_11 : decode cX4_whyNotFill 11 = .ok (.iload 4, 2) := by decide +kernel
theorem dX4_whyNotFill_13 : decode cX4_whyNotFill 13 = .ok (.invokevirtual 77, 3) := by decide +kernel
theorem dX4_whyNotFill_16 : decode cX4_whyNotFill 16 = .ok (.ifCond .ne 5, 3) := by decide +kernel
theorem dX4_whyNotFill_19 : decode cX4_whyNotFill 19 = .ok (.iconst 1, 1) := by decide +kernel
theorem dX4_whyNotFill_20 : decode cX4_whyNotFill 20 = .ok (.ireturn, 1) := by decide +kernel
theorem dX4_whyNotFill_21 : decode cX4_whyNotFill 21 = .ok (.iload_n 3, 1) := by decide +kernel
theorem dX4_whyNotFill_22 : decode cX4_whyNotFill 22 = .ok (.iload_n 1, 1) := by decide +kernel
theorem dX4_whyNotFill_23 : decode cX4_whyNotFill 23 = .ok (.if_icmp .lt 21, 3) := by decide +kernel
theorem dX4_whyNotFill_26 : decode cX4_whyNotFill 26 = .ok (.iload 4, 2) := by decide +kernel
theorem dX4_whyNotFill_28 : decode cX4_whyNotFill 28 = .ok (.iload_n 2, 1) := by decide +kernel
theorem dX4_whyNotFill_29 : decode cX4_whyNotFill 29 = .ok (.if_icmp .lt 15, 3) := by decide +kernel
theorem dX4_whyNotFill_32 : decode cX4_whyNotFill 32 = .ok (.iload 5, 2) := by decide +kernel
theorem dX4_whyNotFill_34 : decode cX4_whyNotFill 34 = .ok (.invokestatic 81, 3) := by decide +kernel
theorem dX4_whyNotFill_37 : decode cX4_whyNotFill 37 = .ok (.ifCond .eq 7, 3) := by decide +kernel
theorem dX4_whyNotFill_40 : decode cX4_whyNotFill 40 = .ok (.iconst 0, 1) := by decide +kernel
theorem dX4_whyNotFill_41 : decode cX4_whyNotFill 41 = .ok (.goto 4, 3) := by decide +kernel
theorem dX4_whyNotFill_44 : decode cX4_whyNotFill 44 = .ok (.iconst 2, 1) := by decide +kernel
theorem dX4_whyNotFill_45 : decode cX4_whyNotFill 45 = .ok (.ireturn, 1) := by decide +kernel
theorem dX4_whyNotAddLot_0 : decode cX4_whyNotAddLot 0 = .ok (.iload_n 1, 1) := by decide +kernel
theorem dX4_whyNotAddLot_1 : decode cX4_whyNotAddLot 1 = .ok (.invokestatic 81, 3) := by decide +kernel
theorem dX4_whyNotAddLot_4 : decode cX4_whyNotAddLot 4 = .ok (.ifCond .eq 21, 3) := by decide +kernel
theorem dX4_whyNotAddLot_7 : decode cX4_whyNotAddLot 7 = .ok (.iconst 1, 1) := by decide +kernel
theorem dX4_whyNotAddLot_8 : decode cX4_whyNotAddLot 8 = .ok (.iload_n 2, 1) := by decide +kernel
theorem dX4_whyNotAddLot_9 : decode cX4_whyNotAddLot 9 = .ok (.sipush 999, 3) := by decide +kernel
theorem dX4_whyNotAddLot_12 : decode cX4_whyNotAddLot 12 = .ok (.invokestatic 73, 3) := by decide +kernel
theorem dX4_whyNotAddLot_15 : decode cX4_whyNotAddLot 15 = .ok (.ifCond .eq 10, 3) := by decide +kernel
theorem dX4_whyNotAddLot_18 : decode cX4_whyNotAddLot 18 = .ok (.iload_n 3, 1) := by decide +kernel
theorem dX4_whyNotAddLot_19 : decode cX4_whyNotAddLot 19 = .ok (.invokestatic 85, 3) := by decide +kernel
theorem dX4_whyNotAddLot_22 : decode cX4_whyNotAddLot 22 = .ok (.ifCond .ne 5, 3) := by decide +kernel
theorem dX4_whyNotAddLot_25 : decode cX4_whyNotAddLot 25 = .ok (.iconst 2, 1) := by decide +kernel
theorem dX4_whyNotAddLot_26 : decode cX4_whyNotAddLot 26 = .ok (.ireturn, 1) := by decide +kernel
theorem dX4_whyNotAddLot_27 : decode cX4_whyNotAddLot 27 = .ok (.aload_n 0, 1) := by decide +kernel
theorem dX4_whyNotAddLot_28 : decode cX4_whyNotAddLot 28 = .ok (.getfield 53, 3) := by decide +kernel
theorem dX4_whyNotAddLot_31 : decode cX4_whyNotAddLot 31 = .ok (.getfield 90, 3) := by decide +kernel
theorem dX4_whyNotAddLot_34 : decode cX4_whyNotAddLot 34 = .ok (.bipush 16, 2) := by decide +kernel
theorem dX4_whyNotAddLot_36 : decode cX4_whyNotAddLot 36 = .ok (.if_icmp .ge 7, 3) := by decide +kernel
theorem dX4_whyNotAddLot_39 : decode cX4_whyNotAddLot 39 = .ok (.iconst 0, 1) := by decide +kernel
theorem dX4_whyNotAddLot_40 : decode cX4_whyNotAddLot 40 = .ok (.goto 4, 3) := by decide +kernel
theorem dX4_whyNotAddLot_43 : decode cX4_whyNotAddLot 43 = .ok (.iconst 3, 1) := by decide +kernel
theorem dX4_whyNotAddLot_44 : decode cX4_whyNotAddLot 44 = .ok (.ireturn, 1) := by decide +kernel
theorem dX4_whyNotLimit_0 : decode cX4_whyNotLimit 0 = .ok (.iconst 1, 1) := by decide +kernel
theorem dX4_whyNotLimit_1 : decode cX4_whyNotLimit 1 = .ok (.iload_n 1, 1) := by decide +kernel
theorem dX4_whyNotLimit_2 : decode cX4_whyNotLimit 2 = .ok (.bipush 16, 2) := by decide +kernel
theorem dX4_whyNotLimit_4 : decode cX4_whyNotLimit 4 = .ok (.invokestatic 73, 3) := by decide +kernel
theorem dX4_whyNotLimit_7 : decode cX4_whyNotLimit 7 = .ok (.ifCond .eq 7, 3) := by decide +kernel
theorem dX4_whyNotLimit_10 : decode cX4_whyNotLimit 10 = .ok (.iconst 0, 1) := by decide +kernel
theorem dX4_whyNotLimit_11 : decode cX4_whyNotLimit 11 = .ok (.goto 4, 3) := by decide +kernel
theorem dX4_whyNotLimit_14 : decode cX4_whyNotLimit 14 = .ok (.iconst 2, 1) := by decide +kernel
theorem dX4_whyNotLimit_15 : decode cX4_whyNotLimit 15 = .ok (.ireturn, 1) := by decide +kernel
theorem dX4_whyNotPlant_0 : decode cX4_whyNotPlant 0 = .ok (.iconst 0, 1) := by decide +kernel
theorem dX4_whyNotPlant_1 : decode cX4_whyNotPlant 1 = .ok (.iload_n 1, 1) := by decide +kernel
theorem dX4_whyNotPlant_2 : decode cX4_whyNotPlant 2 = .ok (.aload_n 0, 1) := by decide +kernel
theorem dX4_whyNotPlant_3 : decode cX4_whyNotPlant 3 = .ok (.getfield 9, 3) := by decide +kernel
theorem dX4_whyNotPlant_6 : decode cX4_whyNotPlant 6 = .ok (.iconst 1, 1) := by decide +kernel
theorem dX4_whyNotPlant_7 : decode cX4_whyNotPlant 7 = .ok (.isub, 1) := by decide +kernel
theorem dX4_whyNotPlant_8 : decode cX4_whyNotPlant 8 = .ok (.invokestatic 73, 3) := by decide +kernel
theorem dX4_whyNotPlant_11 : decode cX4_whyNotPlant 11 = .ok (.ifCond .ne 5, 3) := by decide +kernel
theorem dX4_whyNotPlant_14 : decode cX4_whyNotPlant 14 = .ok (.iconst 1, 1) := by decide +kernel
theorem dX4_whyNotPlant_15 : decode cX4_whyNotPlant 15 = .ok (.ireturn, 1) := by decide +kernel
theorem dX4_whyNotPlant_16 : decode cX4_whyNotPlant 16 = .ok (.iload_n 2, 1) := by decide +kernel
theorem dX4_whyNotPlant_17 : decode cX4_whyNotPlant 17 = .ok (.invokestatic 81, 3) := by decide +kernel
theorem dX4_whyNotPlant_20 : decode cX4_whyNotPlant 20 = .ok (.ifCond .eq 7, 3) := by decide +kernel
theorem dX4_whyNotPlant_23 : decode cX4_whyNotPlant 23 = .ok (.iconst 0, 1) := by decide +kernel
theorem dX4_whyNotPlant_24 : decode cX4_whyNotPlant 24 = .ok (.goto 4, 3) := by decide +kernel
theorem dX4_whyNotPlant_27 : decode cX4_whyNotPlant 27 = .ok (.iconst 2, 1) := by decide +kernel
theorem dX4_whyNotPlant_28 : decode cX4_whyNotPlant 28 = .ok (.ireturn, 1) := by decide +kernel
theorem dX4_whyNotWeave_0 : decode cX4_whyNotWeave 0 = .ok (.iconst 1, 1) := by decide +kernel
theorem dX4_whyNotWeave_1 : decode cX4_whyNotWeave 1 = .ok (.iload_n 1, 1) := by decide +kernel
theorem dX4_whyNotWeave_2 : decode cX4_whyNotWeave 2 = .ok (.bipush 16, 2) := by decide +kernel
theorem dX4_whyNotWeave_4 : decode cX4_whyNotWeave 4 = .ok (.invokestatic 73, 3) := by decide +kernel
theorem dX4_whyNotWeave_7 : decode cX4_whyNotWeave 7 = .ok (.ifCond .eq 7, 3) := by decide +kernel
theorem dX4_whyNotWeave_10 : decode cX4_whyNotWeave 10 = .ok (.iconst 0, 1) := by decide +kernel
theorem dX4_whyNotWeave_11 : decode cX4_whyNotWeave 11 = .ok (.goto 4, 3) := by decide +kernel
theorem dX4_whyNotWeave_14 : decode cX4_whyNotWeave 14 = .ok (.iconst 2, 1) := by decide +kernel
theorem dX4_whyNotWeave_15 : decode cX4_whyNotWeave 15 = .ok (.ireturn, 1) := by decide +kernel
theorem dX4_whyNotUnweave_0 : decode cX4_whyNotUnweave 0 = .ok (.iconst 1, 1) := by decide +kernel
theorem dX4_whyNotUnweave_1 : decode cX4_whyNotUnweave 1 = .ok (.iload_n 1, 1) := by decide +kernel
theorem dX4_whyNotUnweave_2 : decode cX4_whyNotUnweave 2 = .ok (.bipush 16, 2) := by decide +kernel
theorem dX4_whyNotUnweave_4 : decode cX4_whyNotUnweave 4 = .ok (.invokestatic 73, 3) := by decide +kernel
theorem dX4_whyNotUnweave_7 : decode cX4_whyNotUnweave 7 = .ok (.ifCond .ne 5, 3) := by decide +kernel
theorem dX4_whyNotUnweave_10 : decode cX4_whyNotUnweave 10 = .ok (.iconst 2, 1) := by decide +kernel
theorem dX4_whyNotUnweave_11 : decode cX4_whyNotUnweave 11 = .ok (.ireturn, 1) := by decide +kernel
theorem dX4_whyNotUnweave_12 : decode cX4_whyNotUnweave 12 = .ok (.iload_n 1, 1) := by decide +kernel
theorem dX4_whyNotUnweave_13 : decode cX4_whyNotUnweave 13 = .ok (.aload_n 0, 1) := by decide +kernel
theorem dX4_whyNotUnweave_14 : decode cX4_whyNotUnweave 14 = .ok (.getfield 60, 3) := by decide +kernel
theorem dX4_whyNotUnweave_17 : decode cX4_whyNotUnweave 17 = .ok (.if_icmp .gt 7, 3) := by decide +kernel
theorem dX4_whyNotUnweave_20 : decode cX4_whyNotUnweave 20 = .ok (.iconst 0, 1) := by decide +kernel
theorem dX4_whyNotUnweave_21 : decode cX4_whyNotUnweave 21 = .ok (.goto 4, 3) := by decide +kernel
theorem dX4_whyNotUnweave_24 : decode cX4_whyNotUnweave 24 = .ok (.iconst 3, 1) := by decide +kernel
theorem dX4_whyNotUnweave_25 : decode cX4_whyNotUnweave 25 = .ok (.ireturn, 1) := by decide +kernel
theorem dX4_whyNotSew_0 : decode cX4_whyNotSew 0 = .ok (.aload_n 0, 1) := by decide +kernel
theorem dX4_whyNotSew_1 : decode cX4_whyNotSew 1 = .ok (.iload_n 1, 1) := by decide +kernel
theorem dX4_whyNotSew_2 : decode cX4_whyNotSew 2 = .ok (.invokevirtual 93, 3) := by decide +kernel
theorem dX4_whyNotSew_5 : decode cX4_whyNotSew 5 = .ok (.istore_n 2, 1) := by decide +kernel
theorem dX4_whyNotSew_6 : decode cX4_whyNotSew 6 = .ok (.iload_n 2, 1) := by decide +kernel
theorem dX4_whyNotSew_7 : decode cX4_whyNotSew 7 = .ok (.iconst (-1), 1) := by decide +kernel
theorem dX4_whyNotSew_8 : decode cX4_whyNotSew 8 = .ok (.if_icmp .ne 5, 3) := by decide +kernel
theorem dX4_whyNotSew_11 : decode cX4_whyNotSew 11 = .ok (.iconst 1, 1) := by decide +kernel
theorem dX4_whyNotSew_12 : decode cX4_whyNotSew 12 = .ok (.ireturn, 1) := by decide +kernel
theorem dX4_whyNotSew_13 : decode cX4_whyNotSew 13 = .ok (.aload_n 0, 1) := by decide +kernel
theorem dX4_whyNotSew_14 : decode cX4_whyNotSew 14 = .ok (.iload_n 2, 1) := by decide +kernel
theorem dX4_whyNotSew_15 : decode cX4_whyNotSew 15 = .ok (.bipush 16, 2) := by decide +kernel
theorem dX4_whyNotSew_17 : decode cX4_whyNotSew 17 = .ok (.idiv, 1) := by decide +kernel
theorem dX4_whyNotSew_18 : decode cX4_whyNotSew 18 = .ok (.iload_n 2, 1) := by decide +kernel
theorem dX4_whyNotSew_19 : decode cX4_whyNotSew 19 = .ok (.bipush 16, 2) := by decide +kernel
theorem dX4_whyNotSew_21 : decode cX4_whyNotSew 21 = .ok (.irem, 1) := by decide +kernel
theorem dX4_whyNotSew_22 : decode cX4_whyNotSew 22 = .ok (.invokevirtual 97, 3) := by decide +kernel
theorem dX4_whyNotSew_25 : decode cX4_whyNotSew 25 = .ok (.ifCond .eq 7, 3) := by decide +kernel
theorem dX4_whyNotSew_28 : decode cX4_whyNotSew 28 = .ok (.iconst 3, 1) := by decide +kernel
theorem dX4_whyNotSew_29 : decode cX4_whyNotSew 29 = .ok (.goto 4, 3) := by decide +kernel
theorem dX4_whyNotSew_32 : decode cX4_whyNotSew 32 = .ok (.iconst 0, 1) := by decide +kernel
theorem dX4_whyNotSew_33 : decode cX4_whyNotSew 33 = .ok (.ireturn, 1) := by decide +kernel
theorem dX4_takeCartoon_0 : decode cX4_takeCartoon 0 = .ok (.aload_n 0, 1) := by decide +kernel
theorem dX4_takeCartoon_1 : decode cX4_takeCartoon 1 = .ok (.getfield 60, 3) := by decide +kernel
theorem dX4_takeCartoon_4 : decode cX4_takeCartoon 4 = .ok (.istore_n 3, 1) := by decide +kernel
theorem dX4_takeCartoon_5 : decode cX4_takeCartoon 5 = .ok (.aload_n 0, 1) := by decide +kernel
theorem dX4_takeCartoon_6 : decode cX4_takeCartoon 6 = .ok (.iload_n 1, 1) := by decide +kernel
theorem dX4_takeCartoon_7 : decode cX4_takeCartoon 7 = .ok (.putfield 9, 3) := by decide +kernel
theorem dX4_takeCartoon_10 : decode cX4_takeCartoon 10 = .ok (.aload_n 0, 1) := by decide +kernel
theorem dX4_takeCartoon_11 : decode cX4_takeCartoon 11 = .ok (.iload_n 2, 1) := by decide +kernel
theorem dX4_takeCartoon_12 : decode cX4_takeCartoon 12 = .ok (.putfield 15, 3) := by decide +kernel
theorem dX4_takeCartoon_15 : decode cX4_takeCartoon 15 = .ok (.aload_n 0, 1) := by decide +kernel
theorem dX4_takeCartoon_16 : decode cX4_takeCartoon 16 = .ok (.iconst 0, 1) := by decide +kernel
theorem dX4_takeCartoon_17 : decode cX4_takeCartoon 17 = .ok (.putfield 60, 3) := by decide +kernel
theorem dX4_takeCartoon_20 : decode cX4_takeCartoon 20 = .ok (.aload_n 0, 1) := by decide +kernel
theorem dX4_takeCartoon_21 : decode cX4_takeCartoon 21 = .ok (.getfield 28, 3) := by decide +kernel
theorem dX4_takeCartoon_24 : decode cX4_takeCartoon 24 = .ok (.iconst 0, 1) := by decide +kernel
theorem dX4_takeCartoon_25 : decode cX4_takeCartoon 25 = .ok (.invokevirtual 100, 3) := by decide +kernel
theorem dX4_takeCartoon_28 : decode cX4_takeCartoon 28 = .ok (.aload_n 0, 1) := by decide +kernel
theorem dX4_takeCartoon_29 : decode cX4_takeCartoon 29 = .ok (.getfield 38, 3) := by decide +kernel
theorem dX4_takeCartoon_32 : decode cX4_takeCartoon 32 = .ok (.iconst 0, 1) := by decide +kernel
theorem dX4_takeCartoon_33 : decode cX4_takeCartoon 33 = .ok (.invokevirtual 100, 3) := by decide +kernel
theorem dX4_takeCartoon_36 : decode cX4_takeCartoon 36 = .ok (.aload_n 0, 1) := by decide +kernel
theorem dX4_takeCartoon_37 : decode cX4_takeCartoon 37 = .ok (.getfield 46, 3) := by decide +kernel
theorem dX4_takeCartoon_40 : decode cX4_takeCartoon 40 = .ok (.iconst (-1), 1) := by decide +kernel
theorem dX4_takeCartoon_41 : decode cX4_takeCartoon 41 = .ok (.invokevirtual 57, 3) := by decide +kernel
theorem dX4_takeCartoon_44 : decode cX4_takeCartoon 44 = .ok (.iload_n 3, 1) := by decide +kernel
theorem dX4_takeCartoon_45 : decode cX4_takeCartoon 45 = .ok (.ireturn, 1) := by decide +kernel
theorem dX4_paint_0 : decode cX4_paint 0 = .ok (.iconst 0, 1) := by decide +kernel
theorem dX4_paint_1 : decode cX4_paint 1 = .ok (.istore 6, 2) := by decide +kernel
theorem dX4_paint_3 : decode cX4_paint 3 = .ok (.iload_n 2, 1) := by decide +kernel
theorem dX4_paint_4 : decode cX4_paint 4 = .ok (.istore 7, 2) := by decide +kernel
theorem dX4_paint_6 : decode cX4_paint 6 = .ok (.iload 7, 2) := by decide +kernel
theorem dX4_paint_8 : decode cX4_paint 8 = .ok (.iload 4, 2) := by decide +kernel
theorem dX4_paint_10 : decode cX4_paint 10 = .ok (.if_icmp .gt 89, 3) := by decide +kernel
theorem dX4_paint_13 : decode cX4_paint 13 = .ok (.iload 7, 2) := by decide +kernel
theorem dX4_paint_15 : decode cX4_paint 15 = .ok (.aload_n 0, 1) := by decide +kernel
theorem dX4_paint_16 : decode cX4_paint 16 = .ok (.getfield 15, 3) := by decide +kernel
theorem dX4_paint_19 : decode cX4_paint 19 = .ok (.if_icmp .ge 80, 3) := by decide +kernel
theorem dX4_paint_22 : decode cX4_paint 22 = .ok (.iload_n 1, 1) := by decide +kernel
theorem dX4_paint_23 : decode cX4_paint 23 = .ok (.istore 8, 2) := by decide +kernel
theorem dX4_paint_25 : decode cX4_paint 25 = .ok (.iload 8, 2) := by decide +kernel
theorem dX4_paint_27 : decode cX4_paint 27 = .ok (.iload_n 3, 1) := by decide +kernel
theorem dX4_paint_28 : decode cX4_paint 28 = .ok (.if_icmp .gt 65, 3) := by decide +kernel
theorem dX4_paint_31 : decode cX4_paint 31 = .ok (.iload 8, 2) := by decide +kernel
theorem dX4_paint_33 : decode cX4_paint 33 = .ok (.aload_n 0, 1) := by decide +kernel
theorem dX4_paint_34 : decode cX4_paint 34 = .ok (.getfield 9, 3) := by decide +kernel
theorem dX4_paint_37 : decode cX4_paint 37 = .ok (.if_icmp .ge 56, 3) := by decide +kernel
theorem dX4_paint_40 : decode cX4_paint 40 = .ok (.iload 6, 2) := by decide +kernel
theorem dX4_paint_42 : decode cX4_paint 42 = .ok (.aload_n 0, 1) := by decide +kernel
theorem dX4_paint_43 : decode cX4_paint 43 = .ok (.getfield 28, 3) := by decide +kernel
theorem dX4_paint_46 : decode cX4_paint 46 = .ok (.aload_n 0, 1) := by decide +kernel
theorem dX4_paint_47 : decode cX4_paint 47 = .ok (.iload 8, 2) := by decide +kernel
theorem dX4_paint_49 : decode cX4_paint 49 = .ok (.invokevirtual 101, 3) := by decide +kernel
theorem dX4_paint_52 : decode cX4_paint 52 = .ok (.iload 7, 2) := by decide +kernel
theorem dX4_paint_54 : decode cX4_paint 54 = .ok (.invokevirtual 104, 3) := by decide +kernel
theorem dX4_paint_57 : decode cX4_paint 57 = .ok (.iload 5, 2) := by decide +kernel
theorem dX4_paint_59 : decode cX4_paint 59 = .ok (.if_icmp .eq 7, 3) := by decide +kernel
theorem dX4_paint_62 : decode cX4_paint 62 = .ok (.iconst 1, 1) := by decide +kernel
theorem dX4_paint_63 : decode cX4_paint 63 = .ok (.goto 4, 3) := by decide +kernel
theorem dX4_paint_66 : decode cX4_paint 66 = .ok (.iconst 0, 1) := by decide +kernel
theorem dX4_paint_67 : decode cX4_paint 67 = .ok (.iadd, 1) := by decide +kernel
theorem dX4_paint_68 : decode cX4_paint 68 = .ok (.istore 6, 2) := by decide +kernel
theorem dX4_paint_70 : decode cX4_paint 70 = .ok (.aload_n 0, 1) := by decide +kernel
theorem dX4_paint_71 : decode cX4_paint 71 = .ok (.getfield 28, 3) := by decide +kernel
theorem dX4_paint_74 : decode cX4_paint 74 = .ok (.aload_n 0, 1) := by decide +kernel
theorem dX4_paint_75 : decode cX4_paint 75 = .ok (.iload 8, 2) := by decide +kernel
theorem dX4_paint_77 : decode cX4_paint 77 = .ok (.invokevirtual 101, 3) := by decide +kernel
theorem dX4_paint_80 : decode cX4_paint 80 = .ok (.iload 7, 2) := by decide +kernel
theorem dX4_paint_82 : decode cX4_paint 82 = .ok (.iload 5, 2) := by decide +kernel
theorem dX4_paint_84 : decode cX4_paint 84 = .ok (.invokevirtual 108, 3) := by decide +kernel
theorem dX4_paint_87 : decode cX4_paint 87 = .ok (.iinc 8 1, 3) := by decide +kernel
theorem dX4_paint_90 : decode cX4_paint 90 = .ok (.goto (-65), 3) := by decide +kernel
theorem dX4_paint_93 : decode cX4_paint 93 = .ok (.iinc 7 1, 3) := by decide +kernel
theorem dX4_paint_96 : decode cX4_paint 96 = .ok (.goto (-90), 3) := by decide +kernel
theorem dX4_paint_99 : decode cX4_paint 99 = .ok (.iload 6, 2) := by decide +kernel
theorem dX4_paint_101 : decode cX4_paint 101 = .ok (.ireturn, 1) := by decide +kernel
theorem dX4_changeLimit_0 : decode cX4_changeLimit 0 = .ok (.aload_n 0, 1) := by decide +kernel
theorem dX4_changeLimit_1 : decode cX4_changeLimit 1 = .ok (.getfield 18, 3) := by decide +kernel
theorem dX4_changeLimit_4 : decode cX4_changeLimit 4 = .ok (.istore_n 2, 1) := by decide +kernel
theorem dX4_changeLimit_5 : decode cX4_changeLimit 5 = .ok (.aload_n 0, 1) := by decide +kernel
theorem dX4_changeLimit_6 : decode cX4_changeLimit 6 = .ok (.iload_n 1, 1) := by decide +kernel
theorem dX4_changeLimit_7 : decode cX4_changeLimit 7 = .ok (.putfield 18, 3) := by decide +kernel
theorem dX4_changeLimit_10 : decode cX4_changeLimit 10 = .ok (.aload_n 0, 1) := by decide +kernel
theorem dX4_changeLimit_11 : decode cX4_changeLimit 11 = .ok (.invokevirtual 112, 3) := by decide +kernel
theorem dX4_changeLimit_14 : decode cX4_changeLimit 14 = .ok (.iload_n 2, 1) := by decide +kernel
theorem dX4_changeLimit_15 : decode cX4_changeLimit 15 = .ok (.ireturn, 1) := by decide +kernel
theorem dX4_plantMistake_0 : decode cX4_plantMistake 0 = .ok (.aload_n 0, 1) := by decide +kernel
theorem dX4_plantMistake_1 : decode cX4_plantMistake 1 = .ok (.getfield 46, 3) := by decide +kernel
theorem dX4_plantMistake_4 : decode cX4_plantMistake 4 = .ok (.iload_n 1, 1) := by decide +kernel
theorem dX4_plantMistake_5 : decode cX4_plantMistake 5 = .ok (.iload_n 2, 1) := by decide +kernel
theorem dX4_plantMistake_6 : decode cX4_plantMistake 6 = .ok (.invokevirtual 115, 3) := by decide +kernel
theorem dX4_plantMistake_9 : decode cX4_plantMistake 9 = .ok (.aload_n 0, 1) := by decide +kernel
theorem dX4_plantMistake_10 : decode cX4_plantMistake 10 = .ok (.getfield 46, 3) := by decide +kernel
theorem dX4_plantMistake_13 : decode cX4_plantMistake 13 = .ok (.iconst (-1), 1) := by decide +kernel
theorem dX4_plantMistake_14 : decode cX4_plantMistake 14 = .ok (.invokevirtual 118, 3) := by decide +kernel
theorem dX4_plantMistake_17 : decode cX4_plantMistake 17 = .ok (.ireturn, 1) := by decide +kernel
theorem dX4_weaveRows_0 : decode cX4_weaveRows 0 = .ok (.iconst 0, 1) := by decide +kernel
theorem dX4_weaveRows_1 : decode cX4_weaveRows 1 = .ok (.istore_n 2, 1) := by decide +kernel
theorem dX4_weaveRows_2 : decode cX4_weaveRows 2 = .ok (.iload_n 2, 1) := by decide +kernel
theorem dX4_weaveRows_3 : decode cX4_weaveRows 3 = .ok (.iload_n 1, 1) := by decide +kernel
theorem dX4_weaveRows_4 : decode cX4_weaveRows 4 = .ok (.if_icmp .ge 16, 3) := by decide +kernel
theorem dX4_weaveRows_7 : decode cX4_weaveRows 7 = .ok (.aload_n 0, 1) := by decide +kernel
theorem dX4_weaveRows_8 : decode cX4_weaveRows 8 = .ok (.invokevirtual 121, 3) := by decide +kernel
theorem dX4_weaveRows_11 : decode cX4_weaveRows 11 = .ok (.ifCond .eq 9, 3) := by decide +kernel
theorem dX4_weaveRows_14 : decode cX4_weaveRows 14 = .ok (.iinc 2 1, 3) := by decide +kernel
theorem dX4_weaveRows_17 : decode cX4_weaveRows 17 = .ok (.goto (-15), 3) := by decide +kernel
theorem dX4_weaveRows_20 : decode cX4_weaveRows 20 = .ok (.iload_n 2, 1) := by decide +kernel
theorem dX4_weaveRows_21 : decode cX4_weaveRows 21 = .ok (.ireturn, 1) := by decide +kernel
theorem dX4_weaveNext_0 : decode cX4_weaveNext 0 = .ok (.aload_n 0, 1) := by decide +kernel
theorem dX4_weaveNext_1 : decode cX4_weaveNext 1 = .ok (.getfield 60, 3) := by decide +kernel
theorem dX4_weaveNext_4 : decode cX4_weaveNext 4 = .ok (.istore_n 1, 1) := by decide +kernel
theorem dX4_weaveNext_5 : decode cX4_weaveNext 5 = .ok (.iload_n 1, 1) := by decide +kernel
theorem dX4_weaveNext_6 : decode cX4_weaveNext 6 = .ok (.aload_n 0, 1) := by decide +kernel
theorem dX4_weaveNext_7 : decode cX4_weaveNext 7 = .ok (.getfield 15, 3) := by decide +kernel
theorem dX4_weaveNext_10 : decode cX4_weaveNext 10 = .ok (.if_icmp .lt 5, 3) := by decide +kernel
theorem dX4_weaveNext_13 : decode cX4_weaveNext 13 = .ok (.iconst 0, 1) := by decide +kernel
theorem dX4_weaveNext_14 : decode cX4_weaveNext 14 = .ok (.ireturn, 1) := by decide +kernel
theorem dX4_weaveNext_15 : decode cX4_weaveNext 15 = .ok (.aload_n 0, 1) := by decide +kernel
theorem dX4_weaveNext_16 : decode cX4_weaveNext 16 = .ok (.iload_n 1, 1) := by decide +kernel
theorem dX4_weaveNext_17 : decode cX4_weaveNext 17 = .ok (.invokevirtual 125, 3) := by decide +kernel
theorem dX4_weaveNext_20 : decode cX4_weaveNext 20 = .ok (.aload_n 0, 1) := by decide +kernel
theorem dX4_weaveNext_21 : decode cX4_weaveNext 21 = .ok (.iload_n 1, 1) := by decide +kernel
theorem dX4_weaveNext_22 : decode cX4_weaveNext 22 = .ok (.invokevirtual 128, 3) := by decide +kernel
theorem dX4_weaveNext_25 : decode cX4_weaveNext 25 = .ok (.ifCond .ne 5, 3) := by decide +kernel
theorem dX4_weaveNext_28 : decode cX4_weaveNext 28 = .ok (.iconst 0, 1) := by decide +kernel
theorem dX4_weaveNext_29 : decode cX4_weaveNext 29 = .ok (.ireturn, 1) := by decide +kernel
theorem dX4_weaveNext_30 : decode cX4_weaveNext 30 = .ok (.iconst 0, 1) := by decide +kernel
theorem dX4_weaveNext_31 : decode cX4_weaveNext 31 = .ok (.istore_n 2, 1) := by decide +kernel
theorem dX4_weaveNext_32 : decode cX4_weaveNext 32 = .ok (.iload_n 2, 1) := by decide +kernel
theorem dX4_weaveNext_33 : decode cX4_weaveNext 33 = .ok (.aload_n 0, 1) := by decide +kernel
theorem dX4_weaveNext_34 : decode cX4_weaveNext 34 = .ok (.getfield 9, 3) := by decide +kernel
theorem dX4_weaveNext_37 : decode cX4_weaveNext 37 = .ok (.if_icmp .ge 57, 3) := by decide +kernel
theorem dX4_weaveNext_40 : decode cX4_weaveNext 40 = .ok (.aload_n 0, 1) := by decide +kernel
theorem dX4_weaveNext_41 : decode cX4_weaveNext 41 = .ok (.getfield 32, 3) := by decide +kernel
theorem dX4_weaveNext_44 : decode cX4_weaveNext 44 = .ok (.iload_n 2, 1) := by decide +kernel
theorem dX4_weaveNext_45 : decode cX4_weaveNext 45 = .ok (.iload_n 1, 1) := by decide +kernel
theorem dX4_weaveNext_46 : decode cX4_weaveNext 46 = .ok (.invokevirtual 104, 3) := by decide +kernel
theorem dX4_weaveNext_49 : decode cX4_weaveNext 49 = .ok (.istore_n 3, 1) := by decide +kernel
theorem dX4_weaveNext_50 : decode cX4_weaveNext 50 = .ok (.aload_n 0, 1) := by decide +kernel
theorem dX4_weaveNext_51 : decode cX4_weaveNext 51 = .ok (.getfield 32, 3) := by decide +kernel
theorem dX4_weaveNext_54 : decode cX4_weaveNext 54 = .ok (.iload_n 2, 1) := by decide +kernel
theorem dX4_weaveNext_55 : decode cX4_weaveNext 55 = .ok (.iload_n 1, 1) := by decide +kernel
theorem dX4_weaveNext_56 : decode cX4_weaveNext 56 = .ok (.invokevirtual 131, 3) := by decide +kernel
theorem dX4_weaveNext_59 : decode cX4_weaveNext 59 = .ok (.ifCond .eq 12, 3) := by decide +kernel
theorem dX4_weaveNext_62 : decode cX4_weaveNext 62 = .ok (.aload_n 0, 1) := by decide +kernel
theorem dX4_weaveNext_63 : decode cX4_weaveNext 63 = .ok (.getfield 53, 3) := by decide +kernel
theorem dX4_weaveNext_66 : decode cX4_weaveNext 66 = .ok (.iload_n 3, 1) := by decide +kernel
theorem dX4_weaveNext_67 : decode cX4_weaveNext 67 = .ok (.invokevirtual 134, 3) := by decide +kernel
theorem dX4_weaveNext_70 : decode cX4_weaveNext 70 = .ok (.pop, 1) := by decide +kernel
theorem dX4_weaveNext_71 : decode cX4_weaveNext 71 = .ok (.aload_n 0, 1) := by decide +kernel
theorem dX4_weaveNext_72 : decode cX4_weaveNext 72 = .ok (.getfield 35, 3) := by decide +kernel
theorem dX4_weaveNext_75 : decode cX4_weaveNext 75 = .ok (.iload_n 2, 1) := by decide +kernel
theorem dX4_weaveNext_76 : decode cX4_weaveNext 76 = .ok (.iload_n 1, 1) := by decide +kernel
theorem dX4_weaveNext_77 : decode cX4_weaveNext 77 = .ok (.aload_n 0, 1) := by decide +kernel
theorem dX4_weaveNext_78 : decode cX4_weaveNext 78 = .ok (.getfield 53, 3) := by decide +kernel
theorem dX4_weaveNext_81 : decode cX4_weaveNext 81 = .ok (.iload_n 3, 1) := by decide +kernel
theorem dX4_weaveNext_82 : decode cX4_weaveNext 82 = .ok (.invokevirtual 134, 3) := by decide +kernel
theorem dX4_weaveNext_85 : decode cX4_weaveNext 85 = .ok (.invokevirtual 108, 3) := by decide +kernel
theorem dX4_weaveNext_88 : decode cX4_weaveNext 88 = .ok (.iinc 2 1, 3) := by decide +kernel
theorem dX4_weaveNext_91 : decode cX4_weaveNext 91 = .ok (.goto (-59), 3) := by decide +kernel
theorem dX4_weaveNext_94 : decode cX4_weaveNext 94 = .ok (.aload_n 0, 1) := by decide +kernel
theorem dX4_weaveNext_95 : decode cX4_weaveNext 95 = .ok (.getfield 46, 3) := by decide +kernel
theorem dX4_weaveNext_98 : decode cX4_weaveNext 98 = .ok (.iconst (-1), 1) := by decide +kernel
theorem dX4_weaveNext_99 : decode cX4_weaveNext 99 = .ok (.invokevirtual 57, 3) := by decide +kernel
theorem dX4_weaveNext_102 : decode cX4_weaveNext 102 = .ok (.aload_n 0, 1) := by decide +kernel
theorem dX4_weaveNext_103 : decode cX4_weaveNext 103 = .ok (.dup, 1) := by decide +kernel
theorem dX4_weaveNext_104 : decode cX4_weaveNext 104 = .ok (.getfield 60, 3) := by decide +kernel
theorem dX4_weaveNext_107 : decode cX4_weaveNext 107 = .ok (.iconst 1, 1) := by decide +kernel
theorem dX4_weaveNext_108 : decode cX4_weaveNext 108 = .ok (.iadd, 1) := by decide +kernel
theorem dX4_weaveNext_109 : decode cX4_weaveNext 109 = .ok (.putfield 60, 3) := by decide +kernel
theorem dX4_weaveNext_112 : decode cX4_weaveNext 112 = .ok (.iconst 1, 1) := by decide +kernel
theorem dX4_weaveNext_113 : decode cX4_weaveNext 113 = .ok (.ireturn, 1) := by decide +kernel
theorem dX4_layColors_0 : decode cX4_layColors 0 = .ok (.iconst 0, 1) := by decide +kernel
theorem dX4_layColors_1 : decode cX4_layColors 1 = .ok (.istore_n 2, 1) := by decide +kernel
theorem dX4_layColors_2 : decode cX4_layColors 2 = .ok (.iload_n 2, 1) := by decide +kernel
theorem dX4_layColors_3 : decode cX4_layColors 3 = .ok (.aload_n 0, 1) := by decide +kernel
theorem dX4_layColors_4 : decode cX4_layColors 4 = .ok (.getfield 9, 3) := by decide +kernel
theorem dX4_layColors_7 : decode cX4_layColors 7 = .ok (.if_icmp .ge 45, 3) := by decide +kernel
theorem dX4_layColors_10 : decode cX4_layColors 10 = .ok (.aload_n 0, 1) := by decide +kernel
theorem dX4_layColors_11 : decode cX4_layColors 11 = .ok (.getfield 46, 3) := by decide +kernel
theorem dX4_layColors_14 : decode cX4_layColors 14 = .ok (.iload_n 2, 1) := by decide +kernel
theorem dX4_layColors_15 : decode cX4_layColors 15 = .ok (.invokevirtual 137, 3) := by decide +kernel
theorem dX4_layColors_18 : decode cX4_layColors 18 = .ok (.istore_n 3, 1) := by decide +kernel
theorem dX4_layColors_19 : decode cX4_layColors 19 = .ok (.aload_n 0, 1) := by decide +kernel
theorem dX4_layColors_20 : decode cX4_layColors 20 = .ok (.getfield 32, 3) := by decide +kernel
theorem dX4_layColors_23 : decode cX4_layColors 23 = .ok (.iload_n 2, 1) := by decide +kernel
theorem dX4_layColors_24 : decode cX4_layColors 24 = .ok (.iload_n 1, 1) := by decide +kernel
theorem dX4_layColors_25 : decode cX4_layColors 25 = .ok (.iload_n 3, 1) := by decide +kernel
theorem dX4_layColors_26 : decode cX4_layColors 26 = .ok (.iconst (-1), 1) := by decide +kernel
theorem dX4_layColors_27 : decode cX4_layColors 27 = .ok (.if_icmp .ne 15, 3) := by decide +kernel
theorem dX4_layColors_30 : decode cX4_layColors 30 = .ok (.aload_n 0, 1) := by decide +kernel
theorem dX4_layColors_31 : decode cX4_layColors 31 = .ok (.getfield 28, 3) := by decide +kernel
theorem dX4_layColors_34 : decode cX4_layColors 34 = .ok (.iload_n 2, 1) := by decide +kernel
theorem dX4_layColors_35 : decode cX4_layColors 35 = .ok (.iload_n 1, 1) := by decide +kernel
theorem dX4_layColors_36 : decode cX4_layColors 36 = .ok (.invokevirtual 104, 3) := by decide +kernel
theorem dX4_layColors_39 : decode cX4_layColors 39 = .ok (.goto 4, 3) := by decide +kernel
theorem dX4_layColors_42 : decode cX4_layColors 42 = .ok (.iload_n 3, 1) := by decide +kernel
theorem dX4_layColors_43 : decode cX4_layColors 43 = .ok (.invokevirtual 108, 3) := by decide +kernel
theorem dX4_layColors_46 : decode cX4_layColors 46 = .ok (.iinc 2 1, 3) := by decide +kernel
theorem dX4_layColors_49 : decode cX4_layColors 49 = .ok (.goto (-47), 3) := by decide +kernel
theorem dX4_layColors_52 : decode cX4_layColors 52 = .ok (.return_, 1) := by decide +kernel
theorem dX4_hasYarnFor_0 : decode cX4_hasYarnFor 0 = .ok (.iconst 0, 1) := by decide +kernel
theorem dX4_hasYarnFor_1 : decode cX4_hasYarnFor 1 = .ok (.istore_n 2, 1) := by decide +kernel
theorem dX4_hasYarnFor_2 : decode cX4_hasYarnFor 2 = .ok (.iload_n 2, 1) := by decide +kernel
theorem dX4_hasYarnFor_3 : decode cX4_hasYarnFor 3 = .ok (.bipush 8, 2) := by decide +kernel
theorem dX4_hasYarnFor_5 : decode cX4_hasYarnFor 5 = .ok (.if_icmp .ge 35, 3) := by decide +kernel
theorem dX4_hasYarnFor_8 : decode cX4_hasYarnFor 8 = .ok (.aload_n 0, 1) := by decide +kernel
theorem dX4_hasYarnFor_9 : decode cX4_hasYarnFor 9 = .ok (.getfield 32, 3) := by decide +kernel
theorem dX4_hasYarnFor_12 : decode cX4_hasYarnFor 12 = .ok (.iload_n 2, 1) := by decide +kernel
theorem dX4_hasYarnFor_13 : decode cX4_hasYarnFor 13 = .ok (.iload_n 1, 1) := by decide +kernel
theorem dX4_hasYarnFor_14 : decode cX4_hasYarnFor 14 = .ok (.aload_n 0, 1) := by decide +kernel
theorem dX4_hasYarnFor_15 : decode cX4_hasYarnFor 15 = .ok (.getfield 9, 3) := by decide +kernel
theorem dX4_hasYarnFor_18 : decode cX4_hasYarnFor 18 = .ok (.invokevirtual 139, 3) := by decide +kernel
theorem dX4_hasYarnFor_21 : decode cX4_hasYarnFor 21 = .ok (.aload_n 0, 1) := by decide +kernel
theorem dX4_hasYarnFor_22 : decode cX4_hasYarnFor 22 = .ok (.getfield 53, 3) := by decide +kernel
theorem dX4_hasYarnFor_25 : decode cX4_hasYarnFor 25 = .ok (.iload_n 2, 1) := by decide +kernel
theorem dX4_hasYarnFor_26 : decode cX4_hasYarnFor 26 = .ok (.invokevirtual 143, 3) := by decide +kernel
theorem dX4_hasYarnFor_29 : decode cX4_hasYarnFor 29 = .ok (.if_icmp .le 5, 3) := by decide +kernel
theorem dX4_hasYarnFor_32 : decode cX4_hasYarnFor 32 = .ok (.iconst 0, 1) := by decide +kernel
theorem dX4_hasYarnFor_33 : decode cX4_hasYarnFor 33 = .ok (.ireturn, 1) := by decide +kernel
theorem dX4_hasYarnFor_34 : decode cX4_hasYarnFor 34 = .ok (.iinc 2 1, 3) := by decide +kernel
theorem dX4_hasYarnFor_37 : decode cX4_hasYarnFor 37 = .ok (.goto (-35), 3) := by decide +kernel
theorem dX4_hasYarnFor_40 : decode cX4_hasYarnFor 40 = .ok (.iconst 1, 1) := by decide +kernel
theorem dX4_hasYarnFor_41 : decode cX4_hasYarnFor 41 = .ok (.ireturn, 1) := by decide +kernel
theorem dX4_unweaveRows_0 : decode cX4_unweaveRows 0 = .ok (.iconst 0, 1) := by decide +kernel
theorem dX4_unweaveRows_1 : decode cX4_unweaveRows 1 = .ok (.istore_n 2, 1) := by decide +kernel
theorem dX4_unweaveRows_2 : decode cX4_unweaveRows 2 = .ok (.iconst 0, 1) := by decide +kernel
theorem dX4_unweaveRows_3 : decode cX4_unweaveRows 3 = .ok (.istore_n 3, 1) := by decide +kernel
theorem dX4_unweaveRows_4 : decode cX4_unweaveRows 4 = .ok (.iload_n 3, 1) := by decide +kernel
theorem dX4_unweaveRows_5 : decode cX4_unweaveRows 5 = .ok (.iload_n 1, 1) := by decide +kernel
theorem dX4_unweaveRows_6 : decode cX4_unweaveRows 6 = .ok (.if_icmp .ge 67, 3) := by decide +kernel
theorem dX4_unweaveRows_9 : decode cX4_unweaveRows 9 = .ok (.aload_n 0, 1) := by decide +kernel
theorem dX4_unweaveRows_10 : decode cX4_unweaveRows 10 = .ok (.getfield 60, 3) := by decide +kernel
theorem dX4_unweaveRows_13 : decode cX4_unweaveRows 13 = .ok (.ifCond .le 60, 3) := by decide +kernel
theorem dX4_unweaveRows_16 : decode cX4_unweaveRows 16 = .ok (.aload_n 0, 1) := by decide +kernel
theorem dX4_unweaveRows_17 : decode cX4_unweaveRows 17 = .ok (.dup, 1) := by decide +kernel
theorem dX4_unweaveRows_18 : decode cX4_unweaveRows 18 = .ok (.getfield 60, 3) := by decide +kernel
theorem dX4_unweaveRows_21 : decode cX4_unweaveRows 21 = .ok (.iconst 1, 1) := by decide +kernel
theorem dX4_unweaveRows_22 : decode cX4_unweaveRows 22 = .ok (.isub, 1) := by decide +kernel
theorem dX4_unweaveRows_23 : decode cX4_unweaveRows 23 = .ok (.putfield 60, 3) := by decide +kernel
theorem dX4_unweaveRows_26 : decode cX4_unweaveRows 26 = .ok (.iconst 0, 1) := by decide +kernel
theorem dX4_unweaveRows_27 : decode cX4_unweaveRows 27 = .ok (.istore 4, 2) := by decide +kernel
theorem dX4_unweaveRows_29 : decode cX4_unweaveRows 29 = .ok (.iload 4, 2) := by decide +kernel
theorem dX4_unweaveRows_31 : decode cX4_unweaveRows 31 = .ok (.aload_n 0, 1) := by decide +kernel
theorem dX4_unweaveRows_32 : decode cX4_unweaveRows 32 = .ok (.getfield 9, 3) := by decide +kernel
theorem dX4_unweaveRows_35 : decode cX4_unweaveRows 35 = .ok (.if_icmp .ge 32, 3) := by decide +kernel
theorem dX4_unweaveRows_38 : decode cX4_unweaveRows 38 = .ok (.aload_n 0, 1) := by decide +kernel
theorem dX4_unweaveRows_39 : decode cX4_unweaveRows 39 = .ok (.getfield 53, 3) := by decide +kernel
theorem dX4_unweaveRows_42 : decode cX4_unweaveRows 42 = .ok (.aload_n 0, 1) := by decide +kernel
theorem dX4_unweaveRows_43 : decode cX4_unweaveRows 43 = .ok (.getfield 35, 3) := by decide +kernel
theorem dX4_unweaveRows_46 : decode cX4_unweaveRows 46 = .ok (.iload 4, 2) := by decide +kernel
theorem dX4_unweaveRows_48 : decode cX4_unweaveRows 48 = .ok (.aload_n 0, 1) := by decide +kernel
theorem dX4_unweaveRows_49 : decode cX4_unweaveRows 49 = .ok (.getfield 60, 3) := by decide +kernel
theorem dX4_unweaveRows_52 : decode cX4_unweaveRows 52 = .ok (.invokevirtual 104, 3) := by decide +kernel
theorem dX4_unweaveRows_55 : decode cX4_unweaveRows 55 = .ok (.invokevirtual 146, 3) := by decide +kernel
theorem dX4_unweaveRows_58 : decode cX4_unweaveRows 58 = .ok (.iinc 2 1, 3) := by decide +kernel
theorem dX4_unweaveRows_61 : decode cX4_unweaveRows 61 = .ok (.iinc 4 1, 3) := by decide +kernel
theorem dX4_unweaveRows_64 : decode cX4_unweaveRows 64 = .ok (.goto (-35), 3) := by decide +kernel
theorem dX4_unweaveRows_67 : decode cX4_unweaveRows 67 = .ok (.iinc 3 1, 3) := by decide +kernel
theorem dX4_unweaveRows_70 : decode cX4_unweaveRows 70 = .ok (.goto (-66), 3) := by decide +kernel
theorem dX4_unweaveRows_73 : decode cX4_unweaveRows 73 = .ok (.aload_n 0, 1) := by decide +kernel
theorem dX4_unweaveRows_74 : decode cX4_unweaveRows 74 = .ok (.invokevirtual 112, 3) := by decide +kernel
theorem dX4_unweaveRows_77 : decode cX4_unweaveRows 77 = .ok (.iload_n 2, 1) := by decide +kernel
theorem dX4_unweaveRows_78 : decode cX4_unweaveRows 78 = .ok (.ireturn, 1) := by decide +kernel
theorem dX4_sewSlit_0 : decode cX4_sewSlit 0 = .ok (.aload_n 0, 1) := by decide +kernel
theorem dX4_sewSlit_1 : decode cX4_sewSlit 1 = .ok (.iload_n 1, 1) := by decide +kernel
theorem dX4_sewSlit_2 : decode cX4_sewSlit 2 = .ok (.invokevirtual 93, 3) := by decide +kernel
theorem dX4_sewSlit_5 : decode cX4_sewSlit 5 = .ok (.istore_n 2, 1) := by decide +kernel
theorem dX4_sewSlit_6 : decode cX4_sewSlit 6 = .ok (.iload_n 2, 1) := by decide +kernel
theorem dX4_sewSlit_7 : decode cX4_sewSlit 7 = .ok (.iconst (-1), 1) := by decide +kernel
theorem dX4_sewSlit_8 : decode cX4_sewSlit 8 = .ok (.if_icmp .eq 19, 3) := by decide +kernel
theorem dX4_sewSlit_11 : decode cX4_sewSlit 11 = .ok (.aload_n 0, 1) := by decide +kernel
theorem dX4_sewSlit_12 : decode cX4_sewSlit 12 = .ok (.getfield 38, 3) := by decide +kernel
theorem dX4_sewSlit_15 : decode cX4_sewSlit 15 = .ok (.iload_n 2, 1) := by decide +kernel
theorem dX4_sewSlit_16 : decode cX4_sewSlit 16 = .ok (.bipush 16, 2) := by decide +kernel
theorem dX4_sewSlit_18 : decode cX4_sewSlit 18 = .ok (.idiv, 1) := by decide +kernel
theorem dX4_sewSlit_19 : decode cX4_sewSlit 19 = .ok (.iload_n 2, 1) := by decide +kernel
theorem dX4_sewSlit_20 : decode cX4_sewSlit 20 = .ok (.bipush 16, 2) := by decide +kernel
theorem dX4_sewSlit_22 : decode cX4_sewSlit 22 = .ok (.irem, 1) := by decide +kernel
theorem dX4_sewSlit_23 : decode cX4_sewSlit 23 = .ok (.iconst 1, 1) := by decide +kernel
theorem dX4_sewSlit_24 : decode cX4_sewSlit 24 = .ok (.invokevirtual 108, 3) := by decide +kernel
theorem dX4_sewSlit_27 : decode cX4_sewSlit 27 = .ok (.aload_n 0, 1) := by decide +kernel
theorem dX4_sewSlit_28 : decode cX4_sewSlit 28 = .ok (.aload_n 0, 1) := by decide +kernel
theorem dX4_sewSlit_29 : decode cX4_sewSlit 29 = .ok (.getfield 18, 3) := by decide +kernel
theorem dX4_sewSlit_32 : decode cX4_sewSlit 32 = .ok (.invokevirtual 149, 3) := by decide +kernel
theorem dX4_sewSlit_35 : decode cX4_sewSlit 35 = .ok (.aload_n 0, 1) := by decide +kernel
theorem dX4_sewSlit_36 : decode cX4_sewSlit 36 = .ok (.invokevirtual 152, 3) := by decide +kernel
theorem dX4_sewSlit_39 : decode cX4_sewSlit 39 = .ok (.isub, 1) := by decide +kernel
theorem dX4_sewSlit_40 : decode cX4_sewSlit 40 = .ok (.ireturn, 1) := by decide +kernel
theorem dX4_forgetLostSlits_0 : decode cX4_forgetLostSlits 0 = .ok (.iconst 0, 1) := by decide +kernel
theorem dX4_forgetLostSlits_1 : decode cX4_forgetLostSlits 1 = .ok (.istore_n 1, 1) := by decide +kernel
theorem dX4_forgetLostSlits_2 : decode cX4_forgetLostSlits 2 = .ok (.iload_n 1, 1) := by decide +kernel
theorem dX4_forgetLostSlits_3 : decode cX4_forgetLostSlits 3 = .ok (.bipush 20, 2) := by decide +kernel
theorem dX4_forgetLostSlits_5 : decode cX4_forgetLostSlits 5 = .ok (.if_icmp .ge 55, 3) := by decide +kernel
theorem dX4_forgetLostSlits_8 : decode cX4_forgetLostSlits 8 = .ok (.iconst 0, 1) := by decide +kernel
theorem dX4_forgetLostSlits_9 : decode cX4_forgetLostSlits 9 = .ok (.istore_n 2, 1) := by decide +kernel
theorem dX4_forgetLostSlits_10 : decode cX4_forgetLostSlits 10 = .ok (.iload_n 2, 1) := by decide +kernel
theorem dX4_forgetLostSlits_11 : decode cX4_forgetLostSlits 11 = .ok (.bipush 16, 2) := by decide +kernel
theorem dX4_forgetLostSlits_13 : decode cX4_forgetLostSlits 13 = .ok (.if_icmp .ge 41, 3) := by decide +kernel
theorem dX4_forgetLostSlits_16 : decode cX4_forgetLostSlits 16 = .ok (.aload_n 0, 1) := by decide +kernel
theorem dX4_forgetLostSlits_17 : decode cX4_forgetLostSlits 17 = .ok (.iload_n 1, 1) := by decide +kernel
theorem dX4_forgetLostSlits_18 : decode cX4_forgetLostSlits 18 = .ok (.iload_n 2, 1) := by decide +kernel
theorem dX4_forgetLostSlits_19 : decode cX4_forgetLostSlits 19 = .ok (.invokevirtual 97, 3) := by decide +kernel
theorem dX4_forgetLostSlits_22 : decode cX4_forgetLostSlits 22 = .ok (.ifCond .eq 26, 3) := by decide +kernel
theorem dX4_forgetLostSlits_25 : decode cX4_forgetLostSlits 25 = .ok (.aload_n 0, 1) := by decide +kernel
theorem dX4_forgetLostSlits_26 : decode cX4_forgetLostSlits 26 = .ok (.iload_n 1, 1) := by decide +kernel
theorem dX4_forgetLostSlits_27 : decode cX4_forgetLostSlits 27 = .ok (.iload_n 2, 1) := by decide +kernel
theorem dX4_forgetLostSlits_28 : decode cX4_forgetLostSlits 28 = .ok (.invokevirtual 156, 3) := by decide +kernel
theorem dX4_forgetLostSlits_31 : decode cX4_forgetLostSlits 31 = .ok (.aload_n 0, 1) := by decide +kernel
theorem dX4_forgetLostSlits_32 : decode cX4_forgetLostSlits 32 = .ok (.getfield 18, 3) := by decide +kernel
theorem dX4_forgetLostSlits_35 : decode cX4_forgetLostSlits 35 = .ok (.if_icmp .gt 13, 3) := by decide +kernel
theorem dX4_forgetLostSlits_38 : decode cX4_forgetLostSlits 38 = .ok (.aload_n 0, 1) := by decide +kernel
theorem dX4_forgetLostSlits_39 : decode cX4_forgetLostSlits 39 = .ok (.getfield 38, 3) := by decide +kernel
theorem dX4_forgetLostSlits_42 : decode cX4_forgetLostSlits 42 = .ok (.iload_n 1, 1) := by decide +kernel
theorem dX4_forgetLostSlits_43 : decode cX4_forgetLostSlits 43 = .ok (.iload_n 2, 1) := by decide +kernel
theorem dX4_forgetLostSlits_44 : decode cX4_forgetLostSlits 44 = .ok (.iconst 0, 1) := by decide +kernel
theorem dX4_forgetLostSlits_45 : decode cX4_forgetLostSlits 45 = .ok (.invokevirtual 108, 3) := by decide +kernel
theorem dX4_forgetLostSlits_48 : decode cX4_forgetLostSlits 48 = .ok (.iinc 2 1, 3) := by decide +kernel
theorem dX4_forgetLostSlits_51 : decode cX4_forgetLostSlits 51 = .ok (.goto (-41), 3) := by decide +kernel
theorem dX4_forgetLostSlits_54 : decode cX4_forgetLostSlits 54 = .ok (.iinc 1 1, 3) := by decide +kernel
theorem dX4_forgetLostSlits_57 : decode cX4_forgetLostSlits 57 = .ok (.goto (-55), 3) := by decide +kernel
theorem dX4_forgetLostSlits_60 : decode cX4_forgetLostSlits 60 = .ok (.return_, 1) := by decide +kernel
theorem dX4_hasCell_0 : decode cX4_hasCell 0 = .ok (.iconst 0, 1) := by decide +kernel
theorem dX4_hasCell_1 : decode cX4_hasCell 1 = .ok (.iload_n 1, 1) := by decide +kernel
theorem dX4_hasCell_2 : decode cX4_hasCell 2 = .ok (.aload_n 0, 1) := by decide +kernel
theorem dX4_hasCell_3 : decode cX4_hasCell 3 = .ok (.getfield 9, 3) := by decide +kernel
theorem dX4_hasCell_6 : decode cX4_hasCell 6 = .ok (.iconst 1, 1) := by decide +kernel
theorem dX4_hasCell_7 : decode cX4_hasCell 7 = .ok (.isub, 1) := by decide +kernel
theorem dX4_hasCell_8 : decode cX4_hasCell 8 = .ok (.invokestatic 73, 3) := by decide +kernel
theorem dX4_hasCell_11 : decode cX4_hasCell 11 = .ok (.ifCond .eq 21, 3) := by decide +kernel
theorem dX4_hasCell_14 : decode cX4_hasCell 14 = .ok (.iconst 0, 1) := by decide +kernel
theorem dX4_hasCell_15 : decode cX4_hasCell 15 = .ok (.iload_n 2, 1) := by decide +kernel
theorem dX4_hasCell_16 : decode cX4_hasCell 16 = .ok (.aload_n 0, 1) := by decide +kernel
theorem dX4_hasCell_17 : decode cX4_hasCell 17 = .ok (.getfield 15, 3) := by decide +kernel
theorem dX4_hasCell_20 : decode cX4_hasCell 20 = .ok (.iconst 1, 1) := by decide +kernel
theorem dX4_hasCell_21 : decode cX4_hasCell 21 = .ok (.isub, 1) := by decide +kernel
theorem dX4_hasCell_22 : decode cX4_hasCell 22 = .ok (.invokestatic 73, 3) := by decide +kernel
theorem dX4_hasCell_25 : decode cX4_hasCell 25 = .ok (.ifCond .eq 7, 3) := by decide +kernel
theorem dX4_hasCell_28 : decode cX4_hasCell 28 = .ok (.iconst 1, 1) := by decide +kernel
theorem dX4_hasCell_29 : decode cX4_hasCell 29 = .ok (.goto 4, 3) := by decide +kernel
theorem dX4_hasCell_32 : decode cX4_hasCell 32 = .ok (.iconst 0, 1) := by decide +kernel
theorem dX4_hasCell_33 : decode cX4_hasCell 33 = .ok (.ireturn, 1) := by decide +kernel
theorem dX4_isWoven_0 : decode cX4_isWoven 0 = .ok (.iload_n 1, 1) := by decide +kernel
theorem dX4_isWoven_1 : decode cX4_isWoven 1 = .ok (.ifCond .lt 15, 3) := by decide +kernel
theorem dX4_isWoven_4 : decode cX4_isWoven 4 = .ok (.iload_n 1, 1) := by decide +kernel
theorem dX4_isWoven_5 : decode cX4_isWoven 5 = .ok (.aload_n 0, 1) := by decide +kernel
theorem dX4_isWoven_6 : decode cX4_isWoven 6 = .ok (.getfield 60, 3) := by decide +kernel
theorem dX4_isWoven_9 : decode cX4_isWoven 9 = .ok (.if_icmp .ge 7, 3) := by decide +kernel
theorem dX4_isWoven_12 : decode cX4_isWoven 12 = .ok (.iconst 1, 1) := by decide +kernel
theorem dX4_isWoven_13 : decode cX4_isWoven 13 = .ok (.goto 4, 3) := by decide +kernel
theorem dX4_isWoven_16 : decode cX4_isWoven 16 = .ok (.iconst 0, 1) := by decide +kernel
theorem dX4_isWoven_17 : decode cX4_isWoven 17 = .ok (.ireturn, 1) := by decide +kernel
theorem dX4_mirror_0 : decode cX4_mirror 0 = .ok (.aload_n 0, 1) := by decide +kernel
theorem dX4_mirror_1 : decode cX4_mirror 1 = .ok (.getfield 9, 3) := by decide +kernel
theorem dX4_mirror_4 : decode cX4_mirror 4 = .ok (.iconst 1, 1) := by decide +kernel
theorem dX4_mirror_5 : decode cX4_mirror 5 = .ok (.isub, 1) := by decide +kernel
theorem dX4_mirror_6 : decode cX4_mirror 6 = .ok (.iload_n 1, 1) := by decide +kernel
theorem dX4_mirror_7 : decode cX4_mirror 7 = .ok (.isub, 1) := by decide +kernel
theorem dX4_mirror_8 : decode cX4_mirror 8 = .ok (.ireturn, 1) := by decide +kernel
theorem dX4_wovenColor_0 : decode cX4_wovenColor 0 = .ok (.iload_n 1, 1) := by decide +kernel
theorem dX4_wovenColor_1 : decode cX4_wovenColor 1 = .ok (.aload_n 0, 1) := by decide +kernel
theorem dX4_wovenColor_2 : decode cX4_wovenColor 2 = .ok (.getfield 9, 3) := by decide +kernel
theorem dX4_wovenColor_5 : decode cX4_wovenColor 5 = .ok (.if_icmp .ge 23, 3) := by decide +kernel
theorem dX4_wovenColor_8 : decode cX4_wovenColor 8 = .ok (.iload_n 2, 1) := by decide +kernel
theorem dX4_wovenColor_9 : decode cX4_wovenColor 9 = .ok (.aload_n 0, 1) := by decide +kernel
theorem dX4_wovenColor_10 : decode cX4_wovenColor 10 = .ok (.getfield 60, 3) := by decide +kernel
theorem dX4_wovenColor_13 : decode cX4_wovenColor 13 = .ok (.if_icmp .ge 15, 3) := by decide +kernel
theorem dX4_wovenColor_16 : decode cX4_wovenColor 16 = .ok (.aload_n 0, 1) := by decide +kernel
theorem dX4_wovenColor_17 : decode cX4_wovenColor 17 = .ok (.getfield 32, 3) := by decide +kernel
theorem dX4_wovenColor_20 : decode cX4_wovenColor 20 = .ok (.iload_n 1, 1) := by decide +kernel
theorem dX4_wovenColor_21 : decode cX4_wovenColor 21 = .ok (.iload_n 2, 1) := by decide +kernel
theorem dX4_wovenColor_22 : decode cX4_wovenColor 22 = .ok (.invokevirtual 104, 3) := by decide +kernel
theorem dX4_wovenColor_25 : decode cX4_wovenColor 25 = .ok (.goto 4, 3) := by decide +kernel
theorem dX4_wovenColor_28 : decode cX4_wovenColor 28 = .ok (.iconst (-1), 1) := by decide +kernel
theorem dX4_wovenColor_29 : decode cX4_wovenColor 29 = .ok (.ireturn, 1) := by decide +kernel
theorem dX4_shadeAt_0 : decode cX4_shadeAt 0 = .ok (.aload_n 0, 1) := by decide +kernel
theorem dX4_shadeAt_1 : decode cX4_shadeAt 1 = .ok (.getfield 53, 3) := by decide +kernel
theorem dX4_shadeAt_4 : decode cX4_shadeAt 4 = .ok (.aload_n 0, 1) := by decide +kernel
theorem dX4_shadeAt_5 : decode cX4_shadeAt 5 = .ok (.getfield 35, 3) := by decide +kernel
theorem dX4_shadeAt_8 : decode cX4_shadeAt 8 = .ok (.iload_n 1, 1) := by decide +kernel
theorem dX4_shadeAt_9 : decode cX4_shadeAt 9 = .ok (.iload_n 2, 1) := by decide +kernel
theorem dX4_shadeAt_10 : decode cX4_shadeAt 10 = .ok (.invokevirtual 104, 3) := by decide +kernel
theorem dX4_shadeAt_13 : decode cX4_shadeAt 13 = .ok (.invokevirtual 159, 3) := by decide +kernel
theorem dX4_shadeAt_16 : decode cX4_shadeAt 16 = .ok (.freturn, 1) := by decide +kernel
theorem dX4_isWrong_0 : decode cX4_isWrong 0 = .ok (.aload_n 0, 1) := by decide +kernel
theorem dX4_isWrong_1 : decode cX4_isWrong 1 = .ok (.getfield 32, 3) := by decide +kernel
theorem dX4_isWrong_4 : decode cX4_isWrong 4 = .ok (.iload_n 1, 1) := by decide +kernel
theorem dX4_isWrong_5 : decode cX4_isWrong 5 = .ok (.iload_n 2, 1) := by decide +kernel
theorem dX4_isWrong_6 : decode cX4_isWrong 6 = .ok (.invokevirtual 104, 3) := by decide +kernel
theorem dX4_isWrong_9 : decode cX4_isWrong 9 = .ok (.aload_n 0, 1) := by decide +kernel
theorem dX4_isWrong_10 : decode cX4_isWrong 10 = .ok (.getfield 28, 3) := by decide +kernel
theorem dX4_isWrong_13 : decode cX4_isWrong 13 = .ok (.iload_n 1, 1) := by decide +kernel
theorem dX4_isWrong_14 : decode cX4_isWrong 14 = .ok (.iload_n 2, 1) := by decide +kernel
theorem dX4_isWrong_15 : decode cX4_isWrong 15 = .ok (.invokevirtual 104, 3) := by decide +kernel
theorem dX4_isWrong_18 : decode cX4_isWrong 18 = .ok (.if_icmp .eq 7, 3) := by decide +kernel
theorem dX4_isWrong_21 : decode cX4_isWrong 21 = .ok (.iconst 1, 1) := by decide +kernel
theorem dX4_isWrong_22 : decode cX4_isWrong 22 = .ok (.goto 4, 3) := by decide +kernel
theorem dX4_isWrong_25 : decode cX4_isWrong 25 = .ok (.iconst 0, 1) := by decide +kernel
theorem dX4_isWrong_26 : decode cX4_isWrong 26 = .ok (.ireturn, 1) := by decide +kernel
theorem dX4_cellValue_0 : decode cX4_cellValue 0 = .ok (.aload_n 0, 1) := by decide +kernel
theorem dX4_cellValue_1 : decode cX4_cellValue 1 = .ok (.iload_n 1, 1) := by decide +kernel
theorem dX4_cellValue_2 : decode cX4_cellValue 2 = .ok (.invokevirtual 101, 3) := by decide +kernel
theorem dX4_cellValue_5 : decode cX4_cellValue 5 = .ok (.istore 4, 2) := by decide +kernel
theorem dX4_cellValue_7 : decode cX4_cellValue 7 = .ok (.iload_n 3, 1) := by decide +kernel
theorem dX4_cellValue_8 : decode cX4_cellValue 8 = .ok (.ifCond .ne 14, 3) := by decide +kernel
theorem dX4_cellValue_11 : decode cX4_cellValue 11 = .ok (.aload_n 0, 1) := by decide +kernel
theorem dX4_cellValue_12 : decode cX4_cellValue 12 = .ok (.getfield 28, 3) := by decide +kernel
theorem dX4_cellValue_15 : decode cX4_cellValue 15 = .ok (.iload 4, 2) := by decide +kernel
theorem dX4_cellValue_17 : decode cX4_cellValue 17 = .ok (.iload_n 2, 1) := by decide +kernel
theorem dX4_cellValue_18 : decode cX4_cellValue 18 = .ok (.invokevirtual 104, 3) := by decide +kernel
theorem dX4_cellValue_21 : decode cX4_cellValue 21 = .ok (.ireturn, 1) := by decide +kernel
theorem dX4_cellValue_22 : decode cX4_cellValue 22 = .ok (.iload_n 3, 1) := by decide +kernel
theorem dX4_cellValue_23 : decode cX4_cellValue 23 = .ok (.iconst 1, 1) := by decide +kernel
theorem dX4_cellValue_24 : decode cX4_cellValue 24 = .ok (.if_icmp .ne 11, 3) := by decide +kernel
theorem dX4_cellValue_27 : decode cX4_cellValue 27 = .ok (.aload_n 0, 1) := by decide +kernel
theorem dX4_cellValue_28 : decode cX4_cellValue 28 = .ok (.iload 4, 2) := by decide +kernel
theorem dX4_cellValue_30 : decode cX4_cellValue 30 = .ok (.iload_n 2, 1) := by decide +kernel
theorem dX4_cellValue_31 : decode cX4_cellValue 31 = .ok (.invokevirtual 163, 3) := by decide +kernel
theorem dX4_cellValue_34 : decode cX4_cellValue 34 = .ok (.ireturn, 1) := by decide +kernel
theorem dX4_cellValue_35 : decode cX4_cellValue 35 = .ok (.iload_n 3, 1) := by decide +kernel
theorem dX4_cellValue_36 : decode cX4_cellValue 36 = .ok (.iconst 2, 1) := by decide +kernel
theorem dX4_cellValue_37 : decode cX4_cellValue 37 = .ok (.if_icmp .ne 26, 3) := by decide +kernel
theorem dX4_cellValue_40 : decode cX4_cellValue 40 = .ok (.aload_n 0, 1) := by decide +kernel
theorem dX4_cellValue_41 : decode cX4_cellValue 41 = .ok (.iload_n 2, 1) := by decide +kernel
theorem dX4_cellValue_42 : decode cX4_cellValue 42 = .ok (.invokevirtual 166, 3) := by decide +kernel
theorem dX4_cellValue_45 : decode cX4_cellValue 45 = .ok (.ifCond .eq 16, 3) := by decide +kernel
theorem dX4_cellValue_48 : decode cX4_cellValue 48 = .ok (.aload_n 0, 1) := by decide +kernel
theorem dX4_cellValue_49 : decode cX4_cellValue 49 = .ok (.getfield 35, 3) := by decide +kernel
theorem dX4_cellValue_52 : decode cX4_cellValue 52 = .ok (.iload 4, 2) := by decide +kernel
theorem dX4_cellValue_54 : decode cX4_cellValue 54 = .ok (.iload_n 2, 1) := by decide +kernel
theorem dX4_cellValue_55 : decode cX4_cellValue 55 = .ok (.invokevirtual 104, 3) := by decide +kernel
theorem dX4_cellValue_58 : decode cX4_cellValue 58 = .ok (.goto 4, 3) := by decide +kernel
theorem dX4_cellValue_61 : decode cX4_cellValue 61 = .ok (.iconst (-1), 1) := by decide +kernel
theorem dX4_cellValue_62 : decode cX4_cellValue 62 = .ok (.ireturn, 1) := by decide +kernel
theorem dX4_cellValue_63 : decode cX4_cellValue 63 = .ok (.iload 4, 2) := by decide +kernel
theorem dX4_cellValue_65 : decode cX4_cellValue 65 = .ok (.ireturn, 1) := by decide +kernel
theorem dX4_rowValue_0 : decode cX4_rowValue 0 = .ok (.iload_n 2, 1) := by decide +kernel
theorem dX4_rowValue_1 : decode cX4_rowValue 1 = .ok (.ifCond .ne 16, 3) := by decide +kernel
theorem dX4_rowValue_4 : decode cX4_rowValue 4 = .ok (.aload_n 0, 1) := by decide +kernel
theorem dX4_rowValue_5 : decode cX4_rowValue 5 = .ok (.getfield 32, 3) := by decide +kernel
theorem dX4_rowValue_8 : decode cX4_rowValue 8 = .ok (.iload_n 1, 1) := by decide +kernel
theorem dX4_rowValue_9 : decode cX4_rowValue 9 = .ok (.aload_n 0, 1) := by decide +kernel
theorem dX4_rowValue_10 : decode cX4_rowValue 10 = .ok (.getfield 9, 3) := by decide +kernel
theorem dX4_rowValue_13 : decode cX4_rowValue 13 = .ok (.invokevirtual 169, 3) := by decide +kernel
theorem dX4_rowValue_16 : decode cX4_rowValue 16 = .ok (.ireturn, 1) := by decide +kernel
theorem dX4_rowValue_17 : decode cX4_rowValue 17 = .ok (.iload_n 2, 1) := by decide +kernel
theorem dX4_rowValue_18 : decode cX4_rowValue 18 = .ok (.iconst 1, 1) := by decide +kernel
theorem dX4_rowValue_19 : decode cX4_rowValue 19 = .ok (.if_icmp .ne 9, 3) := by decide +kernel
theorem dX4_rowValue_22 : decode cX4_rowValue 22 = .ok (.aload_n 0, 1) := by decide +kernel
theorem dX4_rowValue_23 : decode cX4_rowValue 23 = .ok (.iload_n 1, 1) := by decide +kernel
theorem dX4_rowValue_24 : decode cX4_rowValue 24 = .ok (.invokevirtual 172, 3) := by decide +kernel
theorem dX4_rowValue_27 : decode cX4_rowValue 27 = .ok (.ireturn, 1) := by decide +kernel
theorem dX4_rowValue_28 : decode cX4_rowValue 28 = .ok (.iload_n 2, 1) := by decide +kernel
theorem dX4_rowValue_29 : decode cX4_rowValue 29 = .ok (.iconst 2, 1) := by decide +kernel
theorem dX4_rowValue_30 : decode cX4_rowValue 30 = .ok (.if_icmp .ne 9, 3) := by decide +kernel
theorem dX4_rowValue_33 : decode cX4_rowValue 33 = .ok (.aload_n 0, 1) := by decide +kernel
theorem dX4_rowValue_34 : decode cX4_rowValue 34 = .ok (.iload_n 1, 1) := by decide +kernel
theorem dX4_rowValue_35 : decode cX4_rowValue 35 = .ok (.invokevirtual 175, 3) := by decide +kernel
theorem dX4_rowValue_38 : decode cX4_rowValue 38 = .ok (.ireturn, 1) := by decide +kernel
theorem dX4_rowValue_39 : decode cX4_rowValue 39 = .ok (.iload_n 2, 1) := by decide +kernel
theorem dX4_rowValue_40 : decode cX4_rowValue 40 = .ok (.iconst 3, 1) := by decide +kernel
theorem dX4_rowValue_41 : decode cX4_rowValue 41 = .ok (.if_icmp .ne 21, 3) := by decide +kernel
theorem dX4_rowValue_44 : decode cX4_rowValue 44 = .ok (.aload_n 0, 1) := by decide +kernel
theorem dX4_rowValue_45 : decode cX4_rowValue 45 = .ok (.getfield 9, 3) := by decide +kernel
theorem dX4_rowValue_48 : decode cX4_rowValue 48 = .ok (.aload_n 0, 1) := by decide +kernel
theorem dX4_rowValue_49 : decode cX4_rowValue 49 = .ok (.getfield 32, 3) := by decide +kernel
theorem dX4_rowValue_52 : decode cX4_rowValue 52 = .ok (.iload_n 1, 1) := by decide +kernel
theorem dX4_rowValue_53 : decode cX4_rowValue 53 = .ok (.aload_n 0, 1) := by decide +kernel
theorem dX4_rowValue_54 : decode cX4_rowValue 54 = .ok (.getfield 9, 3) := by decide +kernel
theorem dX4_rowValue_57 : decode cX4_rowValue 57 = .ok (.invokevirtual 169, 3) := by decide +kernel
theorem dX4_rowValue_60 : decode cX4_rowValue 60 = .ok (.iadd, 1) := by decide +kernel
theorem dX4_rowValue_61 : decode cX4_rowValue 61 = .ok (.ireturn, 1) := by decide +kernel
theorem dX4_rowValue_62 : decode cX4_rowValue 62 = .ok (.aload_n 0, 1) := by decide +kernel
theorem dX4_rowValue_63 : decode cX4_rowValue 63 = .ok (.iload_n 1, 1) := by decide +kernel
theorem dX4_rowValue_64 : decode cX4_rowValue 64 = .ok (.invokevirtual 178, 3) := by decide +kernel
theorem dX4_rowValue_67 : decode cX4_rowValue 67 = .ok (.ireturn, 1) := by decide +kernel
theorem dX4_newShuttles_0 : decode cX4_newShuttles 0 = .ok (.iconst 0, 1) := by decide +kernel
theorem dX4_newShuttles_1 : decode cX4_newShuttles 1 = .ok (.istore_n 2, 1) := by decide +kernel
theorem dX4_newShuttles_2 : decode cX4_newShuttles 2 = .ok (.iconst 0, 1) := by decide +kernel
theorem dX4_newShuttles_3 : decode cX4_newShuttles 3 = .ok (.istore_n 3, 1) := by decide +kernel
theorem dX4_newShuttles_4 : decode cX4_newShuttles 4 = .ok (.iload_n 3, 1) := by decide +kernel
theorem dX4_newShuttles_5 : decode cX4_newShuttles 5 = .ok (.aload_n 0, 1) := by decide +kernel
theorem dX4_newShuttles_6 : decode cX4_newShuttles 6 = .ok (.getfield 9, 3) := by decide +kernel
theorem dX4_newShuttles_9 : decode cX4_newShuttles 9 = .ok (.if_icmp .ge 38, 3) := by decide +kernel
theorem dX4_newShuttles_12 : decode cX4_newShuttles 12 = .ok (.iload_n 2, 1) := by decide +kernel
theorem dX4_newShuttles_13 : decode cX4_newShuttles 13 = .ok (.aload_n 0, 1) := by decide +kernel
theorem dX4_newShuttles_14 : decode cX4_newShuttles 14 = .ok (.getfield 32, 3) := by decide +kernel
theorem dX4_newShuttles_17 : decode cX4_newShuttles 17 = .ok (.iload_n 3, 1) := by decide +kernel
theorem dX4_newShuttles_18 : decode cX4_newShuttles 18 = .ok (.iload_n 1, 1) := by decide +kernel
theorem dX4_newShuttles_19 : decode cX4_newShuttles 19 = .ok (.invokevirtual 131, 3) := by decide +kernel
theorem dX4_newShuttles_22 : decode cX4_newShuttles 22 = .ok (.ifCond .eq 16, 3) := by decide +kernel
theorem dX4_newShuttles_25 : decode cX4_newShuttles 25 = .ok (.aload_n 0, 1) := by decide +kernel
theorem dX4_newShuttles_26 : decode cX4_newShuttles 26 = .ok (.iload_n 3, 1) := by decide +kernel
theorem dX4_newShuttles_27 : decode cX4_newShuttles 27 = .ok (.iload_n 1, 1) := by decide +kernel
theorem dX4_newShuttles_28 : decode cX4_newShuttles 28 = .ok (.invokevirtual 181, 3) := by decide +kernel
theorem dX4_newShuttles_31 : decode cX4_newShuttles 31 = .ok (.ifCond .eq 7, 3) := by decide +kernel
theorem dX4_newShuttles_34 : decode cX4_newShuttles 34 = .ok (.iconst 1, 1) := by decide +kernel
theorem dX4_newShuttles_35 : decode cX4_newShuttles 35 = .ok (.goto 4, 3) := by decide +kernel
theorem dX4_newShuttles_38 : decode cX4_newShuttles 38 = .ok (.iconst 0, 1) := by decide +kernel
theorem dX4_newShuttles_39 : decode cX4_newShuttles 39 = .ok (.iadd, 1) := by decide +kernel
theorem dX4_newShuttles_40 : decode cX4_newShuttles 40 = .ok (.istore_n 2, 1) := by decide +kernel
theorem dX4_newShuttles_41 : decode cX4_newShuttles 41 = .ok (.iinc 3 1, 3) := by decide +kernel
theorem dX4_newShuttles_44 : decode cX4_newShuttles 44 = .ok (.goto (-40), 3) := by decide +kernel
theorem dX4_newShuttles_47 : decode cX4_newShuttles 47 = .ok (.iload_n 2, 1) := by decide +kernel
theorem dX4_newShuttles_48 : decode cX4_newShuttles 48 = .ok (.ireturn, 1) := by decide +kernel
theorem dX4_isNewRun_0 : decode cX4_isNewRun 0 = .ok (.aload_n 0, 1) := by decide +kernel
theorem dX4_isNewRun_1 : decode cX4_isNewRun 1 = .ok (.getfield 32, 3) := by decide +kernel
theorem dX4_isNewRun_4 : decode cX4_isNewRun 4 = .ok (.iload_n 1, 1) := by decide +kernel
theorem dX4_isNewRun_5 : decode cX4_isNewRun 5 = .ok (.iload_n 2, 1) := by decide +kernel
theorem dX4_isNewRun_6 : decode cX4_isNewRun 6 = .ok (.invokevirtual 104, 3) := by decide +kernel
theorem dX4_isNewRun_9 : decode cX4_isNewRun 9 = .ok (.istore_n 3, 1) := by decide +kernel
theorem dX4_isNewRun_10 : decode cX4_isNewRun 10 = .ok (.iload_n 1, 1) := by decide +kernel
theorem dX4_isNewRun_11 : decode cX4_isNewRun 11 = .ok (.istore 4, 2) := by decide +kernel
theorem dX4_isNewRun_13 : decode cX4_isNewRun 13 = .ok (.iload 4, 2) := by decide +kernel
theorem dX4_isNewRun_15 : decode cX4_isNewRun 15 = .ok (.aload_n 0, 1) := by decide +kernel
theorem dX4_isNewRun_16 : decode cX4_isNewRun 16 = .ok (.getfield 9, 3) := by decide +kernel
theorem dX4_isNewRun_19 : decode cX4_isNewRun 19 = .ok (.if_icmp .ge 41, 3) := by decide +kernel
theorem dX4_isNewRun_22 : decode cX4_isNewRun 22 = .ok (.aload_n 0, 1) := by decide +kernel
theorem dX4_isNewRun_23 : decode cX4_isNewRun 23 = .ok (.getfield 32, 3) := by decide +kernel
theorem dX4_isNewRun_26 : decode cX4_isNewRun 26 = .ok (.iload 4, 2) := by decide +kernel
theorem dX4_isNewRun_28 : decode cX4_isNewRun 28 = .ok (.iload_n 2, 1) := by decide +kernel
theorem dX4_isNewRun_29 : decode cX4_isNewRun 29 = .ok (.invokevirtual 104, 3) := by decide +kernel
theorem dX4_isNewRun_32 : decode cX4_isNewRun 32 = .ok (.iload_n 3, 1) := by decide +kernel
theorem dX4_isNewRun_33 : decode cX4_isNewRun 33 = .ok (.if_icmp .ne 27, 3) := by decide +kernel
theorem dX4_isNewRun_36 : decode cX4_isNewRun 36 = .ok (.aload_n 0, 1) := by decide +kernel
theorem dX4_isNewRun_37 : decode cX4_isNewRun 37 = .ok (.getfield 32, 3) := by decide +kernel
theorem dX4_isNewRun_40 : decode cX4_isNewRun 40 = .ok (.iload 4, 2) := by decide +kernel
theorem dX4_isNewRun_42 : decode cX4_isNewRun 42 = .ok (.iload_n 2, 1) := by decide +kernel
theorem dX4_isNewRun_43 : decode cX4_isNewRun 43 = .ok (.iconst 1, 1) := by decide +kernel
theorem dX4_isNewRun_44 : decode cX4_isNewRun 44 = .ok (.isub, 1) := by decide +kernel
theorem dX4_isNewRun_45 : decode cX4_isNewRun 45 = .ok (.invokevirtual 104, 3) := by decide +kernel
theorem dX4_isNewRun_48 : decode cX4_isNewRun 48 = .ok (.iload_n 3, 1) := by decide +kernel
theorem dX4_isNewRun_49 : decode cX4_isNewRun 49 = .ok (.if_icmp .ne 5, 3) := by decide +kernel
theorem dX4_isNewRun_52 : decode cX4_isNewRun 52 = .ok (.iconst 0, 1) := by decide +kernel
theorem dX4_isNewRun_53 : decode cX4_isNewRun 53 = .ok (.ireturn, 1) := by decide +kernel
theorem dX4_isNewRun_54 : decode cX4_isNewRun 54 = .ok (.iinc 4 1, 3) := by decide +kernel
theorem dX4_isNewRun_57 : decode cX4_isNewRun 57 = .ok (.goto (-44), 3) := by decide +kernel
theorem dX4_isNewRun_60 : decode cX4_isNewRun 60 = .ok (.iconst 1, 1) := by decide +kernel
theorem dX4_isNewRun_61 : decode cX4_isNewRun 61 = .ok (.ireturn, 1) := by decide +kernel
theorem dX4_wrongCells_0 : decode cX4_wrongCells 0 = .ok (.iconst 0, 1) := by decide +kernel
theorem dX4_wrongCells_1 : decode cX4_wrongCells 1 = .ok (.istore_n 2, 1) := by decide +kernel
theorem dX4_wrongCells_2 : decode cX4_wrongCells 2 = .ok (.iconst 0, 1) := by decide +kernel
theorem dX4_wrongCells_3 : decode cX4_wrongCells 3 = .ok (.istore_n 3, 1) := by decide +kernel
theorem dX4_wrongCells_4 : decode cX4_wrongCells 4 = .ok (.iload_n 3, 1) := by decide +kernel
theorem dX4_wrongCells_5 : decode cX4_wrongCells 5 = .ok (.aload_n 0, 1) := by decide +kernel
theorem dX4_wrongCells_6 : decode cX4_wrongCells 6 = .ok (.getfield 9, 3) := by decide +kernel
theorem dX4_wrongCells_9 : decode cX4_wrongCells 9 = .ok (.if_icmp .ge 26, 3) := by decide +kernel
theorem dX4_wrongCells_12 : decode cX4_wrongCells 12 = .ok (.iload_n 2, 1) := by decide +kernel
theorem dX4_wrongCells_13 : decode cX4_wrongCells 13 = .ok (.aload_n 0, 1) := by decide +kernel
theorem dX4_wrongCells_14 : decode cX4_wrongCells 14 = .ok (.iload_n 3, 1) := by decide +kernel
theorem dX4_wrongCells_15 : decode cX4_wrongCells 15 = .ok (.iload_n 1, 1) := by decide +kernel
theorem dX4_wrongCells_16 : decode cX4_wrongCells 16 = .ok (.invokevirtual 184, 3) := by decide +kernel
theorem dX4_wrongCells_19 : decode cX4_wrongCells 19 = .ok (.ifCond .eq 7, 3) := by decide +kernel
theorem dX4_wrongCells_22 : decode cX4_wrongCells 22 = .ok (.iconst 1, 1) := by decide +kernel
theorem dX4_wrongCells_23 : decode cX4_wrongCells 23 = .ok (.goto 4, 3) := by decide +kernel
theorem dX4_wrongCells_26 : decode cX4_wrongCells 26 = .ok (.iconst 0, 1) := by decide +kernel
theorem dX4_wrongCells_27 : decode cX4_wrongCells 27 = .ok (.iadd, 1) := by decide +kernel
theorem dX4_wrongCells_28 : decode cX4_wrongCells 28 = .ok (.istore_n 2, 1) := by decide +kernel
theorem dX4_wrongCells_29 : decode cX4_wrongCells 29 = .ok (.iinc 3 1, 3) := by decide +kernel
theorem dX4_wrongCells_32 : decode cX4_wrongCells 32 = .ok (.goto (-28), 3) := by decide +kernel
theorem dX4_wrongCells_35 : decode cX4_wrongCells 35 = .ok (.iload_n 2, 1) := by decide +kernel
theorem dX4_wrongCells_36 : decode cX4_wrongCells 36 = .ok (.ireturn, 1) := by decide +kernel
theorem dX4_lotsInRow_0 : decode cX4_lotsInRow 0 = .ok (.iconst 0, 1) := by decide +kernel
theorem dX4_lotsInRow_1 : decode cX4_lotsInRow 1 = .ok (.istore_n 2, 1) := by decide +kernel
theorem dX4_lotsInRow_2 : decode cX4_lotsInRow 2 = .ok (.iconst 0, 1) := by decide +kernel
theorem dX4_lotsInRow_3 : decode cX4_lotsInRow 3 = .ok (.istore_n 3, 1) := by decide +kernel
theorem dX4_lotsInRow_4 : decode cX4_lotsInRow 4 = .ok (.iload_n 3, 1) := by decide +kernel
theorem dX4_lotsInRow_5 : decode cX4_lotsInRow 5 = .ok (.aload_n 0, 1) := by decide +kernel
theorem dX4_lotsInRow_6 : decode cX4_lotsInRow 6 = .ok (.getfield 53, 3) := by decide +kernel
theorem dX4_lotsInRow_9 : decode cX4_lotsInRow 9 = .ok (.getfield 90, 3) := by decide +kernel
theorem dX4_lotsInRow_12 : decode cX4_lotsInRow 12 = .ok (.if_icmp .ge 33, 3) := by decide +kernel
theorem dX4_lotsInRow_15 : decode cX4_lotsInRow 15 = .ok (.iload_n 2, 1) := by decide +kernel
theorem dX4_lotsInRow_16 : decode cX4_lotsInRow 16 = .ok (.aload_n 0, 1) := by decide +kernel
theorem dX4_lotsInRow_17 : decode cX4_lotsInRow 17 = .ok (.getfield 35, 3) := by decide +kernel
theorem dX4_lotsInRow_20 : decode cX4_lotsInRow 20 = .ok (.iload_n 3, 1) := by decide +kernel
theorem dX4_lotsInRow_21 : decode cX4_lotsInRow 21 = .ok (.iload_n 1, 1) := by decide +kernel
theorem dX4_lotsInRow_22 : decode cX4_lotsInRow 22 = .ok (.aload_n 0, 1) := by decide +kernel
theorem dX4_lotsInRow_23 : decode cX4_lotsInRow 23 = .ok (.getfield 9, 3) := by decide +kernel
theorem dX4_lotsInRow_26 : decode cX4_lotsInRow 26 = .ok (.invokevirtual 187, 3) := by decide +kernel
theorem dX4_lotsInRow_29 : decode cX4_lotsInRow 29 = .ok (.ifCond .le 7, 3) := by decide +kernel
theorem dX4_lotsInRow_32 : decode cX4_lotsInRow 32 = .ok (.iconst 1, 1) := by decide +kernel
theorem dX4_lotsInRow_33 : decode cX4_lotsInRow 33 = .ok (.goto 4, 3) := by decide +kernel
theorem dX4_lotsInRow_36 : decode cX4_lotsInRow 36 = .ok (.iconst 0, 1) := by decide +kernel
theorem dX4_lotsInRow_37 : decode cX4_lotsInRow 37 = .ok (.iadd, 1) := by decide +kernel
theorem dX4_lotsInRow_38 : decode cX4_lotsInRow 38 = .ok (.istore_n 2, 1) := by decide +kernel
theorem dX4_lotsInRow_39 : decode cX4_lotsInRow 39 = .ok (.iinc 3 1, 3) := by decide +kernel
theorem dX4_lotsInRow_42 : decode cX4_lotsInRow 42 = .ok (.goto (-38), 3) := by decide +kernel
theorem dX4_lotsInRow_45 : decode cX4_lotsInRow 45 = .ok (.iload_n 2, 1) := by decide +kernel
theorem dX4_lotsInRow_46 : decode cX4_lotsInRow 46 = .ok (.ireturn, 1) := by decide +kernel
theorem dX4_firstWrongRow_0 : decode cX4_firstWrongRow 0 = .ok (.iconst 0, 1) := by decide +kernel
theorem dX4_firstWrongRow_1 : decode cX4_firstWrongRow 1 = .ok (.istore_n 1, 1) := by decide +kernel
theorem dX4_firstWrongRow_2 : decode cX4_firstWrongRow 2 = .ok (.iload_n 1, 1) := by decide +kernel
theorem dX4_firstWrongRow_3 : decode cX4_firstWrongRow 3 = .ok (.aload_n 0, 1) := by decide +kernel
theorem dX4_firstWrongRow_4 : decode cX4_firstWrongRow 4 = .ok (.getfield 60, 3) := by decide +kernel
theorem dX4_firstWrongRow_7 : decode cX4_firstWrongRow 7 = .ok (.if_icmp .ge 19, 3) := by decide +kernel
theorem dX4_firstWrongRow_10 : decode cX4_firstWrongRow 10 = .ok (.aload_n 0, 1) := by decide +kernel
theorem dX4_firstWrongRow_11 : decode cX4_firstWrongRow 11 = .ok (.iload_n 1, 1) := by decide +kernel
theorem dX4_firstWrongRow_12 : decode cX4_firstWrongRow 12 = .ok (.invokevirtual 175, 3) := by decide +kernel
theorem dX4_firstWrongRow_15 : decode cX4_firstWrongRow 15 = .ok (.ifCond .le 5, 3) := by decide +kernel
theorem dX4_firstWrongRow_18 : decode cX4_firstWrongRow 18 = .ok (.iload_n 1, 1) := by decide +kernel
theorem dX4_firstWrongRow_19 : decode cX4_firstWrongRow 19 = .ok (.ireturn, 1) := by decide +kernel
theorem dX4_firstWrongRow_20 : decode cX4_firstWrongRow 20 = .ok (.iinc 1 1, 3) := by decide +kernel
theorem dX4_firstWrongRow_23 : decode cX4_firstWrongRow 23 = .ok (.goto (-21), 3) := by decide +kernel
theorem dX4_firstWrongRow_26 : decode cX4_firstWrongRow 26 = .ok (.iconst (-1), 1) := by decide +kernel
theorem dX4_firstWrongRow_27 : decode cX4_firstWrongRow 27 = .ok (.ireturn, 1) := by decide +kernel
theorem dX4_lotValue_0 : decode cX4_lotValue 0 = .ok (.iload_n 2, 1) := by decide +kernel
theorem dX4_lotValue_1 : decode cX4_lotValue 1 = .ok (.ifCond .ne 15, 3) := by decide +kernel
theorem dX4_lotValue_4 : decode cX4_lotValue 4 = .ok (.aload_n 0, 1) := by decide +kernel
theorem dX4_lotValue_5 : decode cX4_lotValue 5 = .ok (.getfield 53, 3) := by decide +kernel
theorem dX4_lotValue_8 : decode cX4_lotValue 8 = .ok (.getfield 190, 3) := by decide +kernel
theorem dX4_lotValue_11 : decode cX4_lotValue 11 = .ok (.iload_n 1, 1) := by decide +kernel
theorem dX4_lotValue_12 : decode cX4_lotValue 12 = .ok (.invokevirtual 137, 3) := by decide +kernel
theorem dX4_lotValue_15 : decode cX4_lotValue 15 = .ok (.ireturn, 1) := by decide +kernel
theorem dX4_lotValue_16 : decode cX4_lotValue 16 = .ok (.iload_n 2, 1) := by decide +kernel
theorem dX4_lotValue_17 : decode cX4_lotValue 17 = .ok (.iconst 1, 1) := by decide +kernel
theorem dX4_lotValue_18 : decode cX4_lotValue 18 = .ok (.if_icmp .ne 15, 3) := by decide +kernel
theorem dX4_lotValue_21 : decode cX4_lotValue 21 = .ok (.aload_n 0, 1) := by decide +kernel
theorem dX4_lotValue_22 : decode cX4_lotValue 22 = .ok (.getfield 53, 3) := by decide +kernel
theorem dX4_lotValue_25 : decode cX4_lotValue 25 = .ok (.getfield 193, 3) := by decide +kernel
theorem dX4_lotValue_28 : decode cX4_lotValue 28 = .ok (.iload_n 1, 1) := by decide +kernel
theorem dX4_lotValue_29 : decode cX4_lotValue 29 = .ok (.invokevirtual 137, 3) := by decide +kernel
theorem dX4_lotValue_32 : decode cX4_lotValue 32 = .ok (.ireturn, 1) := by decide +kernel
theorem dX4_lotValue_33 : decode cX4_lotValue 33 = .ok (.iload_n 2, 1) := by decide +kernel
theorem dX4_lotValue_34 : decode cX4_lotValue 34 = .ok (.iconst 2, 1) := by decide +kernel
theorem dX4_lotValue_35 : decode cX4_lotValue 35 = .ok (.if_icmp .ne 15, 3) := by decide +kernel
theorem dX4_lotValue_38 : decode cX4_lotValue 38 = .ok (.aload_n 0, 1) := by decide +kernel
theorem dX4_lotValue_39 : decode cX4_lotValue 39 = .ok (.getfield 53, 3) := by decide +kernel
theorem dX4_lotValue_42 : decode cX4_lotValue 42 = .ok (.getfield 196, 3) := by decide +kernel
theorem dX4_lotValue_45 : decode cX4_lotValue 45 = .ok (.iload_n 1, 1) := by decide +kernel
theorem dX4_lotValue_46 : decode cX4_lotValue 46 = .ok (.invokevirtual 137, 3) := by decide +kernel
theorem dX4_lotValue_49 : decode cX4_lotValue 49 = .ok (.ireturn, 1) := by decide +kernel
theorem dX4_lotValue_50 : decode cX4_lotValue 50 = .ok (.iload_n 2, 1) := by decide +kernel
theorem dX4_lotValue_51 : decode cX4_lotValue 51 = .ok (.iconst 3, 1) := by decide +kernel
theorem dX4_lotValue_52 : decode cX4_lotValue 52 = .ok (.if_icmp .ne 15, 3) := by decide +kernel
theorem dX4_lotValue_55 : decode cX4_lotValue 55 = .ok (.aload_n 0, 1) := by decide +kernel
theorem dX4_lotValue_56 : decode cX4_lotValue 56 = .ok (.getfield 53, 3) := by decide +kernel
theorem dX4_lotValue_59 : decode cX4_lotValue 59 = .ok (.getfield 199, 3) := by decide +kernel
theorem dX4_lotValue_62 : decode cX4_lotValue 62 = .ok (.iload_n 1, 1) := by decide +kernel
theorem dX4_lotValue_63 : decode cX4_lotValue 63 = .ok (.invokevirtual 137, 3) := by decide +kernel
theorem dX4_lotValue_66 : decode cX4_lotValue 66 = .ok (.ireturn, 1) := by decide +kernel
theorem dX4_lotValue_67 : decode cX4_lotValue 67 = .ok (.iload_n 2, 1) := by decide +kernel
theorem dX4_lotValue_68 : decode cX4_lotValue 68 = .ok (.iconst 4, 1) := by decide +kernel
theorem dX4_lotValue_69 : decode cX4_lotValue 69 = .ok (.if_icmp .ne 17, 3) := by decide +kernel
theorem dX4_lotValue_72 : decode cX4_lotValue 72 = .ok (.aload_n 0, 1) := by decide +kernel
theorem dX4_lotValue_73 : decode cX4_lotValue 73 = .ok (.aload_n 0, 1) := by decide +kernel
theorem dX4_lotValue_74 : decode cX4_lotValue 74 = .ok (.getfield 35, 3) := by decide +kernel
theorem dX4_lotValue_77 : decode cX4_lotValue 77 = .ok (.iload_n 1, 1) := by decide +kernel
theorem dX4_lotValue_78 : decode cX4_lotValue 78 = .ok (.aload_n 0, 1) := by decide +kernel
theorem dX4_lotValue_79 : decode cX4_lotValue 79 = .ok (.getfield 60, 3) := by decide +kernel
theorem dX4_lotValue_82 : decode cX4_lotValue 82 = .ok (.invokevirtual 202, 3) := by decide +kernel
theorem dX4_lotValue_85 : decode cX4_lotValue 85 = .ok (.ireturn, 1) := by decide +kernel
theorem dX4_lotValue_86 : decode cX4_lotValue 86 = .ok (.aload_n 0, 1) := by decide +kernel
theorem dX4_lotValue_87 : decode cX4_lotValue 87 = .ok (.getfield 53, 3) := by decide +kernel
theorem dX4_lotValue_90 : decode cX4_lotValue 90 = .ok (.aload_n 0, 1) := by decide +kernel
theorem dX4_lotValue_91 : decode cX4_lotValue 91 = .ok (.getfield 53, 3) := by decide +kernel
theorem dX4_lotValue_94 : decode cX4_lotValue 94 = .ok (.getfield 190, 3) := by decide +kernel
theorem dX4_lotValue_97 : decode cX4_lotValue 97 = .ok (.iload_n 1, 1) := by decide +kernel
theorem dX4_lotValue_98 : decode cX4_lotValue 98 = .ok (.invokevirtual 137, 3) := by decide +kernel
theorem dX4_lotValue_101 : decode cX4_lotValue 101 = .ok (.invokevirtual 206, 3) := by decide +kernel
theorem dX4_lotValue_104 : decode cX4_lotValue 104 = .ok (.iload_n 1, 1) := by decide +kernel
theorem dX4_lotValue_105 : decode cX4_lotValue 105 = .ok (.if_icmp .ne 7, 3) := by decide +kernel
theorem dX4_lotValue_108 : decode cX4_lotValue 108 = .ok (.iconst 1, 1) := by decide +kernel
theorem dX4_lotValue_109 : decode cX4_lotValue 109 = .ok (.goto 4, 3) := by decide +kernel
theorem dX4_lotValue_112 : decode cX4_lotValue 112 = .ok (.iconst 0, 1) := by decide +kernel
theorem dX4_lotValue_113 : decode cX4_lotValue 113 = .ok (.ireturn, 1) := by decide +kernel
theorem dX4_colorValue_0 : decode cX4_colorValue 0 = .ok (.iload_n 2, 1) := by decide +kernel
theorem dX4_colorValue_1 : decode cX4_colorValue 1 = .ok (.ifCond .ne 17, 3) := by decide +kernel
theorem dX4_colorValue_4 : decode cX4_colorValue 4 = .ok (.aload_n 0, 1) := by decide +kernel
theorem dX4_colorValue_5 : decode cX4_colorValue 5 = .ok (.aload_n 0, 1) := by decide +kernel
theorem dX4_colorValue_6 : decode cX4_colorValue 6 = .ok (.getfield 28, 3) := by decide +kernel
theorem dX4_colorValue_9 : decode cX4_colorValue 9 = .ok (.iload_n 1, 1) := by decide +kernel
theorem dX4_colorValue_10 : decode cX4_colorValue 10 = .ok (.aload_n 0, 1) := by decide +kernel
theorem dX4_colorValue_11 : decode cX4_colorValue 11 = .ok (.getfield 15, 3) := by decide +kernel
theorem dX4_colorValue_14 : decode cX4_colorValue 14 = .ok (.invokevirtual 202, 3) := by decide +kernel
theorem dX4_colorValue_17 : decode cX4_colorValue 17 = .ok (.ireturn, 1) := by decide +kernel
theorem dX4_colorValue_18 : decode cX4_colorValue 18 = .ok (.iload_n 2, 1) := by decide +kernel
theorem dX4_colorValue_19 : decode cX4_colorValue 19 = .ok (.iconst 1, 1) := by decide +kernel
theorem dX4_colorValue_20 : decode cX4_colorValue 20 = .ok (.if_icmp .ne 17, 3) := by decide +kernel
theorem dX4_colorValue_23 : decode cX4_colorValue 23 = .ok (.aload_n 0, 1) := by decide +kernel
theorem dX4_colorValue_24 : decode cX4_colorValue 24 = .ok (.aload_n 0, 1) := by decide +kernel
theorem dX4_colorValue_25 : decode cX4_colorValue 25 = .ok (.getfield 32, 3) := by decide +kernel
theorem dX4_colorValue_28 : decode cX4_colorValue 28 = .ok (.iload_n 1, 1) := by decide +kernel
theorem dX4_colorValue_29 : decode cX4_colorValue 29 = .ok (.aload_n 0, 1) := by decide +kernel
theorem dX4_colorValue_30 : decode cX4_colorValue 30 = .ok (.getfield 60, 3) := by decide +kernel
theorem dX4_colorValue_33 : decode cX4_colorValue 33 = .ok (.invokevirtual 202, 3) := by decide +kernel
theorem dX4_colorValue_36 : decode cX4_colorValue 36 = .ok (.ireturn, 1) := by decide +kernel
theorem dX4_colorValue_37 : decode cX4_colorValue 37 = .ok (.iload_n 2, 1) := by decide +kernel
theorem dX4_colorValue_38 : decode cX4_colorValue 38 = .ok (.iconst 2, 1) := by decide +kernel
theorem dX4_colorValue_39 : decode cX4_colorValue 39 = .ok (.if_icmp .ne 12, 3) := by decide +kernel
theorem dX4_colorValue_42 : decode cX4_colorValue 42 = .ok (.aload_n 0, 1) := by decide +kernel
theorem dX4_colorValue_43 : decode cX4_colorValue 43 = .ok (.getfield 53, 3) := by decide +kernel
theorem dX4_colorValue_46 : decode cX4_colorValue 46 = .ok (.iload_n 1, 1) := by decide +kernel
theorem dX4_colorValue_47 : decode cX4_colorValue 47 = .ok (.invokevirtual 143, 3) := by decide +kernel
theorem dX4_colorValue_50 : decode cX4_colorValue 50 = .ok (.ireturn, 1) := by decide +kernel
theorem dX4_colorValue_51 : decode cX4_colorValue 51 = .ok (.iload_n 2, 1) := by decide +kernel
theorem dX4_colorValue_52 : decode cX4_colorValue 52 = .ok (.iconst 3, 1) := by decide +kernel
theorem dX4_colorValue_53 : decode cX4_colorValue 53 = .ok (.if_icmp .ne 12, 3) := by decide +kernel
theorem dX4_colorValue_56 : decode cX4_colorValue 56 = .ok (.aload_n 0, 1) := by decide +kernel
theorem dX4_colorValue_57 : decode cX4_colorValue 57 = .ok (.getfield 53, 3) := by decide +kernel
theorem dX4_colorValue_60 : decode cX4_colorValue 60 = .ok (.iload_n 1, 1) := by decide +kernel
theorem dX4_colorValue_61 : decode cX4_colorValue 61 = .ok (.invokevirtual 209, 3) := by decide +kernel
theorem dX4_colorValue_64 : decode cX4_colorValue 64 = .ok (.ireturn, 1) := by decide +kernel
theorem dX4_colorValue_65 : decode cX4_colorValue 65 = .ok (.iload_n 2, 1) := by decide +kernel
theorem dX4_colorValue_66 : decode cX4_colorValue 66 = .ok (.iconst 4, 1) := by decide +kernel
theorem dX4_colorValue_67 : decode cX4_colorValue 67 = .ok (.if_icmp .ne 9, 3) := by decide +kernel
theorem dX4_colorValue_70 : decode cX4_colorValue 70 = .ok (.aload_n 0, 1) := by decide +kernel
theorem dX4_colorValue_71 : decode cX4_colorValue 71 = .ok (.iload_n 1, 1) := by decide +kernel
theorem dX4_colorValue_72 : decode cX4_colorValue 72 = .ok (.invokevirtual 212, 3) := by decide +kernel
theorem dX4_colorValue_75 : decode cX4_colorValue 75 = .ok (.ireturn, 1) := by decide +kernel
theorem dX4_colorValue_76 : decode cX4_colorValue 76 = .ok (.aload_n 0, 1) := by decide +kernel
theorem dX4_colorValue_77 : decode cX4_colorValue 77 = .ok (.iload_n 1, 1) := by decide +kernel
theorem dX4_colorValue_78 : decode cX4_colorValue 78 = .ok (.invokevirtual 215, 3) := by decide +kernel
theorem dX4_colorValue_81 : decode cX4_colorValue 81 = .ok (.ireturn, 1) := by decide +kernel
theorem dX4_cellsIn_0 : decode cX4_cellsIn 0 = .ok (.iconst 0, 1) := by decide +kernel
theorem dX4_cellsIn_1 : decode cX4_cellsIn 1 = .ok (.istore 4, 2) := by decide +kernel
theorem dX4_cellsIn_3 : decode cX4_cellsIn 3 = .ok (.iconst 0, 1) := by decide +kernel
theorem dX4_cellsIn_4 : decode cX4_cellsIn 4 = .ok (.istore 5, 2) := by decide +kernel
theorem dX4_cellsIn_6 : decode cX4_cellsIn 6 = .ok (.iload 5, 2) := by decide +kernel
theorem dX4_cellsIn_8 : decode cX4_cellsIn 8 = .ok (.iload_n 3, 1) := by decide +kernel
theorem dX4_cellsIn_9 : decode cX4_cellsIn 9 = .ok (.if_icmp .ge 25, 3) := by decide +kernel
theorem dX4_cellsIn_12 : decode cX4_cellsIn 12 = .ok (.iload 4, 2) := by decide +kernel
theorem dX4_cellsIn_14 : decode cX4_cellsIn 14 = .ok (.aload_n 1, 1) := by decide +kernel
theorem dX4_cellsIn_15 : decode cX4_cellsIn 15 = .ok (.iload_n 2, 1) := by decide +kernel
theorem dX4_cellsIn_16 : decode cX4_cellsIn 16 = .ok (.iload 5, 2) := by decide +kernel
theorem dX4_cellsIn_18 : decode cX4_cellsIn 18 = .ok (.aload_n 0, 1) := by decide +kernel
theorem dX4_cellsIn_19 : decode cX4_cellsIn 19 = .ok (.getfield 9, 3) := by decide +kernel
theorem dX4_cellsIn_22 : decode cX4_cellsIn 22 = .ok (.invokevirtual 187, 3) := by decide +kernel
theorem dX4_cellsIn_25 : decode cX4_cellsIn 25 = .ok (.iadd, 1) := by decide +kernel
theorem dX4_cellsIn_26 : decode cX4_cellsIn 26 = .ok (.istore 4, 2) := by decide +kernel
theorem dX4_cellsIn_28 : decode cX4_cellsIn 28 = .ok (.iinc 5 1, 3) := by decide +kernel
theorem dX4_cellsIn_31 : decode cX4_cellsIn 31 = .ok (.goto (-25), 3) := by decide +kernel
theorem dX4_cellsIn_34 : decode cX4_cellsIn 34 = .ok (.iload 4, 2) := by decide +kernel
theorem dX4_cellsIn_36 : decode cX4_cellsIn 36 = .ok (.ireturn, 1) := by decide +kernel
theorem dX4_wovenRuns_0 : decode cX4_wovenRuns 0 = .ok (.iconst 0, 1) := by decide +kernel
theorem dX4_wovenRuns_1 : decode cX4_wovenRuns 1 = .ok (.istore_n 2, 1) := by decide +kernel
theorem dX4_wovenRuns_2 : decode cX4_wovenRuns 2 = .ok (.iconst 0, 1) := by decide +kernel
theorem dX4_wovenRuns_3 : decode cX4_wovenRuns 3 = .ok (.istore_n 3, 1) := by decide +kernel
theorem dX4_wovenRuns_4 : decode cX4_wovenRuns 4 = .ok (.iload_n 3, 1) := by decide +kernel
theorem dX4_wovenRuns_5 : decode cX4_wovenRuns 5 = .ok (.aload_n 0, 1) := by decide +kernel
theorem dX4_wovenRuns_6 : decode cX4_wovenRuns 6 = .ok (.getfield 60, 3) := by decide +kernel
theorem dX4_wovenRuns_9 : decode cX4_wovenRuns 9 = .ok (.if_icmp .ge 25, 3) := by decide +kernel
theorem dX4_wovenRuns_12 : decode cX4_wovenRuns 12 = .ok (.iload_n 2, 1) := by decide +kernel
theorem dX4_wovenRuns_13 : decode cX4_wovenRuns 13 = .ok (.aload_n 0, 1) := by decide +kernel
theorem dX4_wovenRuns_14 : decode cX4_wovenRuns 14 = .ok (.getfield 32, 3) := by decide +kernel
theorem dX4_wovenRuns_17 : decode cX4_wovenRuns 17 = .ok (.iload_n 1, 1) := by decide +kernel
theorem dX4_wovenRuns_18 : decode cX4_wovenRuns 18 = .ok (.iload_n 3, 1) := by decide +kernel
theorem dX4_wovenRuns_19 : decode cX4_wovenRuns 19 = .ok (.aload_n 0, 1) := by decide +kernel
theorem dX4_wovenRuns_20 : decode cX4_wovenRuns 20 = .ok (.getfield 9, 3) := by decide +kernel
theorem dX4_wovenRuns_23 : decode cX4_wovenRuns 23 = .ok (.invokevirtual 218, 3) := by decide +kernel
theorem dX4_wovenRuns_26 : decode cX4_wovenRuns 26 = .ok (.iadd, 1) := by decide +kernel
theorem dX4_wovenRuns_27 : decode cX4_wovenRuns 27 = .ok (.istore_n 2, 1) := by decide +kernel
theorem dX4_wovenRuns_28 : decode cX4_wovenRuns 28 = .ok (.iinc 3 1, 3) := by decide +kernel
theorem dX4_wovenRuns_31 : decode cX4_wovenRuns 31 = .ok (.goto (-27), 3) := by decide +kernel
theorem dX4_wovenRuns_34 : decode cX4_wovenRuns 34 = .ok (.iload_n 2, 1) := by decide +kernel
theorem dX4_wovenRuns_35 : decode cX4_wovenRuns 35 = .ok (.ireturn, 1) := by decide +kernel
theorem dX4_unitsToCome_0 : decode cX4_unitsToCome 0 = .ok (.iconst 0, 1) := by decide +kernel
theorem dX4_unitsToCome_1 : decode cX4_unitsToCome 1 = .ok (.istore_n 2, 1) := by decide +kernel
theorem dX4_unitsToCome_2 : decode cX4_unitsToCome 2 = .ok (.aload_n 0, 1) := by decide +kernel
theorem dX4_unitsToCome_3 : decode cX4_unitsToCome 3 = .ok (.getfield 60, 3) := by decide +kernel
theorem dX4_unitsToCome_6 : decode cX4_unitsToCome 6 = .ok (.istore_n 3, 1) := by decide +kernel
theorem dX4_unitsToCome_7 : decode cX4_unitsToCome 7 = .ok (.iload_n 3, 1) := by decide +kernel
theorem dX4_unitsToCome_8 : decode cX4_unitsToCome 8 = .ok (.aload_n 0, 1) := by decide +kernel
theorem dX4_unitsToCome_9 : decode cX4_unitsToCome 9 = .ok (.getfield 15, 3) := by decide +kernel
theorem dX4_unitsToCome_12 : decode cX4_unitsToCome 12 = .ok (.if_icmp .ge 25, 3) := by decide +kernel
theorem dX4_unitsToCome_15 : decode cX4_unitsToCome 15 = .ok (.iload_n 2, 1) := by decide +kernel
theorem dX4_unitsToCome_16 : decode cX4_unitsToCome 16 = .ok (.aload_n 0, 1) := by decide +kernel
theorem dX4_unitsToCome_17 : decode cX4_unitsToCome 17 = .ok (.getfield 28, 3) := by decide +kernel
theorem dX4_unitsToCome_20 : decode cX4_unitsToCome 20 = .ok (.iload_n 1, 1) := by decide +kernel
theorem dX4_unitsToCome_21 : decode cX4_unitsToCome 21 = .ok (.iload_n 3, 1) := by decide +kernel
theorem dX4_unitsToCome_22 : decode cX4_unitsToCome 22 = .ok (.aload_n 0, 1) := by decide +kernel
theorem dX4_unitsToCome_23 : decode cX4_unitsToCome 23 = .ok (.getfield 9, 3) := by decide +kernel
theorem dX4_unitsToCome_26 : decode cX4_unitsToCome 26 = .ok (.invokevirtual 139, 3) := by decide +kernel
theorem dX4_unitsToCome_29 : decode cX4_unitsToCome 29 = .ok (.iadd, 1) := by decide +kernel
theorem dX4_unitsToCome_30 : decode cX4_unitsToCome 30 = .ok (.istore_n 2, 1) := by decide +kernel
theorem dX4_unitsToCome_31 : decode cX4_unitsToCome 31 = .ok (.iinc 3 1, 3) := by decide +kernel
theorem dX4_unitsToCome_34 : decode cX4_unitsToCome 34 = .ok (.goto (-27), 3) := by decide +kernel
theorem dX4_unitsToCome_37 : decode cX4_unitsToCome 37 = .ok (.iload_n 2, 1) := by decide +kernel
theorem dX4_unitsToCome_38 : decode cX4_unitsToCome 38 = .ok (.ireturn, 1) := by decide +kernel
theorem dX4_possibleRows_0 : decode cX4_possibleRows 0 = .ok (.aload_n 0, 1) := by decide +kernel
theorem dX4_possibleRows_1 : decode cX4_possibleRows 1 = .ok (.getfield 15, 3) := by decide +kernel
theorem dX4_possibleRows_4 : decode cX4_possibleRows 4 = .ok (.aload_n 0, 1) := by decide +kernel
theorem dX4_possibleRows_5 : decode cX4_possibleRows 5 = .ok (.getfield 60, 3) := by decide +kernel
theorem dX4_possibleRows_8 : decode cX4_possibleRows 8 = .ok (.isub, 1) := by decide +kernel
theorem dX4_possibleRows_9 : decode cX4_possibleRows 9 = .ok (.istore_n 1, 1) := by decide +kernel
theorem dX4_possibleRows_10 : decode cX4_possibleRows 10 = .ok (.iconst 0, 1) := by decide +kernel
theorem dX4_possibleRows_11 : decode cX4_possibleRows 11 = .ok (.istore_n 2, 1) := by decide +kernel
theorem dX4_possibleRows_12 : decode cX4_possibleRows 12 = .ok (.iload_n 2, 1) := by decide +kernel
theorem dX4_possibleRows_13 : decode cX4_possibleRows 13 = .ok (.bipush 8, 2) := by decide +kernel
theorem dX4_possibleRows_15 : decode cX4_possibleRows 15 = .ok (.if_icmp .ge 19, 3) := by decide +kernel
theorem dX4_possibleRows_18 : decode cX4_possibleRows 18 = .ok (.iload_n 1, 1) := by decide +kernel
theorem dX4_possibleRows_19 : decode cX4_possibleRows 19 = .ok (.aload_n 0, 1) := by decide +kernel
theorem dX4_possibleRows_20 : decode cX4_possibleRows 20 = .ok (.iload_n 2, 1) := by decide +kernel
theorem dX4_possibleRows_21 : decode cX4_possibleRows 21 = .ok (.invokevirtual 221, 3) := by decide +kernel
theorem dX4_possibleRows_24 : decode cX4_possibleRows 24 = .ok (.invokestatic 224, 3) := by decide +kernel
theorem dX4_possibleRows_27 : decode cX4_possibleRows 27 = .ok (.istore_n 1, 1) := by decide +kernel
theorem dX4_possibleRows_28 : decode cX4_possibleRows 28 = .ok (.iinc 2 1, 3) := by decide +kernel
theorem dX4_possibleRows_31 : decode cX4_possibleRows 31 = .ok (.goto (-19), 3) := by decide +kernel
theorem dX4_possibleRows_34 : decode cX4_possibleRows 34 = .ok (.iload_n 1, 1) := by decide +kernel
theorem dX4_possibleRows_35 : decode cX4_possibleRows 35 = .ok (.ireturn, 1) := by decide +kernel
theorem dX4_rowsWithYarnOf_0 : decode cX4_rowsWithYarnOf 0 = .ok (.aload_n 0, 1) := by decide +kernel
theorem dX4_rowsWithYarnOf_1 : decode cX4_rowsWithYarnOf 1 = .ok (.getfield 53, 3) := by decide +kernel
theorem dX4_rowsWithYarnOf_4 : decode cX4_rowsWithYarnOf 4 = .ok (.iload_n 1, 1) := by decide +kernel
theorem dX4_rowsWithYarnOf_5 : decode cX4_rowsWithYarnOf 5 = .ok (.invokevirtual 143, 3) := by decide +kernel
theorem dX4_rowsWithYarnOf_8 : decode cX4_rowsWithYarnOf 8 = .ok (.istore_n 2, 1) := by decide +kernel
theorem dX4_rowsWithYarnOf_9 : decode cX4_rowsWithYarnOf 9 = .ok (.aload_n 0, 1) := by decide +kernel
theorem dX4_rowsWithYarnOf_10 : decode cX4_rowsWithYarnOf 10 = .ok (.getfield 60, 3) := by decide +kernel
theorem dX4_rowsWithYarnOf_13 : decode cX4_rowsWithYarnOf 13 = .ok (.istore_n 3, 1) := by decide +kernel
theorem dX4_rowsWithYarnOf_14 : decode cX4_rowsWithYarnOf 14 = .ok (.iload_n 3, 1) := by decide +kernel
theorem dX4_rowsWithYarnOf_15 : decode cX4_rowsWithYarnOf 15 = .ok (.aload_n 0, 1) := by decide +kernel
theorem dX4_rowsWithYarnOf_16 : decode cX4_rowsWithYarnOf 16 = .ok (.getfield 15, 3) := by decide +kernel
theorem dX4_rowsWithYarnOf_19 : decode cX4_rowsWithYarnOf 19 = .ok (.if_icmp .ge 36, 3) := by decide +kernel
theorem dX4_rowsWithYarnOf_22 : decode cX4_rowsWithYarnOf 22 = .ok (.iload_n 2, 1) := by decide +kernel
theorem dX4_rowsWithYarnOf_23 : decode cX4_rowsWithYarnOf 23 = .ok (.aload_n 0, 1) := by decide +kernel
theorem dX4_rowsWithYarnOf_24 : decode cX4_rowsWithYarnOf 24 = .ok (.getfield 28, 3) := by decide +kernel
theorem dX4_rowsWithYarnOf_27 : decode cX4_rowsWithYarnOf 27 = .ok (.iload_n 1, 1) := by decide +kernel
theorem dX4_rowsWithYarnOf_28 : decode cX4_rowsWithYarnOf 28 = .ok (.iload_n 3, 1) := by decide +kernel
theorem dX4_rowsWithYarnOf_29 : decode cX4_rowsWithYarnOf 29 = .ok (.aload_n 0, 1) := by decide +kernel
theorem dX4_rowsWithYarnOf_30 : decode cX4_rowsWithYarnOf 30 = .ok (.getfield 9, 3) := by decide +kernel
theorem dX4_rowsWithYarnOf_33 : decode cX4_rowsWithYarnOf 33 = .ok (.invokevirtual 139, 3) := by decide +kernel
theorem dX4_rowsWithYarnOf_36 : decode cX4_rowsWithYarnOf 36 = .ok (.isub, 1) := by decide +kernel
theorem dX4_rowsWithYarnOf_37 : decode cX4_rowsWithYarnOf 37 = .ok (.istore_n 2, 1) := by decide +kernel
theorem dX4_rowsWithYarnOf_38 : decode cX4_rowsWithYarnOf 38 = .ok (.iload_n 2, 1) := by decide +kernel
theorem dX4_rowsWithYarnOf_39 : decode cX4_rowsWithYarnOf 39 = .ok (.ifCond .ge 10, 3) := by decide +kernel
theorem dX4_rowsWithYarnOf_42 : decode cX4_rowsWithYarnOf 42 = .ok (.iload_n 3, 1) := by decide +kernel
theorem dX4_rowsWithYarnOf_43 : decode cX4_rowsWithYarnOf 43 = .ok (.aload_n 0, 1) := by decide +kernel
theorem dX4_rowsWithYarnOf_44 : decode cX4_rowsWithYarnOf 44 = .ok (.getfield 60, 3) := by decide +kernel
theorem dX4_rowsWithYarnOf_47 : decode cX4_rowsWithYarnOf 47 = .ok (.isub, 1) := by decide +kernel
theorem dX4_rowsWithYarnOf_48 : decode cX4_rowsWithYarnOf 48 = .ok (.ireturn, 1) := by decide +kernel
theorem dX4_rowsWithYarnOf_49 : decode cX4_rowsWithYarnOf 49 = .ok (.iinc 3 1, 3) := by decide +kernel
theorem dX4_rowsWithYarnOf_52 : decode cX4_rowsWithYarnOf 52 = .ok (.goto (-38), 3) := by decide +kernel
theorem dX4_rowsWithYarnOf_55 : decode cX4_rowsWithYarnOf 55 = .ok (.aload_n 0, 1) := by decide +kernel
theorem dX4_rowsWithYarnOf_56 : decode cX4_rowsWithYarnOf 56 = .ok (.getfield 15, 3) := by decide +kernel
theorem dX4_rowsWithYarnOf_59 : decode cX4_rowsWithYarnOf 59 = .ok (.aload_n 0, 1) := by decide +kernel
theorem dX4_rowsWithYarnOf_60 : decode cX4_rowsWithYarnOf 60 = .ok (.getfield 60, 3) := by decide +kernel
theorem dX4_rowsWithYarnOf_63 : decode cX4_rowsWithYarnOf 63 = .ok (.isub, 1) := by decide +kernel
theorem dX4_rowsWithYarnOf_64 : decode cX4_rowsWithYarnOf 64 = .ok (.ireturn, 1) := by decide +kernel
theorem dX4_slitRows_0 : decode cX4_slitRows 0 = .ok (.aload_n 0, 1) := by decide +kernel
theorem dX4_slitRows_1 : decode cX4_slitRows 1 = .ok (.iload_n 1, 1) := by decide +kernel
theorem dX4_slitRows_2 : decode cX4_slitRows 2 = .ok (.iload_n 2, 1) := by decide +kernel
theorem dX4_slitRows_3 : decode cX4_slitRows 3 = .ok (.iconst 1, 1) := by decide +kernel
theorem dX4_slitRows_4 : decode cX4_slitRows 4 = .ok (.isub, 1) := by decide +kernel
theorem dX4_slitRows_5 : decode cX4_slitRows 5 = .ok (.invokevirtual 229, 3) := by decide +kernel
theorem dX4_slitRows_8 : decode cX4_slitRows 8 = .ok (.ifCond .eq 5, 3) := by decide +kernel
theorem dX4_slitRows_11 : decode cX4_slitRows 11 = .ok (.iconst 0, 1) := by decide +kernel
theorem dX4_slitRows_12 : decode cX4_slitRows 12 = .ok (.ireturn, 1) := by decide +kernel
theorem dX4_slitRows_13 : decode cX4_slitRows 13 = .ok (.iconst 0, 1) := by decide +kernel
theorem dX4_slitRows_14 : decode cX4_slitRows 14 = .ok (.istore_n 3, 1) := by decide +kernel
theorem dX4_slitRows_15 : decode cX4_slitRows 15 = .ok (.iload_n 2, 1) := by decide +kernel
theorem dX4_slitRows_16 : decode cX4_slitRows 16 = .ok (.istore 4, 2) := by decide +kernel
theorem dX4_slitRows_18 : decode cX4_slitRows 18 = .ok (.iload 4, 2) := by decide +kernel
theorem dX4_slitRows_20 : decode cX4_slitRows 20 = .ok (.aload_n 0, 1) := by decide +kernel
theorem dX4_slitRows_21 : decode cX4_slitRows 21 = .ok (.getfield 60, 3) := by decide +kernel
theorem dX4_slitRows_24 : decode cX4_slitRows 24 = .ok (.if_icmp .ge 22, 3) := by decide +kernel
theorem dX4_slitRows_27 : decode cX4_slitRows 27 = .ok (.aload_n 0, 1) := by decide +kernel
theorem dX4_slitRows_28 : decode cX4_slitRows 28 = .ok (.iload_n 1, 1) := by decide +kernel
theorem dX4_slitRows_29 : decode cX4_slitRows 29 = .ok (.iload 4, 2) := by decide +kernel
theorem dX4_slitRows_31 : decode cX4_slitRows 31 = .ok (.invokevirtual 229, 3) := by decide +kernel
theorem dX4_slitRows_34 : decode cX4_slitRows 34 = .ok (.ifCond .eq 12, 3) := by decide +kernel
theorem dX4_slitRows_37 : decode cX4_slitRows 37 = .ok (.iinc 3 1, 3) := by decide +kernel
theorem dX4_slitRows_40 : decode cX4_slitRows 40 = .ok (.iinc 4 1, 3) := by decide +kernel
theorem dX4_slitRows_43 : decode cX4_slitRows 43 = .ok (.goto (-25), 3) := by decide +kernel
theorem dX4_slitRows_46 : decode cX4_slitRows 46 = .ok (.iload_n 3, 1) := by decide +kernel
theorem dX4_slitRows_47 : decode cX4_slitRows 47 = .ok (.ireturn, 1) := by decide +kernel
theorem dX4_parts_0 : decode cX4_parts 0 = .ok (.iload_n 2, 1) := by decide +kernel
theorem dX4_parts_1 : decode cX4_parts 1 = .ok (.aload_n 0, 1) := by decide +kernel
theorem dX4_parts_2 : decode cX4_parts 2 = .ok (.getfield 60, 3) := by decide +kernel
theorem dX4_parts_5 : decode cX4_parts 5 = .ok (.if_icmp .ge 40, 3) := by decide +kernel
theorem dX4_parts_8 : decode cX4_parts 8 = .ok (.iload_n 1, 1) := by decide +kernel
theorem dX4_parts_9 : decode cX4_parts 9 = .ok (.iconst 1, 1) := by decide +kernel
theorem dX4_parts_10 : decode cX4_parts 10 = .ok (.iadd, 1) := by decide +kernel
theorem dX4_parts_11 : decode cX4_parts 11 = .ok (.aload_n 0, 1) := by decide +kernel
theorem dX4_parts_12 : decode cX4_parts 12 = .ok (.getfield 9, 3) := by decide +kernel
theorem dX4_parts_15 : decode cX4_parts 15 = .ok (.if_icmp .ge 30, 3) := by decide +kernel
theorem dX4_parts_18 : decode cX4_parts 18 = .ok (.aload_n 0, 1) := by decide +kernel
theorem dX4_parts_19 : decode cX4_parts 19 = .ok (.getfield 32, 3) := by decide +kernel
theorem dX4_parts_22 : decode cX4_parts 22 = .ok (.iload_n 1, 1) := by decide +kernel
theorem dX4_parts_23 : decode cX4_parts 23 = .ok (.iload_n 2, 1) := by decide +kernel
theorem dX4_parts_24 : decode cX4_parts 24 = .ok (.invokevirtual 104, 3) := by decide +kernel
theorem dX4_parts_27 : decode cX4_parts 27 = .ok (.aload_n 0, 1) := by decide +kernel
theorem dX4_parts_28 : decode cX4_parts 28 = .ok (.getfield 32, 3) := by decide +kernel
theorem dX4_parts_31 : decode cX4_parts 31 = .ok (.iload_n 1, 1) := by decide +kernel
theorem dX4_parts_32 : decode cX4_parts 32 = .ok (.iconst 1, 1) := by decide +kernel
theorem dX4_parts_33 : decode cX4_parts 33 = .ok (.iadd, 1) := by decide +kernel
theorem dX4_parts_34 : decode cX4_parts 34 = .ok (.iload_n 2, 1) := by decide +kernel
theorem dX4_parts_35 : decode cX4_parts 35 = .ok (.invokevirtual 104, 3) := by decide +kernel
theorem dX4_parts_38 : decode cX4_parts 38 = .ok (.if_icmp .eq 7, 3) := by decide +kernel
theorem dX4_parts_41 : decode cX4_parts 41 = .ok (.iconst 1, 1) := by decide +kernel
theorem dX4_parts_42 : decode cX4_parts 42 = .ok (.goto 4, 3) := by decide +kernel
theorem dX4_parts_45 : decode cX4_parts 45 = .ok (.iconst 0, 1) := by decide +kernel
theorem dX4_parts_46 : decode cX4_parts 46 = .ok (.ireturn, 1) := by decide +kernel
theorem dX4_slitCount_0 : decode cX4_slitCount 0 = .ok (.iconst 0, 1) := by decide +kernel
theorem dX4_slitCount_1 : decode cX4_slitCount 1 = .ok (.istore_n 2, 1) := by decide +kernel
theorem dX4_slitCount_2 : decode cX4_slitCount 2 = .ok (.iconst 0, 1) := by decide +kernel
theorem dX4_slitCount_3 : decode cX4_slitCount 3 = .ok (.istore_n 3, 1) := by decide +kernel
theorem dX4_slitCount_4 : decode cX4_slitCount 4 = .ok (.iload_n 3, 1) := by decide +kernel
theorem dX4_slitCount_5 : decode cX4_slitCount 5 = .ok (.aload_n 0, 1) := by decide +kernel
theorem dX4_slitCount_6 : decode cX4_slitCount 6 = .ok (.getfield 9, 3) := by decide +kernel
theorem dX4_slitCount_9 : decode cX4_slitCount 9 = .ok (.if_icmp .ge 46, 3) := by decide +kernel
theorem dX4_slitCount_12 : decode cX4_slitCount 12 = .ok (.iconst 0, 1) := by decide +kernel
theorem dX4_slitCount_13 : decode cX4_slitCount 13 = .ok (.istore 4, 2) := by decide +kernel
theorem dX4_slitCount_15 : decode cX4_slitCount 15 = .ok (.iload 4, 2) := by decide +kernel
theorem dX4_slitCount_17 : decode cX4_slitCount 17 = .ok (.aload_n 0, 1) := by decide +kernel
theorem dX4_slitCount_18 : decode cX4_slitCount 18 = .ok (.getfield 60, 3) := by decide +kernel
theorem dX4_slitCount_21 : decode cX4_slitCount 21 = .ok (.if_icmp .ge 28, 3) := by decide +kernel
theorem dX4_slitCount_24 : decode cX4_slitCount 24 = .ok (.iload_n 2, 1) := by decide +kernel
theorem dX4_slitCount_25 : decode cX4_slitCount 25 = .ok (.aload_n 0, 1) := by decide +kernel
theorem dX4_slitCount_26 : decode cX4_slitCount 26 = .ok (.iload_n 3, 1) := by decide +kernel
theorem dX4_slitCount_27 : decode cX4_slitCount 27 = .ok (.iload 4, 2) := by decide +kernel
theorem dX4_slitCount_29 : decode cX4_slitCount 29 = .ok (.invokevirtual 156, 3) := by decide +kernel
theorem dX4_slitCount_32 : decode cX4_slitCount 32 = .ok (.iload_n 1, 1) := by decide +kernel
theorem dX4_slitCount_33 : decode cX4_slitCount 33 = .ok (.if_icmp .le 7, 3) := by decide +kernel
theorem dX4_slitCount_36 : decode cX4_slitCount 36 = .ok (.iconst 1, 1) := by decide +kernel
theorem dX4_slitCount_37 : decode cX4_slitCount 37 = .ok (.goto 4, 3) := by decide +kernel
theorem dX4_slitCount_40 : decode cX4_slitCount 40 = .ok (.iconst 0, 1) := by decide +kernel
theorem dX4_slitCount_41 : decode cX4_slitCount 41 = .ok (.iadd, 1) := by decide +kernel
theorem dX4_slitCount_42 : decode cX4_slitCount 42 = .ok (.istore_n 2, 1) := by decide +kernel
theorem dX4_slitCount_43 : decode cX4_slitCount 43 = .ok (.iinc 4 1, 3) := by decide +kernel
theorem dX4_slitCount_46 : decode cX4_slitCount 46 = .ok (.goto (-31), 3) := by decide +kernel
theorem dX4_slitCount_49 : decode cX4_slitCount 49 = .ok (.iinc 3 1, 3) := by decide +kernel
theorem dX4_slitCount_52 : decode cX4_slitCount 52 = .ok (.goto (-48), 3) := by decide +kernel
theorem dX4_slitCount_55 : decode cX4_slitCount 55 = .ok (.iload_n 2, 1) := by decide +kernel
theorem dX4_slitCount_56 : decode cX4_slitCount 56 = .ok (.ireturn, 1) := by decide +kernel
theorem dX4_slitPlace_0 : decode cX4_slitPlace 0 = .ok (.iconst 0, 1) := by decide +kernel
theorem dX4_slitPlace_1 : decode cX4_slitPlace 1 = .ok (.istore_n 2, 1) := by decide +kernel
theorem dX4_slitPlace_2 : decode cX4_slitPlace 2 = .ok (.iconst 0, 1) := by decide +kernel
theorem dX4_slitPlace_3 : decode cX4_slitPlace 3 = .ok (.istore_n 3, 1) := by decide +kernel
theorem dX4_slitPlace_4 : decode cX4_slitPlace 4 = .ok (.iload_n 3, 1) := by decide +kernel
theorem dX4_slitPlace_5 : decode cX4_slitPlace 5 = .ok (.aload_n 0, 1) := by decide +kernel
theorem dX4_slitPlace_6 : decode cX4_slitPlace 6 = .ok (.getfield 9, 3) := by decide +kernel
theorem dX4_slitPlace_9 : decode cX4_slitPlace 9 = .ok (.if_icmp .ge 57, 3) := by decide +kernel
theorem dX4_slitPlace_12 : decode cX4_slitPlace 12 = .ok (.iconst 0, 1) := by decide +kernel
theorem dX4_slitPlace_13 : decode cX4_slitPlace 13 = .ok (.istore 4, 2) := by decide +kernel
theorem dX4_slitPlace_15 : decode cX4_slitPlace 15 = .ok (.iload 4, 2) := by decide +kernel
theorem dX4_slitPlace_17 : decode cX4_slitPlace 17 = .ok (.aload_n 0, 1) := by decide +kernel
theorem dX4_slitPlace_18 : decode cX4_slitPlace 18 = .ok (.getfield 60, 3) := by decide +kernel
theorem dX4_slitPlace_21 : decode cX4_slitPlace 21 = .ok (.if_icmp .ge 39, 3) := by decide +kernel
theorem dX4_slitPlace_24 : decode cX4_slitPlace 24 = .ok (.aload_n 0, 1) := by decide +kernel
theorem dX4_slitPlace_25 : decode cX4_slitPlace 25 = .ok (.iload_n 3, 1) := by decide +kernel
theorem dX4_slitPlace_26 : decode cX4_slitPlace 26 = .ok (.iload 4, 2) := by decide +kernel
theorem dX4_slitPlace_28 : decode cX4_slitPlace 28 = .ok (.invokevirtual 156, 3) := by decide +kernel
theorem dX4_slitPlace_31 : decode cX4_slitPlace 31 = .ok (.aload_n 0, 1) := by decide +kernel
theorem dX4_slitPlace_32 : decode cX4_slitPlace 32 = .ok (.getfield 18, 3) := by decide +kernel
theorem dX4_slitPlace_35 : decode cX4_slitPlace 35 = .ok (.if_icmp .le 19, 3) := by decide +kernel
theorem dX4_slitPlace_38 : decode cX4_slitPlace 38 = .ok (.iload_n 2, 1) := by decide +kernel
theorem dX4_slitPlace_39 : decode cX4_slitPlace 39 = .ok (.iload_n 1, 1) := by decide +kernel
theorem dX4_slitPlace_40 : decode cX4_slitPlace 40 = .ok (.if_icmp .ne 11, 3) := by decide +kernel
theorem dX4_slitPlace_43 : decode cX4_slitPlace 43 = .ok (.iload_n 3, 1) := by decide +kernel
theorem dX4_slitPlace_44 : decode cX4_slitPlace 44 = .ok (.bipush 16, 2) := by decide +kernel
theorem dX4_slitPlace_46 : decode cX4_slitPlace 46 = .ok (.imul, 1) := by decide +kernel
theorem dX4_slitPlace_47 : decode cX4_slitPlace 47 = .ok (.iload 4, 2) := by decide +kernel
theorem dX4_slitPlace_49 : decode cX4_slitPlace 49 = .ok (.iadd, 1) := by decide +kernel
theorem dX4_slitPlace_50 : decode cX4_slitPlace 50 = .ok (.ireturn, 1) := by decide +kernel
theorem dX4_slitPlace_51 : decode cX4_slitPlace 51 = .ok (.iinc 2 1, 3) := by decide +kernel
theorem dX4_slitPlace_54 : decode cX4_slitPlace 54 = .ok (.iinc 4 1, 3) := by decide +kernel
theorem dX4_slitPlace_57 : decode cX4_slitPlace 57 = .ok (.goto (-42), 3) := by decide +kernel
theorem dX4_slitPlace_60 : decode cX4_slitPlace 60 = .ok (.iinc 3 1, 3) := by decide +kernel
theorem dX4_slitPlace_63 : decode cX4_slitPlace 63 = .ok (.goto (-59), 3) := by decide +kernel
theorem dX4_slitPlace_66 : decode cX4_slitPlace 66 = .ok (.iconst (-1), 1) := by decide +kernel
theorem dX4_slitPlace_67 : decode cX4_slitPlace 67 = .ok (.ireturn, 1) := by decide +kernel
theorem dX4_slitValue_0 : decode cX4_slitValue 0 = .ok (.iload_n 3, 1) := by decide +kernel
theorem dX4_slitValue_1 : decode cX4_slitValue 1 = .ok (.ifCond .ne 5, 3) := by decide +kernel
theorem dX4_slitValue_4 : decode cX4_slitValue 4 = .ok (.iload_n 1, 1) := by decide +kernel
theorem dX4_slitValue_5 : decode cX4_slitValue 5 = .ok (.ireturn, 1) := by decide +kernel
theorem dX4_slitValue_6 : decode cX4_slitValue 6 = .ok (.iload_n 3, 1) := by decide +kernel
theorem dX4_slitValue_7 : decode cX4_slitValue 7 = .ok (.iconst 1, 1) := by decide +kernel
theorem dX4_slitValue_8 : decode cX4_slitValue 8 = .ok (.if_icmp .ne 5, 3) := by decide +kernel
theorem dX4_slitValue_11 : decode cX4_slitValue 11 = .ok (.iload_n 2, 1) := by decide +kernel
theorem dX4_slitValue_12 : decode cX4_slitValue 12 = .ok (.ireturn, 1) := by decide +kernel
theorem dX4_slitValue_13 : decode cX4_slitValue 13 = .ok (.iload_n 3, 1) := by decide +kernel
theorem dX4_slitValue_14 : decode cX4_slitValue 14 = .ok (.iconst 2, 1) := by decide +kernel
theorem dX4_slitValue_15 : decode cX4_slitValue 15 = .ok (.if_icmp .ne 14, 3) := by decide +kernel
theorem dX4_slitValue_18 : decode cX4_slitValue 18 = .ok (.iload_n 2, 1) := by decide +kernel
theorem dX4_slitValue_19 : decode cX4_slitValue 19 = .ok (.aload_n 0, 1) := by decide +kernel
theorem dX4_slitValue_20 : decode cX4_slitValue 20 = .ok (.iload_n 1, 1) := by decide +kernel
theorem dX4_slitValue_21 : decode cX4_slitValue 21 = .ok (.iload_n 2, 1) := by decide +kernel
theorem dX4_slitValue_22 : decode cX4_slitValue 22 = .ok (.invokevirtual 156, 3) := by decide +kernel
theorem dX4_slitValue_25 : decode cX4_slitValue 25 = .ok (.iadd, 1) := by decide +kernel
theorem dX4_slitValue_26 : decode cX4_slitValue 26 = .ok (.iconst 1, 1) := by decide +kernel
theorem dX4_slitValue_27 : decode cX4_slitValue 27 = .ok (.isub, 1) := by decide +kernel
theorem dX4_slitValue_28 : decode cX4_slitValue 28 = .ok (.ireturn, 1) := by decide +kernel
theorem dX4_slitValue_29 : decode cX4_slitValue 29 = .ok (.aload_n 0, 1) := by decide +kernel
theorem dX4_slitValue_30 : decode cX4_slitValue 30 = .ok (.iload_n 1, 1) := by decide +kernel
theorem dX4_slitValue_31 : decode cX4_slitValue 31 = .ok (.iload_n 2, 1) := by decide +kernel
theorem dX4_slitValue_32 : decode cX4_slitValue 32 = .ok (.invokevirtual 97, 3) := by decide +kernel
theorem dX4_slitValue_35 : decode cX4_slitValue 35 = .ok (.ifCond .eq 7, 3) := by decide +kernel
theorem dX4_slitValue_38 : decode cX4_slitValue 38 = .ok (.iconst 1, 1) := by decide +kernel
theorem dX4_slitValue_39 : decode cX4_slitValue 39 = .ok (.goto 4, 3) := by decide +kernel
theorem dX4_slitValue_42 : decode cX4_slitValue 42 = .ok (.iconst 0, 1) := by decide +kernel
theorem dX4_slitValue_43 : decode cX4_slitValue 43 = .ok (.ireturn, 1) := by decide +kernel
theorem dX4_isSewn_0 : decode cX4_isSewn 0 = .ok (.aload_n 0, 1) := by decide +kernel
theorem dX4_isSewn_1 : decode cX4_isSewn 1 = .ok (.getfield 38, 3) := by decide +kernel
theorem dX4_isSewn_4 : decode cX4_isSewn 4 = .ok (.iload_n 1, 1) := by decide +kernel
theorem dX4_isSewn_5 : decode cX4_isSewn 5 = .ok (.iload_n 2, 1) := by decide +kernel
theorem dX4_isSewn_6 : decode cX4_isSewn 6 = .ok (.invokevirtual 104, 3) := by decide +kernel
theorem dX4_isSewn_9 : decode cX4_isSewn 9 = .ok (.iconst 1, 1) := by decide +kernel
theorem dX4_isSewn_10 : decode cX4_isSewn 10 = .ok (.if_icmp .ne 7, 3) := by decide +kernel
theorem dX4_isSewn_13 : decode cX4_isSewn 13 = .ok (.iconst 1, 1) := by decide +kernel
theorem dX4_isSewn_14 : decode cX4_isSewn 14 = .ok (.goto 4, 3) := by decide +kernel
theorem dX4_isSewn_17 : decode cX4_isSewn 17 = .ok (.iconst 0, 1) := by decide +kernel
theorem dX4_isSewn_18 : decode cX4_isSewn 18 = .ok (.ireturn, 1) := by decide +kernel
theorem dX4_sewnSlits_0 : decode cX4_sewnSlits 0 = .ok (.aload_n 0, 1) := by decide +kernel
theorem dX4_sewnSlits_1 : decode cX4_sewnSlits 1 = .ok (.aload_n 0, 1) := by decide +kernel
theorem dX4_sewnSlits_2 : decode cX4_sewnSlits 2 = .ok (.getfield 38, 3) := by decide +kernel
theorem dX4_sewnSlits_5 : decode cX4_sewnSlits 5 = .ok (.iconst 1, 1) := by decide +kernel
theorem dX4_sewnSlits_6 : decode cX4_sewnSlits 6 = .ok (.aload_n 0, 1) := by decide +kernel
theorem dX4_sewnSlits_7 : decode cX4_sewnSlits 7 = .ok (.getfield 15, 3) := by decide +kernel
theorem dX4_sewnSlits_10 : decode cX4_sewnSlits 10 = .ok (.invokevirtual 202, 3) := by decide +kernel
theorem dX4_sewnSlits_13 : decode cX4_sewnSlits 13 = .ok (.ireturn, 1) := by decide +kernel
theorem dX4_rowsOfSewnSlits_0 : decode cX4_rowsOfSewnSlits 0 = .ok (.iconst 0, 1) := by decide +kernel
theorem dX4_rowsOfSewnSlits_1 : decode cX4_rowsOfSewnSlits 1 = .ok (.istore_n 1, 1) := by decide +kernel
theorem dX4_rowsOfSewnSlits_2 : decode cX4_rowsOfSewnSlits 2 = .ok (.iconst 0, 1) := by decide +kernel
theorem dX4_rowsOfSewnSlits_3 : decode cX4_rowsOfSewnSlits 3 = .ok (.istore_n 2, 1) := by decide +kernel
theorem dX4_rowsOfSewnSlits_4 : decode cX4_rowsOfSewnSlits 4 = .ok (.iload_n 2, 1) := by decide +kernel
theorem dX4_rowsOfSewnSlits_5 : decode cX4_rowsOfSewnSlits 5 = .ok (.aload_n 0, 1) := by decide +kernel
theorem dX4_rowsOfSewnSlits_6 : decode cX4_rowsOfSewnSlits 6 = .ok (.getfield 9, 3) := by decide +kernel
theorem dX4_rowsOfSewnSlits_9 : decode cX4_rowsOfSewnSlits 9 = .ok (.if_icmp .ge 47, 3) := by decide +kernel
theorem dX4_rowsOfSewnSlits_12 : decode cX4_rowsOfSewnSlits 12 = .ok (.iconst 0, 1) := by decide +kernel
theorem dX4_rowsOfSewnSlits_13 : decode cX4_rowsOfSewnSlits 13 = .ok (.istore_n 3, 1) := by decide +kernel
theorem dX4_rowsOfSewnSlits_14 : decode cX4_rowsOfSewnSlits 14 = .ok (.iload_n 3, 1) := by decide +kernel
theorem dX4_rowsOfSewnSlits_15 : decode cX4_rowsOfSewnSlits 15 = .ok (.aload_n 0, 1) := by decide +kernel
theorem dX4_rowsOfSewnSlits_16 : decode cX4_rowsOfSewnSlits 16 = .ok (.getfield 60, 3) := by decide +kernel
theorem dX4_rowsOfSewnSlits_19 : decode cX4_rowsOfSewnSlits 19 = .ok (.if_icmp .ge 31, 3) := by decide +kernel
theorem dX4_rowsOfSewnSlits_22 : decode cX4_rowsOfSewnSlits 22 = .ok (.iload_n 1, 1) := by decide +kernel
theorem dX4_rowsOfSewnSlits_23 : decode cX4_rowsOfSewnSlits 23 = .ok (.aload_n 0, 1) := by decide +kernel
theorem dX4_rowsOfSewnSlits_24 : decode cX4_rowsOfSewnSlits 24 = .ok (.iload_n 2, 1) := by decide +kernel
theorem dX4_rowsOfSewnSlits_25 : decode cX4_rowsOfSewnSlits 25 = .ok (.iload_n 3, 1) := by decide +kernel
theorem dX4_rowsOfSewnSlits_26 : decode cX4_rowsOfSewnSlits 26 = .ok (.invokevirtual 97, 3) := by decide +kernel
theorem dX4_rowsOfSewnSlits_29 : decode cX4_rowsOfSewnSlits 29 = .ok (.ifCond .eq 12, 3) := by decide +kernel
theorem dX4_rowsOfSewnSlits_32 : decode cX4_rowsOfSewnSlits 32 = .ok (.aload_n 0, 1) := by decide +kernel
theorem dX4_rowsOfSewnSlits_33 : decode cX4_rowsOfSewnSlits 33 = .ok (.iload_n 2, 1) := by decide +kernel
theorem dX4_rowsOfSewnSlits_34 : decode cX4_rowsOfSewnSlits 34 = .ok (.iload_n 3, 1) := by decide +kernel
theorem dX4_rowsOfSewnSlits_35 : decode cX4_rowsOfSewnSlits 35 = .ok (.invokevirtual 156, 3) := by decide +kernel
theorem dX4_rowsOfSewnSlits_38 : decode cX4_rowsOfSewnSlits 38 = .ok (.goto 4, 3) := by decide +kernel
theorem dX4_rowsOfSewnSlits_41 : decode cX4_rowsOfSewnSlits 41 = .ok (.iconst 0, 1) := by decide +kernel
theorem dX4_rowsOfSewnSlits_42 : decode cX4_rowsOfSewnSlits 42 = .ok (.iadd, 1) := by decide +kernel
theorem dX4_rowsOfSewnSlits_43 : decode cX4_rowsOfSewnSlits 43 = .ok (.istore_n 1, 1) := by decide +kernel
theorem dX4_rowsOfSewnSlits_44 : decode cX4_rowsOfSewnSlits 44 = .ok (.iinc 3 1, 3) := by decide +kernel
theorem dX4_rowsOfSewnSlits_47 : decode cX4_rowsOfSewnSlits 47 = .ok (.goto (-33), 3) := by decide +kernel
theorem dX4_rowsOfSewnSlits_50 : decode cX4_rowsOfSewnSlits 50 = .ok (.iinc 2 1, 3) := by decide +kernel
theorem dX4_rowsOfSewnSlits_53 : decode cX4_rowsOfSewnSlits 53 = .ok (.goto (-49), 3) := by decide +kernel
theorem dX4_rowsOfSewnSlits_56 : decode cX4_rowsOfSewnSlits 56 = .ok (.iload_n 1, 1) := by decide +kernel
theorem dX4_rowsOfSewnSlits_57 : decode cX4_rowsOfSewnSlits 57 = .ok (.ireturn, 1) := by decide +kernel
theorem dX4_wholeValueOf_0 : decode cX4_wholeValueOf 0 = .ok (.iload_n 1, 1) := by decide +kernel
theorem dX4_wholeValueOf_1 : decode cX4_wholeValueOf 1 = .ok (.tableswitch 161 0 13 #[71, 76, 81, 86, 94, 103, 108, 117, 122, 127, 134, 146, 151, 156], 71) := by decide +kernel
theorem dX4_wholeValueOf_72 : decode cX4_wholeValueOf 72 = .ok (.aload_n 0, 1) := by decide +kernel
theorem dX4_wholeValueOf_73 : decode cX4_wholeValueOf 73 = .ok (.getfield 9, 3) := by decide +kernel
theorem dX4_wholeValueOf_76 : decode cX4_wholeValueOf 76 = .ok (.ireturn, 1) := by decide +kernel
theorem dX4_wholeValueOf_77 : decode cX4_wholeValueOf 77 = .ok (.aload_n 0, 1) := by decide +kernel
theorem dX4_wholeValueOf_78 : decode cX4_wholeValueOf 78 = .ok (.getfield 15, 3) := by decide +kernel
theorem dX4_wholeValueOf_81 : decode cX4_wholeValueOf 81 = .ok (.ireturn, 1) := by decide +kernel
theorem dX4_wholeValueOf_82 : decode cX4_wholeValueOf 82 = .ok (.aload_n 0, 1) := by decide +kernel
theorem dX4_wholeValueOf_83 : decode cX4_wholeValueOf 83 = .ok (.getfield 60, 3) := by decide +kernel
theorem dX4_wholeValueOf_86 : decode cX4_wholeValueOf 86 = .ok (.ireturn, 1) := by decide +kernel
theorem dX4_wholeValueOf_87 : decode cX4_wholeValueOf 87 = .ok (.aload_n 0, 1) := by decide +kernel
theorem dX4_wholeValueOf_88 : decode cX4_wholeValueOf 88 = .ok (.getfield 53, 3) := by decide +kernel
theorem dX4_wholeValueOf_91 : decode cX4_wholeValueOf 91 = .ok (.getfield 90, 3) := by decide +kernel
theorem dX4_wholeValueOf_94 : decode cX4_wholeValueOf 94 = .ok (.ireturn, 1) := by decide +kernel
theorem dX4_wholeValueOf_95 : decode cX4_wholeValueOf 95 = .ok (.aload_n 0, 1) := by decide +kernel
theorem dX4_wholeValueOf_96 : decode cX4_wholeValueOf 96 = .ok (.getfield 46, 3) := by decide +kernel
theorem dX4_wholeValueOf_99 : decode cX4_wholeValueOf 99 = .ok (.iconst (-1), 1) := by decide +kernel
theorem dX4_wholeValueOf_100 : decode cX4_wholeValueOf 100 = .ok (.invokevirtual 118, 3) := by decide +kernel
theorem dX4_wholeValueOf_103 : decode cX4_wholeValueOf 103 = .ok (.ireturn, 1) := by decide +kernel
theorem dX4_wholeValueOf_104 : decode cX4_wholeValueOf 104 = .ok (.aload_n 0, 1) := by decide +kernel
theorem dX4_wholeValueOf_105 : decode cX4_wholeValueOf 105 = .ok (.invokevirtual 232, 3) := by decide +kernel
theorem dX4_wholeValueOf_108 : decode cX4_wholeValueOf 108 = .ok (.ireturn, 1) := by decide +kernel
theorem dX4_wholeValueOf_109 : decode cX4_wholeValueOf 109 = .ok (.aload_n 0, 1) := by decide +kernel
theorem dX4_wholeValueOf_110 : decode cX4_wholeValueOf 110 = .ok (.aload_n 0, 1) := by decide +kernel
theorem dX4_wholeValueOf_111 : decode cX4_wholeValueOf 111 = .ok (.getfield 18, 3) := by decide +kernel
theorem dX4_wholeValueOf_114 : decode cX4_wholeValueOf 114 = .ok (.invokevirtual 149, 3) := by decide +kernel
theorem dX4_wholeValueOf_117 : decode cX4_wholeValueOf 117 = .ok (.ireturn, 1) := by decide +kernel
theorem dX4_wholeValueOf_118 : decode cX4_wholeValueOf 118 = .ok (.aload_n 0, 1) := by decide +kernel
theorem dX4_wholeValueOf_119 : decode cX4_wholeValueOf 119 = .ok (.invokevirtual 152, 3) := by decide +kernel
theorem dX4_wholeValueOf_122 : decode cX4_wholeValueOf 122 = .ok (.ireturn, 1) := by decide +kernel
theorem dX4_wholeValueOf_123 : decode cX4_wholeValueOf 123 = .ok (.aload_n 0, 1) := by decide +kernel
theorem dX4_wholeValueOf_124 : decode cX4_wholeValueOf 124 = .ok (.invokevirtual 235, 3) := by decide +kernel
theorem dX4_wholeValueOf_127 : decode cX4_wholeValueOf 127 = .ok (.ireturn, 1) := by decide +kernel
theorem dX4_wholeValueOf_128 : decode cX4_wholeValueOf 128 = .ok (.aload_n 0, 1) := by decide +kernel
theorem dX4_wholeValueOf_129 : decode cX4_wholeValueOf 129 = .ok (.ldc 238, 2) := by decide +kernel
theorem dX4_wholeValueOf_131 : decode cX4_wholeValueOf 131 = .ok (.invokevirtual 239, 3) := by decide +kernel
theorem dX4_wholeValueOf_134 : decode cX4_wholeValueOf 134 = .ok (.ireturn, 1) := by decide +kernel
theorem dX4_wholeValueOf_135 : decode cX4_wholeValueOf 135 = .ok (.aload_n 0, 1) := by decide +kernel
theorem dX4_wholeValueOf_136 : decode cX4_wholeValueOf 136 = .ok (.aload_n 0, 1) := by decide +kernel
theorem dX4_wholeValueOf_137 : decode cX4_wholeValueOf 137 = .ok (.getfield 22, 3) := by decide +kernel
theorem dX4_wholeValueOf_140 : decode cX4_wholeValueOf 140 = .ok (.invokestatic 243, 3) := by decide +kernel
theorem dX4_wholeValueOf_143 : decode cX4_wholeValueOf 143 = .ok (.invokevirtual 239, 3) := by decide +kernel
theorem dX4_wholeValueOf_146 : decode cX4_wholeValueOf 146 = .ok (.ireturn, 1) := by decide +kernel
theorem dX4_wholeValueOf_147 : decode cX4_wholeValueOf 147 = .ok (.aload_n 0, 1) := by decide +kernel
theorem dX4_wholeValueOf_148 : decode cX4_wholeValueOf 148 = .ok (.invokevirtual 246, 3) := by decide +kernel
theorem dX4_wholeValueOf_151 : decode cX4_wholeValueOf 151 = .ok (.ireturn, 1) := by decide +kernel
theorem dX4_wholeValueOf_152 : decode cX4_wholeValueOf 152 = .ok (.aload_n 0, 1) := by decide +kernel
theorem dX4_wholeValueOf_153 : decode cX4_wholeValueOf 153 = .ok (.invokevirtual 249, 3) := by decide +kernel
theorem dX4_wholeValueOf_156 : decode cX4_wholeValueOf 156 = .ok (.ireturn, 1) := by decide +kernel
theorem dX4_wholeValueOf_157 : decode cX4_wholeValueOf 157 = .ok (.aload_n 0, 1) := by decide +kernel
theorem dX4_wholeValueOf_158 : decode cX4_wholeValueOf 158 = .ok (.getfield 18, 3) := by decide +kernel
theorem dX4_wholeValueOf_161 : decode cX4_wholeValueOf 161 = .ok (.ireturn, 1) := by decide +kernel
theorem dX4_wholeValueOf_162 : decode cX4_wholeValueOf 162 = .ok (.iload_n 2, 1) := by decide +kernel
theorem dX4_wholeValueOf_163 : decode cX4_wholeValueOf 163 = .ok (.ireturn, 1) := by decide +kernel
theorem dX4_allWrongCells_0 : decode cX4_allWrongCells 0 = .ok (.iconst 0, 1) := by decide +kernel
theorem dX4_allWrongCells_1 : decode cX4_allWrongCells 1 = .ok (.istore_n 1, 1) := by decide +kernel
theorem dX4_allWrongCells_2 : decode cX4_allWrongCells 2 = .ok (.iconst 0, 1) := by decide +kernel
theorem dX4_allWrongCells_3 : decode cX4_allWrongCells 3 = .ok (.istore_n 2, 1) := by decide +kernel
theorem dX4_allWrongCells_4 : decode cX4_allWrongCells 4 = .ok (.iload_n 2, 1) := by decide +kernel
theorem dX4_allWrongCells_5 : decode cX4_allWrongCells 5 = .ok (.aload_n 0, 1) := by decide +kernel
theorem dX4_allWrongCells_6 : decode cX4_allWrongCells 6 = .ok (.getfield 60, 3) := by decide +kernel
theorem dX4_allWrongCells_9 : decode cX4_allWrongCells 9 = .ok (.if_icmp .ge 17, 3) := by decide +kernel
theorem dX4_allWrongCells_12 : decode cX4_allWrongCells 12 = .ok (.iload_n 1, 1) := by decide +kernel
theorem dX4_allWrongCells_13 : decode cX4_allWrongCells 13 = .ok (.aload_n 0, 1) := by decide +kernel
theorem dX4_allWrongCells_14 : decode cX4_allWrongCells 14 = .ok (.iload_n 2, 1) := by decide +kernel
theorem dX4_allWrongCells_15 : decode cX4_allWrongCells 15 = .ok (.invokevirtual 175, 3) := by decide +kernel
theorem dX4_allWrongCells_18 : decode cX4_allWrongCells 18 = .ok (.iadd, 1) := by decide +kernel
theorem dX4_allWrongCells_19 : decode cX4_allWrongCells 19 = .ok (.istore_n 1, 1) := by decide +kernel
theorem dX4_allWrongCells_20 : decode cX4_allWrongCells 20 = .ok (.iinc 2 1, 3) := by decide +kernel
theorem dX4_allWrongCells_23 : decode cX4_allWrongCells 23 = .ok (.goto (-19), 3) := by decide +kernel
theorem dX4_allWrongCells_26 : decode cX4_allWrongCells 26 = .ok (.iload_n 1, 1) := by decide +kernel
theorem dX4_allWrongCells_27 : decode cX4_allWrongCells 27 = .ok (.ireturn, 1) := by decide +kernel
theorem dX4_mostShuttles_0 : decode cX4_mostShuttles 0 = .ok (.iconst 0, 1) := by decide +kernel
theorem dX4_mostShuttles_1 : decode cX4_mostShuttles 1 = .ok (.istore_n 1, 1) := by decide +kernel
theorem dX4_mostShuttles_2 : decode cX4_mostShuttles 2 = .ok (.iconst 0, 1) := by decide +kernel
theorem dX4_mostShuttles_3 : decode cX4_mostShuttles 3 = .ok (.istore_n 2, 1) := by decide +kernel
theorem dX4_mostShuttles_4 : decode cX4_mostShuttles 4 = .ok (.iload_n 2, 1) := by decide +kernel
theorem dX4_mostShuttles_5 : decode cX4_mostShuttles 5 = .ok (.aload_n 0, 1) := by decide +kernel
theorem dX4_mostShuttles_6 : decode cX4_mostShuttles 6 = .ok (.getfield 60, 3) := by decide +kernel
theorem dX4_mostShuttles_9 : decode cX4_mostShuttles 9 = .ok (.if_icmp .ge 26, 3) := by decide +kernel
theorem dX4_mostShuttles_12 : decode cX4_mostShuttles 12 = .ok (.iload_n 1, 1) := by decide +kernel
theorem dX4_mostShuttles_13 : decode cX4_mostShuttles 13 = .ok (.aload_n 0, 1) := by decide +kernel
theorem dX4_mostShuttles_14 : decode cX4_mostShuttles 14 = .ok (.getfield 32, 3) := by decide +kernel
theorem dX4_mostShuttles_17 : decode cX4_mostShuttles 17 = .ok (.iload_n 2, 1) := by decide +kernel
theorem dX4_mostShuttles_18 : decode cX4_mostShuttles 18 = .ok (.aload_n 0, 1) := by decide +kernel
theorem dX4_mostShuttles_19 : decode cX4_mostShuttles 19 = .ok (.getfield 9, 3) := by decide +kernel
theorem dX4_mostShuttles_22 : decode cX4_mostShuttles 22 = .ok (.invokevirtual 169, 3) := by decide +kernel
theorem dX4_mostShuttles_25 : decode cX4_mostShuttles 25 = .ok (.invokestatic 252, 3) := by decide +kernel
theorem dX4_mostShuttles_28 : decode cX4_mostShuttles 28 = .ok (.istore_n 1, 1) := by decide +kernel
theorem dX4_mostShuttles_29 : decode cX4_mostShuttles 29 = .ok (.iinc 2 1, 3) := by decide +kernel
theorem dX4_mostShuttles_32 : decode cX4_mostShuttles 32 = .ok (.goto (-28), 3) := by decide +kernel
theorem dX4_mostShuttles_35 : decode cX4_mostShuttles 35 = .ok (.iload_n 1, 1) := by decide +kernel
theorem dX4_mostShuttles_36 : decode cX4_mostShuttles 36 = .ok (.ireturn, 1) := by decide +kernel
theorem dX4_allNewShuttles_0 : decode cX4_allNewShuttles 0 = .ok (.iconst 0, 1) := by decide +kernel
theorem dX4_allNewShuttles_1 : decode cX4_allNewShuttles 1 = .ok (.istore_n 1, 1) := by decide +kernel
theorem dX4_allNewShuttles_2 : decode cX4_allNewShuttles 2 = .ok (.iconst 0, 1) := by decide +kernel
theorem dX4_allNewShuttles_3 : decode cX4_allNewShuttles 3 = .ok (.istore_n 2, 1) := by decide +kernel
theorem dX4_allNewShuttles_4 : decode cX4_allNewShuttles 4 = .ok (.iload_n 2, 1) := by decide +kernel
theorem dX4_allNewShuttles_5 : decode cX4_allNewShuttles 5 = .ok (.aload_n 0, 1) := by decide +kernel
theorem dX4_allNewShuttles_6 : decode cX4_allNewShuttles 6 = .ok (.getfield 60, 3) := by decide +kernel
theorem dX4_allNewShuttles_9 : decode cX4_allNewShuttles 9 = .ok (.if_icmp .ge 17, 3) := by decide +kernel
theorem dX4_allNewShuttles_12 : decode cX4_allNewShuttles 12 = .ok (.iload_n 1, 1) := by decide +kernel
theorem dX4_allNewShuttles_13 : decode cX4_allNewShuttles 13 = .ok (.aload_n 0, 1) := by decide +kernel
theorem dX4_allNewShuttles_14 : decode cX4_allNewShuttles 14 = .ok (.iload_n 2, 1) := by decide +kernel
theorem dX4_allNewShuttles_15 : decode cX4_allNewShuttles 15 = .ok (.invokevirtual 172, 3) := by decide +kernel
theorem dX4_allNewShuttles_18 : decode cX4_allNewShuttles 18 = .ok (.iadd, 1) := by decide +kernel
theorem dX4_allNewShuttles_19 : decode cX4_allNewShuttles 19 = .ok (.istore_n 1, 1) := by decide +kernel
theorem dX4_allNewShuttles_20 : decode cX4_allNewShuttles 20 = .ok (.iinc 2 1, 3) := by decide +kernel
theorem dX4_allNewShuttles_23 : decode cX4_allNewShuttles 23 = .ok (.goto (-19), 3) := by decide +kernel
theorem dX4_allNewShuttles_26 : decode cX4_allNewShuttles 26 = .ok (.iload_n 1, 1) := by decide +kernel
theorem dX4_allNewShuttles_27 : decode cX4_allNewShuttles 27 = .ok (.ireturn, 1) := by decide +kernel
theorem dX4_meanShadeOf_0 : decode cX4_meanShadeOf 0 = .ok (.fconst 0, 1) := by decide +kernel
theorem dX4_meanShadeOf_1 : decode cX4_meanShadeOf 1 = .ok (.fstore_n 2, 1) := by decide +kernel
theorem dX4_meanShadeOf_2 : decode cX4_meanShadeOf 2 = .ok (.iconst 0, 1) := by decide +kernel
theorem dX4_meanShadeOf_3 : decode cX4_meanShadeOf 3 = .ok (.istore_n 3, 1) := by decide +kernel
theorem dX4_meanShadeOf_4 : decode cX4_meanShadeOf 4 = .ok (.iconst 0, 1) := by decide +kernel
theorem dX4_meanShadeOf_5 : decode cX4_meanShadeOf 5 = .ok (.istore 4, 2) := by decide +kernel
theorem dX4_meanShadeOf_7 : decode cX4_meanShadeOf 7 = .ok (.iload 4, 2) := by decide +kernel
theorem dX4_meanShadeOf_9 : decode cX4_meanShadeOf 9 = .ok (.aload_n 0, 1) := by decide +kernel
theorem dX4_meanShadeOf_10 : decode cX4_meanShadeOf 10 = .ok (.getfield 60, 3) := by decide +kernel
theorem dX4_meanShadeOf_13 : decode cX4_meanShadeOf 13 = .ok (.if_icmp .ge 56, 3) := by decide +kernel
theorem dX4_meanShadeOf_16 : decode cX4_meanShadeOf 16 = .ok (.iconst 0, 1) := by decide +kernel
theorem dX4_meanShadeOf_17 : decode cX4_meanShadeOf 17 = .ok (.istore 5, 2) := by decide +kernel
theorem dX4_meanShadeOf_19 : decode cX4_meanShadeOf 19 = .ok (.iload 5, 2) := by decide +kernel
theorem dX4_meanShadeOf_21 : decode cX4_meanShadeOf 21 = .ok (.aload_n 0, 1) := by decide +kernel
theorem dX4_meanShadeOf_22 : decode cX4_meanShadeOf 22 = .ok (.getfield 9, 3) := by decide +kernel
theorem dX4_meanShadeOf_25 : decode cX4_meanShadeOf 25 = .ok (.if_icmp .ge 38, 3) := by decide +kernel
theorem dX4_meanShadeOf_28 : decode cX4_meanShadeOf 28 = .ok (.aload_n 0, 1) := by decide +kernel
theorem dX4_meanShadeOf_29 : decode cX4_meanShadeOf 29 = .ok (.getfield 32, 3) := by decide +kernel
theorem dX4_meanShadeOf_32 : decode cX4_meanShadeOf 32 = .ok (.iload 5, 2) := by decide +kernel
theorem dX4_meanShadeOf_34 : decode cX4_meanShadeOf 34 = .ok (.iload 4, 2) := by decide +kernel
theorem dX4_meanShadeOf_36 : decode cX4_meanShadeOf 36 = .ok (.invokevirtual 104, 3) := by decide +kernel
theorem dX4_meanShadeOf_39 : decode cX4_meanShadeOf 39 = .ok (.iload_n 1, 1) := by decide +kernel
theorem dX4_meanShadeOf_40 : decode cX4_meanShadeOf 40 = .ok (.if_icmp .ne 17, 3) := by decide +kernel
theorem dX4_meanShadeOf_43 : decode cX4_meanShadeOf 43 = .ok (.fload_n 2, 1) := by decide +kernel
theorem dX4_meanShadeOf_44 : decode cX4_meanShadeOf 44 = .ok (.aload_n 0, 1) := by decide +kernel
theorem dX4_meanShadeOf_45 : decode cX4_meanShadeOf 45 = .ok (.iload 5, 2) := by decide +kernel
theorem dX4_meanShadeOf_47 : decode cX4_meanShadeOf 47 = .ok (.iload 4, 2) := by decide +kernel
theorem dX4_meanShadeOf_49 : decode cX4_meanShadeOf 49 = .ok (.invokevirtual 255, 3) := by decide +kernel
theorem dX4_meanShadeOf_52 : decode cX4_meanShadeOf 52 = .ok (.fadd, 1) := by decide +kernel
theorem dX4_meanShadeOf_53 : decode cX4_meanShadeOf 53 = .ok (.fstore_n 2, 1) := by decide +kernel
theorem dX4_meanShadeOf_54 : decode cX4_meanShadeOf 54 = .ok (.iinc 3 1, 3) := by decide +kernel
theorem dX4_meanShadeOf_57 : decode cX4_meanShadeOf 57 = .ok (.iinc 5 1, 3) := by decide +kernel
theorem dX4_meanShadeOf_60 : decode cX4_meanShadeOf 60 = .ok (.goto (-41), 3) := by decide +kernel
theorem dX4_meanShadeOf_63 : decode cX4_meanShadeOf 63 = .ok (.iinc 4 1, 3) := by decide +kernel
theorem dX4_meanShadeOf_66 : decode cX4_meanShadeOf 66 = .ok (.goto (-59), 3) := by decide +kernel
theorem dX4_meanShadeOf_69 : decode cX4_meanShadeOf 69 = .ok (.iload_n 3, 1) := by decide +kernel
theorem dX4_meanShadeOf_70 : decode cX4_meanShadeOf 70 = .ok (.ifCond .le 10, 3) := by decide +kernel
theorem dX4_meanShadeOf_73 : decode cX4_meanShadeOf 73 = .ok (.fload_n 2, 1) := by decide +kernel
theorem dX4_meanShadeOf_74 : decode cX4_meanShadeOf 74 = .ok (.iload_n 3, 1) := by decide +kernel
theorem dX4_meanShadeOf_75 : decode cX4_meanShadeOf 75 = .ok (.i2f, 1) := by decide +kernel
theorem dX4_meanShadeOf_76 : decode cX4_meanShadeOf 76 = .ok (.fdiv, 1) := by decide +kernel
theorem dX4_meanShadeOf_77 : decode cX4_meanShadeOf 77 = .ok (.goto 4, 3) := by decide +kernel
theorem dX4_meanShadeOf_80 : decode cX4_meanShadeOf 80 = .ok (.fconst 0, 1) := by decide +kernel
theorem dX4_meanShadeOf_81 : decode cX4_meanShadeOf 81 = .ok (.freturn, 1) := by decide +kernel
theorem dX4_contrastOf_0 : decode cX4_contrastOf 0 = .ok (.fconst 0, 1) := by decide +kernel
theorem dX4_contrastOf_1 : decode cX4_contrastOf 1 = .ok (.fstore_n 2, 1) := by decide +kernel
theorem dX4_contrastOf_2 : decode cX4_contrastOf 2 = .ok (.aload_n 0, 1) := by decide +kernel
theorem dX4_contrastOf_3 : decode cX4_contrastOf 3 = .ok (.getfield 9, 3) := by decide +kernel
theorem dX4_contrastOf_6 : decode cX4_contrastOf 6 = .ok (.iconst 1, 1) := by decide +kernel
theorem dX4_contrastOf_7 : decode cX4_contrastOf 7 = .ok (.isub, 1) := by decide +kernel
theorem dX4_contrastOf_8 : decode cX4_contrastOf 8 = .ok (.istore_n 3, 1) := by decide +kernel
theorem dX4_contrastOf_9 : decode cX4_contrastOf 9 = .ok (.iconst 0, 1) := by decide +kernel
theorem dX4_contrastOf_10 : decode cX4_contrastOf 10 = .ok (.istore 4, 2) := by decide +kernel
theorem dX4_contrastOf_12 : decode cX4_contrastOf 12 = .ok (.iload 4, 2) := by decide +kernel
theorem dX4_contrastOf_14 : decode cX4_contrastOf 14 = .ok (.iload_n 3, 1) := by decide +kernel
theorem dX4_contrastOf_15 : decode cX4_contrastOf 15 = .ok (.if_icmp .ge 24, 3) := by decide +kernel
theorem dX4_contrastOf_18 : decode cX4_contrastOf 18 = .ok (.fload_n 2, 1) := by decide +kernel
theorem dX4_contrastOf_19 : decode cX4_contrastOf 19 = .ok (.aload_n 0, 1) := by decide +kernel
theorem dX4_contrastOf_20 : decode cX4_contrastOf 20 = .ok (.iload 4, 2) := by decide +kernel
theorem dX4_contrastOf_22 : decode cX4_contrastOf 22 = .ok (.iload_n 1, 1) := by decide +kernel
theorem dX4_contrastOf_23 : decode cX4_contrastOf 23 = .ok (.iload 4, 2) := by decide +kernel
theorem dX4_contrastOf_25 : decode cX4_contrastOf 25 = .ok (.iconst 1, 1) := by decide +kernel
theorem dX4_contrastOf_26 : decode cX4_contrastOf 26 = .ok (.iadd, 1) := by decide +kernel
theorem dX4_contrastOf_27 : decode cX4_contrastOf 27 = .ok (.iload_n 1, 1) := by decide +kernel
theorem dX4_contrastOf_28 : decode cX4_contrastOf 28 = .ok (.invokevirtual 259, 3) := by decide +kernel
theorem dX4_contrastOf_31 : decode cX4_contrastOf 31 = .ok (.fadd, 1) := by decide +kernel
theorem dX4_contrastOf_32 : decode cX4_contrastOf 32 = .ok (.fstore_n 2, 1) := by decide +kernel
theorem dX4_contrastOf_33 : decode cX4_contrastOf 33 = .ok (.iinc 4 1, 3) := by decide +kernel
theorem dX4_contrastOf_36 : decode cX4_contrastOf 36 = .ok (.goto (-24), 3) := by decide +kernel
theorem dX4_contrastOf_39 : decode cX4_contrastOf 39 = .ok (.iload_n 3, 1) := by decide +kernel
theorem dX4_contrastOf_40 : decode cX4_contrastOf 40 = .ok (.ifCond .le 10, 3) := by decide +kernel
theorem dX4_contrastOf_43 : decode cX4_contrastOf 43 = .ok (.fload_n 2, 1) := by decide +kernel
theorem dX4_contrastOf_44 : decode cX4_contrastOf 44 = .ok (.iload_n 3, 1) := by decide +kernel
theorem dX4_contrastOf_45 : decode cX4_contrastOf 45 = .ok (.i2f, 1) := by decide +kernel
theorem dX4_contrastOf_46 : decode cX4_contrastOf 46 = .ok (.fdiv, 1) := by decide +kernel
theorem dX4_contrastOf_47 : decode cX4_contrastOf 47 = .ok (.goto 4, 3) := by decide +kernel
theorem dX4_contrastOf_50 : decode cX4_contrastOf 50 = .ok (.fconst 0, 1) := by decide +kernel
theorem dX4_contrastOf_51 : decode cX4_contrastOf 51 = .ok (.freturn, 1) := by decide +kernel
theorem dX4_difference_0 : decode cX4_difference 0 = .ok (.aload_n 0, 1) := by decide +kernel
theorem dX4_difference_1 : decode cX4_difference 1 = .ok (.iload_n 1, 1) := by decide +kernel
theorem dX4_difference_2 : decode cX4_difference 2 = .ok (.iload_n 2, 1) := by decide +kernel
theorem dX4_difference_3 : decode cX4_difference 3 = .ok (.invokevirtual 255, 3) := by decide +kernel
theorem dX4_difference_6 : decode cX4_difference 6 = .ok (.aload_n 0, 1) := by decide +kernel
theorem dX4_difference_7 : decode cX4_difference 7 = .ok (.iload_n 3, 1) := by decide +kernel
theorem dX4_difference_8 : decode cX4_difference 8 = .ok (.iload 4, 2) := by decide +kernel
theorem dX4_difference_10 : decode cX4_difference 10 = .ok (.invokevirtual 255, 3) := by decide +kernel
theorem dX4_difference_13 : decode cX4_difference 13 = .ok (.fsub, 1) := by decide +kernel
theorem dX4_difference_14 : decode cX4_difference 14 = .ok (.fstore 5, 2) := by decide +kernel
theorem dX4_difference_16 : decode cX4_difference 16 = .ok (.fload 5, 2) := by decide +kernel
theorem dX4_difference_18 : decode cX4_difference 18 = .ok (.fconst 0, 1) := by decide +kernel
theorem dX4_difference_19 : decode cX4_difference 19 = .ok (.fcmp .g, 1) := by decide +kernel
theorem dX4_difference_20 : decode cX4_difference 20 = .ok (.ifCond .ge 9, 3) := by decide +kernel
theorem dX4_difference_23 : decode cX4_difference 23 = .ok (.fload 5, 2) := by decide +kernel
theorem dX4_difference_25 : decode cX4_difference 25 = .ok (.fneg, 1) := by decide +kernel
theorem dX4_difference_26 : decode cX4_difference 26 = .ok (.goto 5, 3) := by decide +kernel
theorem dX4_difference_29 : decode cX4_difference 29 = .ok (.fload 5, 2) := by decide +kernel
theorem dX4_difference_31 : decode cX4_difference 31 = .ok (.freturn, 1) := by decide +kernel
theorem dX4_isSeam_0 : decode cX4_isSeam 0 = .ok (.aload_n 0, 1) := by decide +kernel
theorem dX4_isSeam_1 : decode cX4_isSeam 1 = .ok (.iload_n 1, 1) := by decide +kernel
theorem dX4_isSeam_2 : decode cX4_isSeam 2 = .ok (.iload_n 2, 1) := by decide +kernel
theorem dX4_isSeam_3 : decode cX4_isSeam 3 = .ok (.invokevirtual 163, 3) := by decide +kernel
theorem dX4_isSeam_6 : decode cX4_isSeam 6 = .ok (.aload_n 0, 1) := by decide +kernel
theorem dX4_isSeam_7 : decode cX4_isSeam 7 = .ok (.iload_n 3, 1) := by decide +kernel
theorem dX4_isSeam_8 : decode cX4_isSeam 8 = .ok (.iload 4, 2) := by decide +kernel
theorem dX4_isSeam_10 : decode cX4_isSeam 10 = .ok (.invokevirtual 163, 3) := by decide +kernel
theorem dX4_isSeam_13 : decode cX4_isSeam 13 = .ok (.if_icmp .ne 29, 3) := by decide +kernel
theorem dX4_isSeam_16 : decode cX4_isSeam 16 = .ok (.aload_n 0, 1) := by decide +kernel
theorem dX4_isSeam_17 : decode cX4_isSeam 17 = .ok (.getfield 35, 3) := by decide +kernel
theorem dX4_isSeam_20 : decode cX4_isSeam 20 = .ok (.iload_n 1, 1) := by decide +kernel
theorem dX4_isSeam_21 : decode cX4_isSeam 21 = .ok (.iload_n 2, 1) := by decide +kernel
theorem dX4_isSeam_22 : decode cX4_isSeam 22 = .ok (.invokevirtual 104, 3) := by decide +kernel
theorem dX4_isSeam_25 : decode cX4_isSeam 25 = .ok (.aload_n 0, 1) := by decide +kernel
theorem dX4_isSeam_26 : decode cX4_isSeam 26 = .ok (.getfield 35, 3) := by decide +kernel
theorem dX4_isSeam_29 : decode cX4_isSeam 29 = .ok (.iload_n 3, 1) := by decide +kernel
theorem dX4_isSeam_30 : decode cX4_isSeam 30 = .ok (.iload 4, 2) := by decide +kernel
theorem dX4_isSeam_32 : decode cX4_isSeam 32 = .ok (.invokevirtual 104, 3) := by decide +kernel
theorem dX4_isSeam_35 : decode cX4_isSeam 35 = .ok (.if_icmp .eq 7, 3) := by decide +kernel
theorem dX4_isSeam_38 : decode cX4_isSeam 38 = .ok (.iconst 1, 1) := by decide +kernel
theorem dX4_isSeam_39 : decode cX4_isSeam 39 = .ok (.goto 4, 3) := by decide +kernel
theorem dX4_isSeam_42 : decode cX4_isSeam 42 = .ok (.iconst 0, 1) := by decide +kernel
theorem dX4_isSeam_43 : decode cX4_isSeam 43 = .ok (.ireturn, 1) := by decide +kernel
theorem dX4_gapsAbove_0 : decode cX4_gapsAbove 0 = .ok (.iconst 0, 1) := by decide +kernel
theorem dX4_gapsAbove_1 : decode cX4_gapsAbove 1 = .ok (.istore_n 2, 1) := by decide +kernel
theorem dX4_gapsAbove_2 : decode cX4_gapsAbove 2 = .ok (.iconst 0, 1) := by decide +kernel
theorem dX4_gapsAbove_3 : decode cX4_gapsAbove 3 = .ok (.istore_n 3, 1) := by decide +kernel
theorem dX4_gapsAbove_4 : decode cX4_gapsAbove 4 = .ok (.iload_n 3, 1) := by decide +kernel
theorem dX4_gapsAbove_5 : decode cX4_gapsAbove 5 = .ok (.aload_n 0, 1) := by decide +kernel
theorem dX4_gapsAbove_6 : decode cX4_gapsAbove 6 = .ok (.getfield 60, 3) := by decide +kernel
theorem dX4_gapsAbove_9 : decode cX4_gapsAbove 9 = .ok (.if_icmp .ge 77, 3) := by decide +kernel
theorem dX4_gapsAbove_12 : decode cX4_gapsAbove 12 = .ok (.iconst 0, 1) := by decide +kernel
theorem dX4_gapsAbove_13 : decode cX4_gapsAbove 13 = .ok (.istore 4, 2) := by decide +kernel
theorem dX4_gapsAbove_15 : decode cX4_gapsAbove 15 = .ok (.iload 4, 2) := by decide +kernel
theorem dX4_gapsAbove_17 : decode cX4_gapsAbove 17 = .ok (.aload_n 0, 1) := by decide +kernel
theorem dX4_gapsAbove_18 : decode cX4_gapsAbove 18 = .ok (.getfield 9, 3) := by decide +kernel
theorem dX4_gapsAbove_21 : decode cX4_gapsAbove 21 = .ok (.if_icmp .ge 59, 3) := by decide +kernel
theorem dX4_gapsAbove_24 : decode cX4_gapsAbove 24 = .ok (.iload_n 2, 1) := by decide +kernel
theorem dX4_gapsAbove_25 : decode cX4_gapsAbove 25 = .ok (.aload_n 0, 1) := by decide +kernel
theorem dX4_gapsAbove_26 : decode cX4_gapsAbove 26 = .ok (.iload 4, 2) := by decide +kernel
theorem dX4_gapsAbove_28 : decode cX4_gapsAbove 28 = .ok (.iload_n 3, 1) := by decide +kernel
theorem dX4_gapsAbove_29 : decode cX4_gapsAbove 29 = .ok (.iload 4, 2) := by decide +kernel
theorem dX4_gapsAbove_31 : decode cX4_gapsAbove 31 = .ok (.iconst 1, 1) := by decide +kernel
theorem dX4_gapsAbove_32 : decode cX4_gapsAbove 32 = .ok (.iadd, 1) := by decide +kernel
theorem dX4_gapsAbove_33 : decode cX4_gapsAbove 33 = .ok (.iload_n 3, 1) := by decide +kernel
theorem dX4_gapsAbove_34 : decode cX4_gapsAbove 34 = .ok (.invokevirtual 263, 3) := by decide +kernel
theorem dX4_gapsAbove_37 : decode cX4_gapsAbove 37 = .ok (.fload_n 1, 1) := by decide +kernel
theorem dX4_gapsAbove_38 : decode cX4_gapsAbove 38 = .ok (.fcmp .l, 1) := by decide +kernel
theorem dX4_gapsAbove_39 : decode cX4_gapsAbove 39 = .ok (.ifCond .le 7, 3) := by decide +kernel
theorem dX4_gapsAbove_42 : decode cX4_gapsAbove 42 = .ok (.iconst 1, 1) := by decide +kernel
theorem dX4_gapsAbove_43 : decode cX4_gapsAbove 43 = .ok (.goto 4, 3) := by decide +kernel
theorem dX4_gapsAbove_46 : decode cX4_gapsAbove 46 = .ok (.iconst 0, 1) := by decide +kernel
theorem dX4_gapsAbove_47 : decode cX4_gapsAbove 47 = .ok (.iadd, 1) := by decide +kernel
theorem dX4_gapsAbove_48 : decode cX4_gapsAbove 48 = .ok (.istore_n 2, 1) := by decide +kernel
theorem dX4_gapsAbove_49 : decode cX4_gapsAbove 49 = .ok (.iload_n 2, 1) := by decide +kernel
theorem dX4_gapsAbove_50 : decode cX4_gapsAbove 50 = .ok (.aload_n 0, 1) := by decide +kernel
theorem dX4_gapsAbove_51 : decode cX4_gapsAbove 51 = .ok (.iload 4, 2) := by decide +kernel
theorem dX4_gapsAbove_53 : decode cX4_gapsAbove 53 = .ok (.iload_n 3, 1) := by decide +kernel
theorem dX4_gapsAbove_54 : decode cX4_gapsAbove 54 = .ok (.iload 4, 2) := by decide +kernel
theorem dX4_gapsAbove_56 : decode cX4_gapsAbove 56 = .ok (.iload_n 3, 1) := by decide +kernel
theorem dX4_gapsAbove_57 : decode cX4_gapsAbove 57 = .ok (.iconst 1, 1) := by decide +kernel
theorem dX4_gapsAbove_58 : decode cX4_gapsAbove 58 = .ok (.iadd, 1) := by decide +kernel
theorem dX4_gapsAbove_59 : decode cX4_gapsAbove 59 = .ok (.invokevirtual 263, 3) := by decide +kernel
theorem dX4_gapsAbove_62 : decode cX4_gapsAbove 62 = .ok (.fload_n 1, 1) := by decide +kernel
theorem dX4_gapsAbove_63 : decode cX4_gapsAbove 63 = .ok (.fcmp .l, 1) := by decide +kernel
theorem dX4_gapsAbove_64 : decode cX4_gapsAbove 64 = .ok (.ifCond .le 7, 3) := by decide +kernel
theorem dX4_gapsAbove_67 : decode cX4_gapsAbove 67 = .ok (.iconst 1, 1) := by decide +kernel
theorem dX4_gapsAbove_68 : decode cX4_gapsAbove 68 = .ok (.goto 4, 3) := by decide +kernel
theorem dX4_gapsAbove_71 : decode cX4_gapsAbove 71 = .ok (.iconst 0, 1) := by decide +kernel
theorem dX4_gapsAbove_72 : decode cX4_gapsAbove 72 = .ok (.iadd, 1) := by decide +kernel
theorem dX4_gapsAbove_73 : decode cX4_gapsAbove 73 = .ok (.istore_n 2, 1) := by decide +kernel
theorem dX4_gapsAbove_74 : decode cX4_gapsAbove 74 = .ok (.iinc 4 1, 3) := by decide +kernel
theorem dX4_gapsAbove_77 : decode cX4_gapsAbove 77 = .ok (.goto (-62), 3) := by decide +kernel
theorem dX4_gapsAbove_80 : decode cX4_gapsAbove 80 = .ok (.iinc 3 1, 3) := by decide +kernel
theorem dX4_gapsAbove_83 : decode cX4_gapsAbove 83 = .ok (.goto (-79), 3) := by decide +kernel
theorem dX4_gapsAbove_86 : decode cX4_gapsAbove 86 = .ok (.iload_n 2, 1) := by decide +kernel
theorem dX4_gapsAbove_87 : decode cX4_gapsAbove 87 = .ok (.ireturn, 1) := by decide +kernel
theorem dX4_gap_0 : decode cX4_gap 0 = .ok (.aload_n 0, 1) := by decide +kernel
theorem dX4_gap_1 : decode cX4_gap 1 = .ok (.iload_n 1, 1) := by decide +kernel
theorem dX4_gap_2 : decode cX4_gap 2 = .ok (.iload_n 2, 1) := by decide +kernel
theorem dX4_gap_3 : decode cX4_gap 3 = .ok (.iload_n 3, 1) := by decide +kernel
theorem dX4_gap_4 : decode cX4_gap 4 = .ok (.iload 4, 2) := by decide +kernel
theorem dX4_gap_6 : decode cX4_gap 6 = .ok (.invokevirtual 266, 3) := by decide +kernel
theorem dX4_gap_9 : decode cX4_gap 9 = .ok (.ifCond .eq 15, 3) := by decide +kernel
theorem dX4_gap_12 : decode cX4_gap 12 = .ok (.aload_n 0, 1) := by decide +kernel
theorem dX4_gap_13 : decode cX4_gap 13 = .ok (.iload_n 1, 1) := by decide +kernel
theorem dX4_gap_14 : decode cX4_gap 14 = .ok (.iload_n 2, 1) := by decide +kernel
theorem dX4_gap_15 : decode cX4_gap 15 = .ok (.iload_n 3, 1) := by decide +kernel
theorem dX4_gap_16 : decode cX4_gap 16 = .ok (.iload 4, 2) := by decide +kernel
theorem dX4_gap_18 : decode cX4_gap 18 = .ok (.invokevirtual 259, 3) := by decide +kernel
theorem dX4_gap_21 : decode cX4_gap 21 = .ok (.goto 5, 3) := by decide +kernel
theorem dX4_gap_24 : decode cX4_gap 24 = .ok (.ldc 238, 2) := by decide +kernel
theorem dX4_gap_26 : decode cX4_gap 26 = .ok (.freturn, 1) := by decide +kernel
theorem dX4_widestGap_0 : decode cX4_widestGap 0 = .ok (.fconst 0, 1) := by decide +kernel
theorem dX4_widestGap_1 : decode cX4_widestGap 1 = .ok (.fstore_n 1, 1) := by decide +kernel
theorem dX4_widestGap_2 : decode cX4_widestGap 2 = .ok (.iconst 0, 1) := by decide +kernel
theorem dX4_widestGap_3 : decode cX4_widestGap 3 = .ok (.istore_n 2, 1) := by decide +kernel
theorem dX4_widestGap_4 : decode cX4_widestGap 4 = .ok (.iload_n 2, 1) := by decide +kernel
theorem dX4_widestGap_5 : decode cX4_widestGap 5 = .ok (.aload_n 0, 1) := by decide +kernel
theorem dX4_widestGap_6 : decode cX4_widestGap 6 = .ok (.getfield 60, 3) := by decide +kernel
theorem dX4_widestGap_9 : decode cX4_widestGap 9 = .ok (.if_icmp .ge 77, 3) := by decide +kernel
theorem dX4_widestGap_12 : decode cX4_widestGap 12 = .ok (.iconst 0, 1) := by decide +kernel
theorem dX4_widestGap_13 : decode cX4_widestGap 13 = .ok (.istore_n 3, 1) := by decide +kernel
theorem dX4_widestGap_14 : decode cX4_widestGap 14 = .ok (.iload_n 3, 1) := by decide +kernel
theorem dX4_widestGap_15 : decode cX4_widestGap 15 = .ok (.aload_n 0, 1) := by decide +kernel
theorem dX4_widestGap_16 : decode cX4_widestGap 16 = .ok (.getfield 9, 3) := by decide +kernel
theorem dX4_widestGap_19 : decode cX4_widestGap 19 = .ok (.if_icmp .ge 61, 3) := by decide +kernel
theorem dX4_widestGap_22 : decode cX4_widestGap 22 = .ok (.aload_n 0, 1) := by decide +kernel
theorem dX4_widestGap_23 : decode cX4_widestGap 23 = .ok (.iload_n 3, 1) := by decide +kernel
theorem dX4_widestGap_24 : decode cX4_widestGap 24 = .ok (.iload_n 2, 1) := by decide +kernel
theorem dX4_widestGap_25 : decode cX4_widestGap 25 = .ok (.iload_n 3, 1) := by decide +kernel
theorem dX4_widestGap_26 : decode cX4_widestGap 26 = .ok (.iconst 1, 1) := by decide +kernel
theorem dX4_widestGap_27 : decode cX4_widestGap 27 = .ok (.iadd, 1) := by decide +kernel
theorem dX4_widestGap_28 : decode cX4_widestGap 28 = .ok (.iload_n 2, 1) := by decide +kernel
theorem dX4_widestGap_29 : decode cX4_widestGap 29 = .ok (.invokevirtual 263, 3) := by decide +kernel
theorem dX4_widestGap_32 : decode cX4_widestGap 32 = .ok (.fstore 4, 2) := by decide +kernel
theorem dX4_widestGap_34 : decode cX4_widestGap 34 = .ok (.aload_n 0, 1) := by decide +kernel
theorem dX4_widestGap_35 : decode cX4_widestGap 35 = .ok (.iload_n 3, 1) := by decide +kernel
theorem dX4_widestGap_36 : decode cX4_widestGap 36 = .ok (.iload_n 2, 1) := by decide +kernel
theorem dX4_widestGap_37 : decode cX4_widestGap 37 = .ok (.iload_n 3, 1) := by decide +kernel
theorem dX4_widestGap_38 : decode cX4_widestGap 38 = .ok (.iload_n 2, 1) := by decide +kernel
theorem dX4_widestGap_39 : decode cX4_widestGap 39 = .ok (.iconst 1, 1) := by decide +kernel
theorem dX4_widestGap_40 : decode cX4_widestGap 40 = .ok (.iadd, 1) := by decide +kernel
theorem dX4_widestGap_41 : decode cX4_widestGap 41 = .ok (.invokevirtual 263, 3) := by decide +kernel
theorem dX4_widestGap_44 : decode cX4_widestGap 44 = .ok (.fstore 5, 2) := by decide +kernel
theorem dX4_widestGap_46 : decode cX4_widestGap 46 = .ok (.fload 4, 2) := by decide +kernel
theorem dX4_widestGap_48 : decode cX4_widestGap 48 = .ok (.fload_n 1, 1) := by decide +kernel
theorem dX4_widestGap_49 : decode cX4_widestGap 49 = .ok (.fcmp .l, 1) := by decide +kernel
theorem dX4_widestGap_50 : decode cX4_widestGap 50 = .ok (.ifCond .le 8, 3) := by decide +kernel
theorem dX4_widestGap_53 : decode cX4_widestGap 53 = .ok (.fload 4, 2) := by decide +kernel
theorem dX4_widestGap_55 : decode cX4_widestGap 55 = .ok (.goto 4, 3) := by decide +kernel
theorem dX4_widestGap_58 : decode cX4_widestGap 58 = .ok (.fload_n 1, 1) := by decide +kernel
theorem dX4_widestGap_59 : decode cX4_widestGap 59 = .ok (.fstore_n 1, 1) := by decide +kernel
theorem dX4_widestGap_60 : decode cX4_widestGap 60 = .ok (.fload 5, 2) := by decide +kernel
theorem dX4_widestGap_62 : decode cX4_widestGap 62 = .ok (.fload_n 1, 1) := by decide +kernel
theorem dX4_widestGap_63 : decode cX4_widestGap 63 = .ok (.fcmp .l, 1) := by decide +kernel
theorem dX4_widestGap_64 : decode cX4_widestGap 64 = .ok (.ifCond .le 8, 3) := by decide +kernel
theorem dX4_widestGap_67 : decode cX4_widestGap 67 = .ok (.fload 5, 2) := by decide +kernel
theorem dX4_widestGap_69 : decode cX4_widestGap 69 = .ok (.goto 4, 3) := by decide +kernel
theorem dX4_widestGap_72 : decode cX4_widestGap 72 = .ok (.fload_n 1, 1) := by decide +kernel
theorem dX4_widestGap_73 : decode cX4_widestGap 73 = .ok (.fstore_n 1, 1) := by decide +kernel
theorem dX4_widestGap_74 : decode cX4_widestGap 74 = .ok (.iinc 3 1, 3) := by decide +kernel
theorem dX4_widestGap_77 : decode cX4_widestGap 77 = .ok (.goto (-63), 3) := by decide +kernel
theorem dX4_widestGap_80 : decode cX4_widestGap 80 = .ok (.iinc 2 1, 3) := by decide +kernel
theorem dX4_widestGap_83 : decode cX4_widestGap 83 = .ok (.goto (-79), 3) := by decide +kernel
theorem dX4_widestGap_86 : decode cX4_widestGap 86 = .ok (.fload_n 1, 1) := by decide +kernel
theorem dX4_widestGap_87 : decode cX4_widestGap 87 = .ok (.freturn, 1) := by decide +kernel
theorem dX5_init_0 : decode cX5_init 0 = .ok (.aload_n 0, 1) := by decide +kernel
theorem dX5_init_1 : decode cX5_init 1 = .ok (.invokespecial 3, 3) := by decide +kernel
theorem dX5_init_4 : decode cX5_init 4 = .ok (.aload_n 0, 1) := by decide +kernel
theorem dX5_init_5 : decode cX5_init 5 = .ok (.new 9, 3) := by decide +kernel
theorem dX5_init_8 : decode cX5_init 8 = .ok (.dup, 1) := by decide +kernel
theorem dX5_init_9 : decode cX5_init 9 = .ok (.bipush 16, 2) := by decide +kernel
theorem dX5_init_11 : decode cX5_init 11 = .ok (.invokespecial 11, 3) := by decide +kernel
theorem dX5_init_14 : decode cX5_init 14 = .ok (.putfield 14, 3) := by decide +kernel
theorem dX5_init_17 : decode cX5_init 17 = .ok (.aload_n 0, 1) := by decide +kernel
theorem dX5_init_18 : decode cX5_init 18 = .ok (.new 9, 3) := by decide +kernel
theorem dX5_init_21 : decode cX5_init 21 = .ok (.dup, 1) := by decide +kernel
theorem dX5_init_22 : decode cX5_init 22 = .ok (.bipush 16, 2) := by decide +kernel
theorem dX5_init_24 : decode cX5_init 24 = .ok (.invokespecial 11, 3) := by decide +kernel
theorem dX5_init_27 : decode cX5_init 27 = .ok (.putfield 20, 3) := by decide +kernel
theorem dX5_init_30 : decode cX5_init 30 = .ok (.aload_n 0, 1) := by decide +kernel
theorem dX5_init_31 : decode cX5_init 31 = .ok (.new 9, 3) := by decide +kernel
theorem dX5_init_34 : decode cX5_init 34 = .ok (.dup, 1) := by decide +kernel
theorem dX5_init_35 : decode cX5_init 35 = .ok (.bipush 16, 2) := by decide +kernel
theorem dX5_init_37 : decode cX5_init 37 = .ok (.invokespecial 11, 3) := by decide +kernel
theorem dX5_init_40 : decode cX5_init 40 = .ok (.putfield 23, 3) := by decide +kernel
theorem dX5_init_43 : decode cX5_init 43 = .ok (.aload_n 0, 1) := by decide +kernel
theorem dX5_init_44 : decode cX5_init 44 = .ok (.new 9, 3) := by decide +kernel
theorem dX5_init_47 : decode cX5_init 47 = .ok (.dup, 1) := by decide +kernel
theorem dX5_init_48 : decode cX5_init 48 = .ok (.bipush 16, 2) := by decide +kernel
theorem dX5_init_50 : decode cX5_init 50 = .ok (.invokespecial 11, 3) := by decide +kernel
theorem dX5_init_53 : decode cX5_init 53 = .ok (.putfield 26, 3) := by decide +kernel
theorem dX5_init_56 : decode cX5_init 56 = .ok (.aload_n 0, 1) := by decide +kernel
theorem dX5_init_57 : decode cX5_init 57 = .ok (.bipush 16, 2) := by decide +kernel
theorem dX5_init_59 : decode cX5_init 59 = .ok (.newarray .float, 2) := by decide +kernel
theorem dX5_init_61 : decode cX5_init 61 = .ok (.putfield 29, 3) := by decide +kernel
theorem dX5_init_64 : decode cX5_init 64 = .ok (.return_, 1) := by decide +kernel
theorem dX5_has_0 : decode cX5_has 0 = .ok (.iload_n 1, 1) := by decide +kernel
theorem dX5_has_1 : decode cX5_has 1 = .ok (.ifCond .lt 15, 3) := by decide +kernel
theorem dX5_has_4 : decode cX5_has 4 = .ok (.iload_n 1, 1) := by decide +kernel
theorem dX5_has_5 : decode cX5_has 5 = .ok (.aload_n 0, 1) := by decide +kernel
theorem dX5_has_6 : decode cX5_has 6 = .ok (.getfield 33, 3) := by decide +kernel
theorem dX5_has_9 : decode cX5_has 9 = .ok (.if_icmp .ge 7, 3) := by decide +kernel
theorem dX5_has_12 : decode cX5_has 12 = .ok (.iconst 1, 1) := by decide +kernel
theorem dX5_has_13 : decode cX5_has 13 = .ok (.goto 4, 3) := by decide +kernel
theorem dX5_has_16 : decode cX5_has 16 = .ok (.iconst 0, 1) := by decide +kernel
theorem dX5_has_17 : decode cX5_has 17 = .ok (.ireturn, 1) := by decide +kernel
theorem dX5_include_0 : decode cX5_include 0 = .ok (.aload_n 0, 1) := by decide +kernel
theorem dX5_include_1 : decode cX5_include 1 = .ok (.getfield 33, 3) := by decide +kernel
theorem dX5_include_4 : decode cX5_include 4 = .ok (.bipush 16, 2) := by decide +kernel
theorem dX5_include_6 : decode cX5_include 6 = .ok (.if_icmp .lt 5, 3) := by decide +kernel
theorem dX5_include_9 : decode cX5_include 9 = .ok (.iconst (-1), 1) := by decide +kernel
theorem dX5_include_10 : decode cX5_include 10 = .ok (.ireturn, 1) := by decide +kernel
theorem dX5_include_11 : decode cX5_include 11 = .ok (.aload_n 0, 1) := by decide +kernel
theorem dX5_include_12 : decode cX5_include 12 = .ok (.getfield 14, 3) := by decide +kernel
theorem dX5_include_15 : decode cX5_include 15 = .ok (.aload_n 0, 1) := by decide +kernel
theorem dX5_include_16 : decode cX5_include 16 = .ok (.getfield 33, 3) := by decide +kernel
theorem dX5_include_19 : decode cX5_include 19 = .ok (.iload_n 1, 1) := by decide +kernel
theorem dX5_include_20 : decode cX5_include 20 = .ok (.invokevirtual 37, 3) := by decide +kernel
theorem dX5_include_23 : decode cX5_include 23 = .ok (.aload_n 0, 1) := by decide +kernel
theorem dX5_include_24 : decode cX5_include 24 = .ok (.getfield 20, 3) := by decide +kernel
theorem dX5_include_27 : decode cX5_include 27 = .ok (.aload_n 0, 1) := by decide +kernel
theorem dX5_include_28 : decode cX5_include 28 = .ok (.getfield 33, 3) := by decide +kernel
theorem dX5_include_31 : decode cX5_include 31 = .ok (.iload_n 2, 1) := by decide +kernel
theorem dX5_include_32 : decode cX5_include 32 = .ok (.invokevirtual 37, 3) := by decide +kernel
theorem dX5_include_35 : decode cX5_include 35 = .ok (.aload_n 0, 1) := by decide +kernel
theorem dX5_include_36 : decode cX5_include 36 = .ok (.getfield 23, 3) := by decide +kernel
theorem dX5_include_39 : decode cX5_include 39 = .ok (.aload_n 0, 1) := by decide +kernel
theorem dX5_include_40 : decode cX5_include 40 = .ok (.getfield 33, 3) := by decide +kernel
theorem dX5_include_43 : decode cX5_include 43 = .ok (.iload_n 2, 1) := by decide +kernel
theorem dX5_include_44 : decode cX5_include 44 = .ok (.invokevirtual 37, 3) := by decide +kernel
theorem dX5_include_47 : decode cX5_include 47 = .ok (.aload_n 0, 1) := by decide +kernel
theorem dX5_include_48 : decode cX5_include 48 = .ok (.getfield 26, 3) := by decide +kernel
theorem dX5_include_51 : decode cX5_include 51 = .ok (.aload_n 0, 1) := by decide +kernel
theorem dX5_include_52 : decode cX5_include 52 = .ok (.getfield 33, 3) := by decide +kernel
theorem dX5_include_55 : decode cX5_include 55 = .ok (.iload_n 3, 1) := by decide +kernel
theorem dX5_include_56 : decode cX5_include 56 = .ok (.invokevirtual 37, 3) := by decide +kernel
theorem dX5_include_59 : decode cX5_include 59 = .ok (.aload_n 0, 1) := by decide +kernel
theorem dX5_include_60 : decode cX5_include 60 = .ok (.aload_n 0, 1) := by decide +kernel
theorem dX5_include_61 : decode cX5_include 61 = .ok (.getfield 33, 3) := by decide +kernel
theorem dX5_include_64 : decode cX5_include 64 = .ok (.iload_n 3, 1) := by decide +kernel
theorem dX5_include_65 : decode cX5_include 65 = .ok (.invokestatic 41, 3) := by decide +kernel
theorem dX5_include_68 : decode cX5_include 68 = .ok (.invokevirtual 47, 3) := by decide +kernel
theorem dX5_include_71 : decode cX5_include 71 = .ok (.aload_n 0, 1) := by decide +kernel
theorem dX5_include_72 : decode cX5_include 72 = .ok (.dup, 1) := by decide +kernel
theorem dX5_include_73 : decode cX5_include 73 = .ok (.getfield 33, 3) := by decide +kernel
theorem dX5_include_76 : decode cX5_include 76 = .ok (.iconst 1, 1) := by decide +kernel
theorem dX5_include_77 : decode cX5_include 77 = .ok (.iadd, 1) := by decide +kernel
theorem dX5_include_78 : decode cX5_include 78 = .ok (.putfield 33, 3) := by decide +kernel
theorem dX5_include_81 : decode cX5_include 81 = .ok (.aload_n 0, 1) := by decide +kernel
theorem dX5_include_82 : decode cX5_include 82 = .ok (.getfield 33, 3) := by decide +kernel
theorem dX5_include_85 : decode cX5_include 85 = .ok (.iconst 1, 1) := by decide +kernel
theorem dX5_include_86 : decode cX5_include 86 = .ok (.isub, 1) := by decide +kernel
theorem dX5_include_87 : decode cX5_include 87 = .ok (.ireturn, 1) := by decide +kernel
theorem dX5_shadeOf_0 : decode cX5_shadeOf 0 = .ok (.iload_n 1, 1) := by decide +kernel
theorem dX5_shadeOf_1 : decode cX5_shadeOf 1 = .ok (.ifCond .lt 21, 3) := by decide +kernel
theorem dX5_shadeOf_4 : decode cX5_shadeOf 4 = .ok (.iload_n 1, 1) := by decide +kernel
theorem dX5_shadeOf_5 : decode cX5_shadeOf 5 = .ok (.aload_n 0, 1) := by decide +kernel
theorem dX5_shadeOf_6 : decode cX5_shadeOf 6 = .ok (.getfield 29, 3) := by decide +kernel
theorem dX5_shadeOf_9 : decode cX5_shadeOf 9 = .ok (.arraylength, 1) := by decide +kernel
theorem dX5_shadeOf_10 : decode cX5_shadeOf 10 = .ok (.if_icmp .ge 12, 3) := by decide +kernel
theorem dX5_shadeOf_13 : decode cX5_shadeOf 13 = .ok (.aload_n 0, 1) := by decide +kernel
theorem dX5_shadeOf_14 : decode cX5_shadeOf 14 = .ok (.getfield 29, 3) := by decide +kernel
theorem dX5_shadeOf_17 : decode cX5_shadeOf 17 = .ok (.iload_n 1, 1) := by decide +kernel
theorem dX5_shadeOf_18 : decode cX5_shadeOf 18 = .ok (.faload, 1) := by decide +kernel
theorem dX5_shadeOf_19 : decode cX5_shadeOf 19 = .ok (.goto 4, 3) := by decide +kernel
theorem dX5_shadeOf_22 : decode cX5_shadeOf 22 = .ok (.fconst 0, 1) := by decide +kernel
theorem dX5_shadeOf_23 : decode cX5_shadeOf 23 = .ok (.freturn, 1) := by decide +kernel
theorem dX5_putShade_0 : decode cX5_putShade 0 = .ok (.iload_n 1, 1) := by decide +kernel
theorem dX5_putShade_1 : decode cX5_putShade 1 = .ok (.ifCond .lt 19, 3) := by decide +kernel
theorem dX5_putShade_4 : decode cX5_putShade 4 = .ok (.iload_n 1, 1) := by decide +kernel
theorem dX5_putShade_5 : decode cX5_putShade 5 = .ok (.aload_n 0, 1) := by decide +kernel
theorem dX5_putShade_6 : decode cX5_putShade 6 = .ok (.getfield 29, 3) := by decide +kernel
theorem dX5_putShade_9 : decode cX5_putShade 9 = .ok (.arraylength, 1) := by decide +kernel
theorem dX5_putShade_10 : decode cX5_putShade 10 = .ok (.if_icmp .ge 10, 3) := by decide +kernel
theorem dX5_putShade_13 : decode cX5_putShade 13 = .ok (.aload_n 0, 1) := by decide +kernel
theorem dX5_putShade_14 : decode cX5_putShade 14 = .ok (.getfield 29, 3) := by decide +kernel
theorem dX5_putShade_17 : decode cX5_putShade 17 = .ok (.iload_n 1, 1) := by decide +kernel
theorem dX5_putShade_18 : decode cX5_putShade 18 = .ok (.fload_n 2, 1) := by decide +kernel
theorem dX5_putShade_19 : decode cX5_putShade 19 = .ok (.fastore, 1) := by decide +kernel
theorem dX5_putShade_20 : decode cX5_putShade 20 = .ok (.return_, 1) := by decide +kernel
theorem dX5_inUse_0 : decode cX5_inUse 0 = .ok (.iconst 0, 1) := by decide +kernel
theorem dX5_inUse_1 : decode cX5_inUse 1 = .ok (.istore_n 2, 1) := by decide +kernel
theorem dX5_inUse_2 : decode cX5_inUse 2 = .ok (.iload_n 2, 1) := by decide +kernel
theorem dX5_inUse_3 : decode cX5_inUse 3 = .ok (.aload_n 0, 1) := by decide +kernel
theorem dX5_inUse_4 : decode cX5_inUse 4 = .ok (.getfield 33, 3) := by decide +kernel
theorem dX5_inUse_7 : decode cX5_inUse 7 = .ok (.if_icmp .ge 34, 3) := by decide +kernel
theorem dX5_inUse_10 : decode cX5_inUse 10 = .ok (.aload_n 0, 1) := by decide +kernel
theorem dX5_inUse_11 : decode cX5_inUse 11 = .ok (.getfield 14, 3) := by decide +kernel
theorem dX5_inUse_14 : decode cX5_inUse 14 = .ok (.iload_n 2, 1) := by decide +kernel
theorem dX5_inUse_15 : decode cX5_inUse 15 = .ok (.invokevirtual 51, 3) := by decide +kernel
theorem dX5_inUse_18 : decode cX5_inUse 18 = .ok (.iload_n 1, 1) := by decide +kernel
theorem dX5_inUse_19 : decode cX5_inUse 19 = .ok (.if_icmp .ne 16, 3) := by decide +kernel
theorem dX5_inUse_22 : decode cX5_inUse 22 = .ok (.aload_n 0, 1) := by decide +kernel
theorem dX5_inUse_23 : decode cX5_inUse 23 = .ok (.getfield 23, 3) := by decide +kernel
theorem dX5_inUse_26 : decode cX5_inUse 26 = .ok (.iload_n 2, 1) := by decide +kernel
theorem dX5_inUse_27 : decode cX5_inUse 27 = .ok (.invokevirtual 51, 3) := by decide +kernel
theorem dX5_inUse_30 : decode cX5_inUse 30 = .ok (.ifCond .le 5, 3) := by decide +kernel
theorem dX5_inUse_33 : decode cX5_inUse 33 = .ok (.iload_n 2, 1) := by decide +kernel
theorem dX5_inUse_34 : decode cX5_inUse 34 = .ok (.ireturn, 1) := by decide +kernel
theorem dX5_inUse_35 : decode cX5_inUse 35 = .ok (.iinc 2 1, 3) := by decide +kernel
theorem dX5_inUse_38 : decode cX5_inUse 38 = .ok (.goto (-36), 3) := by decide +kernel
theorem dX5_inUse_41 : decode cX5_inUse 41 = .ok (.iconst (-1), 1) := by decide +kernel
theorem dX5_inUse_42 : decode cX5_inUse 42 = .ok (.ireturn, 1) := by decide +kernel
theorem dX5_countOf_0 : decode cX5_countOf 0 = .ok (.iconst 0, 1) := by decide +kernel
theorem dX5_countOf_1 : decode cX5_countOf 1 = .ok (.istore_n 2, 1) := by decide +kernel
theorem dX5_countOf_2 : decode cX5_countOf 2 = .ok (.iconst 0, 1) := by decide +kernel
theorem dX5_countOf_3 : decode cX5_countOf 3 = .ok (.istore_n 3, 1) := by decide +kernel
theorem dX5_countOf_4 : decode cX5_countOf 4 = .ok (.iload_n 3, 1) := by decide +kernel
theorem dX5_countOf_5 : decode cX5_countOf 5 = .ok (.aload_n 0, 1) := by decide +kernel
theorem dX5_countOf_6 : decode cX5_countOf 6 = .ok (.getfield 33, 3) := by decide +kernel
theorem dX5_countOf_9 : decode cX5_countOf 9 = .ok (.if_icmp .ge 29, 3) := by decide +kernel
theorem dX5_countOf_12 : decode cX5_countOf 12 = .ok (.iload_n 2, 1) := by decide +kernel
theorem dX5_countOf_13 : decode cX5_countOf 13 = .ok (.aload_n 0, 1) := by decide +kernel
theorem dX5_countOf_14 : decode cX5_countOf 14 = .ok (.getfield 14, 3) := by decide +kernel
theorem dX5_countOf_17 : decode cX5_countOf 17 = .ok (.iload_n 3, 1) := by decide +kernel
theorem dX5_countOf_18 : decode cX5_countOf 18 = .ok (.invokevirtual 51, 3) := by decide +kernel
theorem dX5_countOf_21 : decode cX5_countOf 21 = .ok (.iload_n 1, 1) := by decide +kernel
theorem dX5_countOf_22 : decode cX5_countOf 22 = .ok (.if_icmp .ne 7, 3) := by decide +kernel
theorem dX5_countOf_25 : decode cX5_countOf 25 = .ok (.iconst 1, 1) := by decide +kernel
theorem dX5_countOf_26 : decode cX5_countOf 26 = .ok (.goto 4, 3) := by decide +kernel
theorem dX5_countOf_29 : decode cX5_countOf 29 = .ok (.iconst 0, 1) := by decide +kernel
theorem dX5_countOf_30 : decode cX5_countOf 30 = .ok (.iadd, 1) := by decide +kernel
theorem dX5_countOf_31 : decode cX5_countOf 31 = .ok (.istore_n 2, 1) := by decide +kernel
theorem dX5_countOf_32 : decode cX5_countOf 32 = .ok (.iinc 3 1, 3) := by decide +kernel
theorem dX5_countOf_35 : decode cX5_countOf 35 = .ok (.goto (-31), 3) := by decide +kernel
theorem dX5_countOf_38 : decode cX5_countOf 38 = .ok (.iload_n 2, 1) := by decide +kernel
theorem dX5_countOf_39 : decode cX5_countOf 39 = .ok (.ireturn, 1) := by decide +kernel
theorem dX5_leftOf_0 : decode cX5_leftOf 0 = .ok (.iconst 0, 1) := by decide +kernel
theorem dX5_leftOf_1 : decode cX5_leftOf 1 = .ok (.istore_n 2, 1) := by decide +kernel
theorem dX5_leftOf_2 : decode cX5_leftOf 2 = .ok (.iconst 0, 1) := by decide +kernel
theorem dX5_leftOf_3 : decode cX5_leftOf 3 = .ok (.istore_n 3, 1) := by decide +kernel
theorem dX5_leftOf_4 : decode cX5_leftOf 4 = .ok (.iload_n 3, 1) := by decide +kernel
theorem dX5_leftOf_5 : decode cX5_leftOf 5 = .ok (.aload_n 0, 1) := by decide +kernel
theorem dX5_leftOf_6 : decode cX5_leftOf 6 = .ok (.getfield 33, 3) := by decide +kernel
theorem dX5_leftOf_9 : decode cX5_leftOf 9 = .ok (.if_icmp .ge 36, 3) := by decide +kernel
theorem dX5_leftOf_12 : decode cX5_leftOf 12 = .ok (.iload_n 2, 1) := by decide +kernel
theorem dX5_leftOf_13 : decode cX5_leftOf 13 = .ok (.aload_n 0, 1) := by decide +kernel
theorem dX5_leftOf_14 : decode cX5_leftOf 14 = .ok (.getfield 14, 3) := by decide +kernel
theorem dX5_leftOf_17 : decode cX5_leftOf 17 = .ok (.iload_n 3, 1) := by decide +kernel
theorem dX5_leftOf_18 : decode cX5_leftOf 18 = .ok (.invokevirtual 51, 3) := by decide +kernel
theorem dX5_leftOf_21 : decode cX5_leftOf 21 = .ok (.iload_n 1, 1) := by decide +kernel
theorem dX5_leftOf_22 : decode cX5_leftOf 22 = .ok (.if_icmp .ne 14, 3) := by decide +kernel
theorem dX5_leftOf_25 : decode cX5_leftOf 25 = .ok (.aload_n 0, 1) := by decide +kernel
theorem dX5_leftOf_26 : decode cX5_leftOf 26 = .ok (.getfield 23, 3) := by decide +kernel
theorem dX5_leftOf_29 : decode cX5_leftOf 29 = .ok (.iload_n 3, 1) := by decide +kernel
theorem dX5_leftOf_30 : decode cX5_leftOf 30 = .ok (.invokevirtual 51, 3) := by decide +kernel
theorem dX5_leftOf_33 : decode cX5_leftOf 33 = .ok (.goto 4, 3) := by decide +kernel
theorem dX5_leftOf_36 : decode cX5_leftOf 36 = .ok (.iconst 0, 1) := by decide +kernel
theorem dX5_leftOf_37 : decode cX5_leftOf 37 = .ok (.iadd, 1) := by decide +kernel
theorem dX5_leftOf_38 : decode cX5_leftOf 38 = .ok (.istore_n 2, 1) := by decide +kernel
theorem dX5_leftOf_39 : decode cX5_leftOf 39 = .ok (.iinc 3 1, 3) := by decide +kernel
theorem dX5_leftOf_42 : decode cX5_leftOf 42 = .ok (.goto (-38), 3) := by decide +kernel
theorem dX5_leftOf_45 : decode cX5_leftOf 45 = .ok (.iload_n 2, 1) := by decide +kernel
theorem dX5_leftOf_46 : decode cX5_leftOf 46 = .ok (.ireturn, 1) := by decide +kernel
theorem dX5_take_0 : decode cX5_take 0 = .ok (.aload_n 0, 1) := by decide +kernel
theorem dX5_take_1 : decode cX5_take 1 = .ok (.iload_n 1, 1) := by decide +kernel
theorem dX5_take_2 : decode cX5_take 2 = .ok (.invokevirtual 55, 3) := by decide +kernel
theorem dX5_take_5 : decode cX5_take 5 = .ok (.istore_n 2, 1) := by decide +kernel
theorem dX5_take_6 : decode cX5_take 6 = .ok (.aload_n 0, 1) := by decide +kernel
theorem dX5_take_7 : decode cX5_take 7 = .ok (.getfield 23, 3) := by decide +kernel
theorem dX5_take_10 : decode cX5_take 10 = .ok (.iload_n 2, 1) := by decide +kernel
theorem dX5_take_11 : decode cX5_take 11 = .ok (.aload_n 0, 1) := by decide +kernel
theorem dX5_take_12 : decode cX5_take 12 = .ok (.getfield 23, 3) := by decide +kernel
theorem dX5_take_15 : decode cX5_take 15 = .ok (.iload_n 2, 1) := by decide +kernel
theorem dX5_take_16 : decode cX5_take 16 = .ok (.invokevirtual 51, 3) := by decide +kernel
theorem dX5_take_19 : decode cX5_take 19 = .ok (.iconst 1, 1) := by decide +kernel
theorem dX5_take_20 : decode cX5_take 20 = .ok (.isub, 1) := by decide +kernel
theorem dX5_take_21 : decode cX5_take 21 = .ok (.invokevirtual 37, 3) := by decide +kernel
theorem dX5_take_24 : decode cX5_take 24 = .ok (.iload_n 2, 1) := by decide +kernel
theorem dX5_take_25 : decode cX5_take 25 = .ok (.ireturn, 1) := by decide +kernel
theorem dX5_giveBack_0 : decode cX5_giveBack 0 = .ok (.aload_n 0, 1) := by decide +kernel
theorem dX5_giveBack_1 : decode cX5_giveBack 1 = .ok (.getfield 23, 3) := by decide +kernel
theorem dX5_giveBack_4 : decode cX5_giveBack 4 = .ok (.iload_n 1, 1) := by decide +kernel
theorem dX5_giveBack_5 : decode cX5_giveBack 5 = .ok (.aload_n 0, 1) := by decide +kernel
theorem dX5_giveBack_6 : decode cX5_giveBack 6 = .ok (.getfield 23, 3) := by decide +kernel
theorem dX5_giveBack_9 : decode cX5_giveBack 9 = .ok (.iload_n 1, 1) := by decide +kernel
theorem dX5_giveBack_10 : decode cX5_giveBack 10 = .ok (.invokevirtual 51, 3) := by decide +kernel
theorem dX5_giveBack_13 : decode cX5_giveBack 13 = .ok (.iconst 1, 1) := by decide +kernel
theorem dX5_giveBack_14 : decode cX5_giveBack 14 = .ok (.iadd, 1) := by decide +kernel
theorem dX5_giveBack_15 : decode cX5_giveBack 15 = .ok (.invokevirtual 37, 3) := by decide +kernel
theorem dX5_giveBack_18 : decode cX5_giveBack 18 = .ok (.return_, 1) := by decide +kernel
theorem dX5_copyFrom_0 : decode cX5_copyFrom 0 = .ok (.aload_n 0, 1) := by decide +kernel
theorem dX5_copyFrom_1 : decode cX5_copyFrom 1 = .ok (.aload_n 1, 1) := by decide +kernel
theorem dX5_copyFrom_2 : decode cX5_copyFrom 2 = .ok (.getfield 33, 3) := by decide +kernel
theorem dX5_copyFrom_5 : decode cX5_copyFrom 5 = .ok (.putfield 33, 3) := by decide +kernel
theorem dX5_copyFrom_8 : decode cX5_copyFrom 8 = .ok (.aload_n 0, 1) := by decide +kernel
theorem dX5_copyFrom_9 : decode cX5_copyFrom 9 = .ok (.getfield 14, 3) := by decide +kernel
theorem dX5_copyFrom_12 : decode cX5_copyFrom 12 = .ok (.aload_n 1, 1) := by decide +kernel
theorem dX5_copyFrom_13 : decode cX5_copyFrom 13 = .ok (.getfield 14, 3) := by decide +kernel
theorem dX5_copyFrom_16 : decode cX5_copyFrom 16 = .ok (.invokevirtual 58, 3) := by decide +kernel
theorem dX5_copyFrom_19 : decode cX5_copyFrom 19 = .ok (.aload_n 0, 1) := by decide +kernel
theorem dX5_copyFrom_20 : decode cX5_copyFrom 20 = .ok (.getfield 20, 3) := by decide +kernel
theorem dX5_copyFrom_23 : decode cX5_copyFrom 23 = .ok (.aload_n 1, 1) := by decide +kernel
theorem dX5_copyFrom_24 : decode cX5_copyFrom 24 = .ok (.getfield 20, 3) := by decide +kernel
theorem dX5_copyFrom_27 : decode cX5_copyFrom 27 = .ok (.invokevirtual 58, 3) := by decide +kernel
theorem dX5_copyFrom_30 : decode cX5_copyFrom 30 = .ok (.aload_n 0, 1) := by decide +kernel
theorem dX5_copyFrom_31 : decode cX5_copyFrom 31 = .ok (.getfield 23, 3) := by decide +kernel
theorem dX5_copyFrom_34 : decode cX5_copyFrom 34 = .ok (.aload_n 1, 1) := by decide +kernel
theorem dX5_copyFrom_35 : decode cX5_copyFrom 35 = .ok (.getfield 23, 3) := by decide +kernel
theorem dX5_copyFrom_38 : decode cX5_copyFrom 38 = .ok (.invokevirtual 58, 3) := by decide +kernel
theorem dX5_copyFrom_41 : decode cX5_copyFrom 41 = .ok (.aload_n 0, 1) := by decide +kernel
theorem dX5_copyFrom_42 : decode cX5_copyFrom 42 = .ok (.getfield 26, 3) := by decide +kernel
theorem dX5_copyFrom_45 : decode cX5_copyFrom 45 = .ok (.aload_n 1, 1) := by decide +kernel
theorem dX5_copyFrom_46 : decode cX5_copyFrom 46 = .ok (.getfield 26, 3) := by decide +kernel
theorem dX5_copyFrom_49 : decode cX5_copyFrom 49 = .ok (.invokevirtual 58, 3) := by decide +kernel
theorem dX5_copyFrom_52 : decode cX5_copyFrom 52 = .ok (.iconst 0, 1) := by decide +kernel
theorem dX5_copyFrom_53 : decode cX5_copyFrom 53 = .ok (.istore_n 2, 1) := by decide +kernel
theorem dX5_copyFrom_54 : decode cX5_copyFrom 54 = .ok (.iload_n 2, 1) := by decide +kernel
theorem dX5_copyFrom_55 : decode cX5_copyFrom 55 = .ok (.bipush 16, 2) := by decide +kernel
theorem dX5_copyFrom_57 : decode cX5_copyFrom 57 = .ok (.if_icmp .ge 19, 3) := by decide +kernel
theorem dX5_copyFrom_60 : decode cX5_copyFrom 60 = .ok (.aload_n 0, 1) := by decide +kernel
theorem dX5_copyFrom_61 : decode cX5_copyFrom 61 = .ok (.iload_n 2, 1) := by decide +kernel
theorem dX5_copyFrom_62 : decode cX5_copyFrom 62 = .ok (.aload_n 1, 1) := by decide +kernel
theorem dX5_copyFrom_63 : decode cX5_copyFrom 63 = .ok (.iload_n 2, 1) := by decide +kernel
theorem dX5_copyFrom_64 : decode cX5_copyFrom 64 = .ok (.invokevirtual 62, 3) := by decide +kernel
theorem dX5_copyFrom_67 : decode cX5_copyFrom 67 = .ok (.invokevirtual 47, 3) := by decide +kernel
theorem dX5_copyFrom_70 : decode cX5_copyFrom 70 = .ok (.iinc 2 1, 3) := by decide +kernel
theorem dX5_copyFrom_73 : decode cX5_copyFrom 73 = .ok (.goto (-19), 3) := by decide +kernel
theorem dX5_copyFrom_76 : decode cX5_copyFrom 76 = .ok (.return_, 1) := by decide +kernel
theorem dX6_init_0 : decode cX6_init 0 = .ok (.aload_n 0, 1) := by decide +kernel
theorem dX6_init_1 : decode cX6_init 1 = .ok (.invokespecial 3, 3) := by decide +kernel
theorem dX6_init_4 : decode cX6_init 4 = .ok (.aload_n 0, 1) := by decide +kernel
theorem dX6_init_5 : decode cX6_init 5 = .ok (.iload_n 1, 1) := by decide +kernel
theorem dX6_init_6 : decode cX6_init 6 = .ok (.iconst 0, 1) := by decide +kernel
theorem dX6_init_7 : decode cX6_init 7 = .ok (.invokestatic 9, 3) := by decide +kernel
theorem dX6_init_10 : decode cX6_init 10 = .ok (.newarray .int, 2) := by decide +kernel
theorem dX6_init_12 : decode cX6_init 12 = .ok (.putfield 15, 3) := by decide +kernel
theorem dX6_init_15 : decode cX6_init 15 = .ok (.return_, 1) := by decide +kernel
theorem dX6_at_0 : decode cX6_at 0 = .ok (.iload_n 1, 1) := by decide +kernel
theorem dX6_at_1 : decode cX6_at 1 = .ok (.ifCond .lt 21, 3) := by decide +kernel
theorem dX6_at_4 : decode cX6_at 4 = .ok (.iload_n 1, 1) := by decide +kernel
theorem dX6_at_5 : decode cX6_at 5 = .ok (.aload_n 0, 1) := by decide +kernel
theorem dX6_at_6 : decode cX6_at 6 = .ok (.getfield 15, 3) := by decide +kernel
theorem dX6_at_9 : decode cX6_at 9 = .ok (.arraylength, 1) := by decide +kernel
theorem dX6_at_10 : decode cX6_at 10 = .ok (.if_icmp .ge 12, 3) := by decide +kernel
theorem dX6_at_13 : decode cX6_at 13 = .ok (.aload_n 0, 1) := by decide +kernel
theorem dX6_at_14 : decode cX6_at 14 = .ok (.getfield 15, 3) := by decide +kernel
theorem dX6_at_17 : decode cX6_at 17 = .ok (.iload_n 1, 1) := by decide +kernel
theorem dX6_at_18 : decode cX6_at 18 = .ok (.iaload, 1) := by decide +kernel
theorem dX6_at_19 : decode cX6_at 19 = .ok (.goto 4, 3) := by decide +kernel
theorem dX6_at_22 : decode cX6_at 22 = .ok (.iconst (-1), 1) := by decide +kernel
theorem dX6_at_23 : decode cX6_at 23 = .ok (.ireturn, 1) := by decide +kernel
theorem dX6_put_0 : decode cX6_put 0 = .ok (.iload_n 1, 1) := by decide +kernel
theorem dX6_put_1 : decode cX6_put 1 = .ok (.ifCond .lt 19, 3) := by decide +kernel
theorem dX6_put_4 : decode cX6_put 4 = .ok (.iload_n 1, 1) := by decide +kernel
theorem dX6_put_5 : decode cX6_put 5 = .ok (.aload_n 0, 1) := by decide +kernel
theorem dX6_put_6 : decode cX6_put 6 = .ok (.getfield 15, 3) := by decide +kernel
theorem dX6_put_9 : decode cX6_put 9 = .ok (.arraylength, 1) := by decide +kernel
theorem dX6_put_10 : decode cX6_put 10 = .ok (.if_icmp .ge 10, 3) := by decide +kernel
theorem dX6_put_13 : decode cX6_put 13 = .ok (.aload_n 0, 1) := by decide +kernel
theorem dX6_put_14 : decode cX6_put 14 = .ok (.getfield 15, 3) := by decide +kernel
theorem dX6_put_17 : decode cX6_put 17 = .ok (.iload_n 1, 1) := by decide +kernel
theorem dX6_put_18 : decode cX6_put 18 = .ok (.iload_n 2, 1) := by decide +kernel
theorem dX6_put_19 : decode cX6_put 19 = .ok (.iastore, 1) := by decide +kernel
theorem dX6_put_20 : decode cX6_put 20 = .ok (.return_, 1) := by decide +kernel
theorem dX6_putAll_0 : decode cX6_putAll 0 = .ok (.iconst 0, 1) := by decide +kernel
theorem dX6_putAll_1 : decode cX6_putAll 1 = .ok (.istore_n 2, 1) := by decide +kernel
theorem dX6_putAll_2 : decode cX6_putAll 2 = .ok (.iload_n 2, 1) := by decide +kernel
theorem dX6_putAll_3 : decode cX6_putAll 3 = .ok (.aload_n 0, 1) := by decide +kernel
theorem dX6_putAll_4 : decode cX6_putAll 4 = .ok (.getfield 15, 3) := by decide +kernel
theorem dX6_putAll_7 : decode cX6_putAll 7 = .ok (.arraylength, 1) := by decide +kernel
theorem dX6_putAll_8 : decode cX6_putAll 8 = .ok (.if_icmp .ge 16, 3) := by decide +kernel
theorem dX6_putAll_11 : decode cX6_putAll 11 = .ok (.aload_n 0, 1) := by decide +kernel
theorem dX6_putAll_12 : decode cX6_putAll 12 = .ok (.getfield 15, 3) := by decide +kernel
theorem dX6_putAll_15 : decode cX6_putAll 15 = .ok (.iload_n 2, 1) := by decide +kernel
theorem dX6_putAll_16 : decode cX6_putAll 16 = .ok (.iload_n 1, 1) := by decide +kernel
theorem dX6_putAll_17 : decode cX6_putAll 17 = .ok (.iastore, 1) := by decide +kernel
theorem dX6_putAll_18 : decode cX6_putAll 18 = .ok (.iinc 2 1, 3) := by decide +kernel
theorem dX6_putAll_21 : decode cX6_putAll 21 = .ok (.goto (-19), 3) := by decide +kernel
theorem dX6_putAll_24 : decode cX6_putAll 24 = .ok (.return_, 1) := by decide +kernel
theorem dX6_copyFrom_0 : decode cX6_copyFrom 0 = .ok (.iconst 0, 1) := by decide +kernel
theorem dX6_copyFrom_1 : decode cX6_copyFrom 1 = .ok (.istore_n 2, 1) := by decide +kernel
theorem dX6_copyFrom_2 : decode cX6_copyFrom 2 = .ok (.iload_n 2, 1) := by decide +kernel
theorem dX6_copyFrom_3 : decode cX6_copyFrom 3 = .ok (.aload_n 0, 1) := by decide +kernel
theorem dX6_copyFrom_4 : decode cX6_copyFrom 4 = .ok (.getfield 15, 3) := by decide +kernel
theorem dX6_copyFrom_7 : decode cX6_copyFrom 7 = .ok (.arraylength, 1) := by decide +kernel
theorem dX6_copyFrom_8 : decode cX6_copyFrom 8 = .ok (.if_icmp .ge 20, 3) := by decide +kernel
theorem dX6_copyFrom_11 : decode cX6_copyFrom 11 = .ok (.aload_n 0, 1) := by decide +kernel
theorem dX6_copyFrom_12 : decode cX6_copyFrom 12 = .ok (.getfield 15, 3) := by decide +kernel
theorem dX6_copyFrom_15 : decode cX6_copyFrom 15 = .ok (.iload_n 2, 1) := by decide +kernel
theorem dX6_copyFrom_16 : decode cX6_copyFrom 16 = .ok (.aload_n 1, 1) := by decide +kernel
theorem dX6_copyFrom_17 : decode cX6_copyFrom 17 = .ok (.iload_n 2, 1) := by decide +kernel
theorem dX6_copyFrom_18 : decode cX6_copyFrom 18 = .ok (.invokevirtual 21, 3) := by decide +kernel
theorem dX6_copyFrom_21 : decode cX6_copyFrom 21 = .ok (.iastore, 1) := by decide +kernel
theorem dX6_copyFrom_22 : decode cX6_copyFrom 22 = .ok (.iinc 2 1, 3) := by decide +kernel
theorem dX6_copyFrom_25 : decode cX6_copyFrom 25 = .ok (.goto (-23), 3) := by decide +kernel
theorem dX6_copyFrom_28 : decode cX6_copyFrom 28 = .ok (.return_, 1) := by decide +kernel
theorem dX6_countOthersThan_0 : decode cX6_countOthersThan 0 = .ok (.iconst 0, 1) := by decide +kernel
theorem dX6_countOthersThan_1 : decode cX6_countOthersThan 1 = .ok (.istore_n 2, 1) := by decide +kernel
theorem dX6_countOthersThan_2 : decode cX6_countOthersThan 2 = .ok (.iconst 0, 1) := by decide +kernel
theorem dX6_countOthersThan_3 : decode cX6_countOthersThan 3 = .ok (.istore_n 3, 1) := by decide +kernel
theorem dX6_countOthersThan_4 : decode cX6_countOthersThan 4 = .ok (.iload_n 3, 1) := by decide +kernel
theorem dX6_countOthersThan_5 : decode cX6_countOthersThan 5 = .ok (.aload_n 0, 1) := by decide +kernel
theorem dX6_countOthersThan_6 : decode cX6_countOthersThan 6 = .ok (.getfield 15, 3) := by decide +kernel
theorem dX6_countOthersThan_9 : decode cX6_countOthersThan 9 = .ok (.arraylength, 1) := by decide +kernel
theorem dX6_countOthersThan_10 : decode cX6_countOthersThan 10 = .ok (.if_icmp .ge 27, 3) := by decide +kernel
theorem dX6_countOthersThan_13 : decode cX6_countOthersThan 13 = .ok (.iload_n 2, 1) := by decide +kernel
theorem dX6_countOthersThan_14 : decode cX6_countOthersThan 14 = .ok (.aload_n 0, 1) := by decide +kernel
theorem dX6_countOthersThan_15 : decode cX6_countOthersThan 15 = .ok (.getfield 15, 3) := by decide +kernel
theorem dX6_countOthersThan_18 : decode cX6_countOthersThan 18 = .ok (.iload_n 3, 1) := by decide +kernel
theorem dX6_countOthersThan_19 : decode cX6_countOthersThan 19 = .ok (.iaload, 1) := by decide +kernel
theorem dX6_countOthersThan_20 : decode cX6_countOthersThan 20 = .ok (.iload_n 1, 1) := by decide +kernel
theorem dX6_countOthersThan_21 : decode cX6_countOthersThan 21 = .ok (.if_icmp .eq 7, 3) := by decide +kernel
theorem dX6_countOthersThan_24 : decode cX6_countOthersThan 24 = .ok (.iconst 1, 1) := by decide +kernel
theorem dX6_countOthersThan_25 : decode cX6_countOthersThan 25 = .ok (.goto 4, 3) := by decide +kernel
theorem dX6_countOthersThan_28 : decode cX6_countOthersThan 28 = .ok (.iconst 0, 1) := by decide +kernel
theorem dX6_countOthersThan_29 : decode cX6_countOthersThan 29 = .ok (.iadd, 1) := by decide +kernel
theorem dX6_countOthersThan_30 : decode cX6_countOthersThan 30 = .ok (.istore_n 2, 1) := by decide +kernel
theorem dX6_countOthersThan_31 : decode cX6_countOthersThan 31 = .ok (.iinc 3 1, 3) := by decide +kernel
theorem dX6_countOthersThan_34 : decode cX6_countOthersThan 34 = .ok (.goto (-30), 3) := by decide +kernel
theorem dX6_countOthersThan_37 : decode cX6_countOthersThan 37 = .ok (.iload_n 2, 1) := by decide +kernel
theorem dX6_countOthersThan_38 : decode cX6_countOthersThan 38 = .ok (.ireturn, 1) := by decide +kernel
theorem dX7_isShade_0 : decode cX7_isShade 0 = .ok (.iload_n 0, 1) := by decide +kernel
theorem dX7_isShade_1 : decode cX7_isShade 1 = .ok (.ldc 9, 2) := by decide +kernel
theorem dX7_isShade_3 : decode cX7_isShade 3 = .ok (.if_icmp .eq 13, 3) := by decide +kernel
theorem dX7_isShade_6 : decode cX7_isShade 6 = .ok (.iconst 0, 1) := by decide +kernel
theorem dX7_isShade_7 : decode cX7_isShade 7 = .ok (.iload_n 0, 1) := by decide +kernel
theorem dX7_isShade_8 : decode cX7_isShade 8 = .ok (.ldc 10, 2) := by decide +kernel
theorem dX7_isShade_10 : decode cX7_isShade 10 = .ok (.invokestatic 11, 3) := by decide +kernel
theorem dX7_isShade_13 : decode cX7_isShade 13 = .ok (.ifCond .eq 7, 3) := by decide +kernel
theorem dX7_isShade_16 : decode cX7_isShade 16 = .ok (.iconst 1, 1) := by decide +kernel
theorem dX7_isShade_17 : decode cX7_isShade 17 = .ok (.goto 4, 3) := by decide +kernel
theorem dX7_isShade_20 : decode cX7_isShade 20 = .ok (.iconst 0, 1) := by decide +kernel
theorem dX7_isShade_21 : decode cX7_isShade 21 = .ok (.ireturn, 1) := by decide +kernel
theorem dX7_fromBits_0 : decode cX7_fromBits 0 = .ok (.iload_n 0, 1) := by decide +kernel
theorem dX7_fromBits_1 : decode cX7_fromBits 1 = .ok (.ifCond .gt 5, 3) := by decide +kernel
theorem dX7_fromBits_4 : decode cX7_fromBits 4 = .ok (.fconst 0, 1) := by decide +kernel
theorem dX7_fromBits_5 : decode cX7_fromBits 5 = .ok (.freturn, 1) := by decide +kernel
theorem dX7_fromBits_6 : decode cX7_fromBits 6 = .ok (.iload_n 0, 1) := by decide +kernel
theorem dX7_fromBits_7 : decode cX7_fromBits 7 = .ok (.bipush 23, 2) := by decide +kernel
theorem dX7_fromBits_9 : decode cX7_fromBits 9 = .ok (.iushr, 1) := by decide +kernel
theorem dX7_fromBits_10 : decode cX7_fromBits 10 = .ok (.istore_n 1, 1) := by decide +kernel
theorem dX7_fromBits_11 : decode cX7_fromBits 11 = .ok (.iload_n 0, 1) := by decide +kernel
theorem dX7_fromBits_12 : decode cX7_fromBits 12 = .ok (.ldc 17, 2) := by decide +kernel
theorem dX7_fromBits_14 : decode cX7_fromBits 14 = .ok (.iand, 1) := by decide +kernel
theorem dX7_fromBits_15 : decode cX7_fromBits 15 = .ok (.istore_n 2, 1) := by decide +kernel
theorem dX7_fromBits_16 : decode cX7_fromBits 16 = .ok (.iload_n 1, 1) := by decide +kernel
theorem dX7_fromBits_17 : decode cX7_fromBits 17 = .ok (.ifCond .ne 7, 3) := by decide +kernel
theorem dX7_fromBits_20 : decode cX7_fromBits 20 = .ok (.iload_n 2, 1) := by decide +kernel
theorem dX7_fromBits_21 : decode cX7_fromBits 21 = .ok (.goto 7, 3) := by decide +kernel
theorem dX7_fromBits_24 : decode cX7_fromBits 24 = .ok (.iload_n 2, 1) := by decide +kernel
theorem dX7_fromBits_25 : decode cX7_fromBits 25 = .ok (.ldc 18, 2) := by decide +kernel
theorem dX7_fromBits_27 : decode cX7_fromBits 27 = .ok (.ior, 1) := by decide +kernel
theorem dX7_fromBits_28 : decode cX7_fromBits 28 = .ok (.i2f, 1) := by decide +kernel
theorem dX7_fromBits_29 : decode cX7_fromBits 29 = .ok (.fstore_n 3, 1) := by decide +kernel
theorem dX7_fromBits_30 : decode cX7_fromBits 30 = .ok (.iload_n 1, 1) := by decide +kernel
theorem dX7_fromBits_31 : decode cX7_fromBits 31 = .ok (.iconst 1, 1) := by decide +kernel
theorem dX7_fromBits_32 : decode cX7_fromBits 32 = .ok (.invokestatic 19, 3) := by decide +kernel
theorem dX7_fromBits_35 : decode cX7_fromBits 35 = .ok (.istore 4, 2) := by decide +kernel
theorem dX7_fromBits_37 : decode cX7_fromBits 37 = .ok (.iload 4, 2) := by decide +kernel
theorem dX7_fromBits_39 : decode cX7_fromBits 39 = .ok (.sipush 150, 3) := by decide +kernel
theorem dX7_fromBits_42 : decode cX7_fromBits 42 = .ok (.if_icmp .ge 14, 3) := by decide +kernel
theorem dX7_fromBits_45 : decode cX7_fromBits 45 = .ok (.fload_n 3, 1) := by decide +kernel
theorem dX7_fromBits_46 : decode cX7_fromBits 46 = .ok (.ldc 25, 2) := by decide +kernel
theorem dX7_fromBits_48 : decode cX7_fromBits 48 = .ok (.fmul, 1) := by decide +kernel
theorem dX7_fromBits_49 : decode cX7_fromBits 49 = .ok (.fstore_n 3, 1) := by decide +kernel
theorem dX7_fromBits_50 : decode cX7_fromBits 50 = .ok (.iinc 4 1, 3) := by decide +kernel
theorem dX7_fromBits_53 : decode cX7_fromBits 53 = .ok (.goto (-16), 3) := by decide +kernel
theorem dX7_fromBits_56 : decode cX7_fromBits 56 = .ok (.fload_n 3, 1) := by decide +kernel
theorem dX7_fromBits_57 : decode cX7_fromBits 57 = .ok (.freturn, 1) := by decide +kernel
theorem dX7_bitsOf_0 : decode cX7_bitsOf 0 = .ok (.fload_n 0, 1) := by decide +kernel
theorem dX7_bitsOf_1 : decode cX7_bitsOf 1 = .ok (.fconst 0, 1) := by decide +kernel
theorem dX7_bitsOf_2 : decode cX7_bitsOf 2 = .ok (.fcmp .l, 1) := by decide +kernel
theorem dX7_bitsOf_3 : decode cX7_bitsOf 3 = .ok (.ifCond .gt 5, 3) := by decide +kernel
theorem dX7_bitsOf_6 : decode cX7_bitsOf 6 = .ok (.iconst 0, 1) := by decide +kernel
theorem dX7_bitsOf_7 : decode cX7_bitsOf 7 = .ok (.ireturn, 1) := by decide +kernel
theorem dX7_bitsOf_8 : decode cX7_bitsOf 8 = .ok (.sipush 150, 3) := by decide +kernel
theorem dX7_bitsOf_11 : decode cX7_bitsOf 11 = .ok (.istore_n 1, 1) := by decide +kernel
theorem dX7_bitsOf_12 : decode cX7_bitsOf 12 = .ok (.fload_n 0, 1) := by decide +kernel
theorem dX7_bitsOf_13 : decode cX7_bitsOf 13 = .ok (.fstore_n 2, 1) := by decide +kernel
theorem dX7_bitsOf_14 : decode cX7_bitsOf 14 = .ok (.iload_n 1, 1) := by decide +kernel
theorem dX7_bitsOf_15 : decode cX7_bitsOf 15 = .ok (.iconst 1, 1) := by decide +kernel
theorem dX7_bitsOf_16 : decode cX7_bitsOf 16 = .ok (.if_icmp .le 20, 3) := by decide +kernel
theorem dX7_bitsOf_19 : decode cX7_bitsOf 19 = .ok (.fload_n 2, 1) := by decide +kernel
theorem dX7_bitsOf_20 : decode cX7_bitsOf 20 = .ok (.ldc 26, 2) := by decide +kernel
theorem dX7_bitsOf_22 : decode cX7_bitsOf 22 = .ok (.fcmp .g, 1) := by decide +kernel
theorem dX7_bitsOf_23 : decode cX7_bitsOf 23 = .ok (.ifCond .ge 13, 3) := by decide +kernel
theorem dX7_bitsOf_26 : decode cX7_bitsOf 26 = .ok (.fload_n 2, 1) := by decide +kernel
theorem dX7_bitsOf_27 : decode cX7_bitsOf 27 = .ok (.fconst 2, 1) := by decide +kernel
theorem dX7_bitsOf_28 : decode cX7_bitsOf 28 = .ok (.fmul, 1) := by decide +kernel
theorem dX7_bitsOf_29 : decode cX7_bitsOf 29 = .ok (.fstore_n 2, 1) := by decide +kernel
theorem dX7_bitsOf_30 : decode cX7_bitsOf 30 = .ok (.iinc 1 (-1), 3) := by decide +kernel
theorem dX7_bitsOf_33 : decode cX7_bitsOf 33 = .ok (.goto (-19), 3) := by decide +kernel
theorem dX7_bitsOf_36 : decode cX7_bitsOf 36 = .ok (.iload_n 1, 1) := by decide +kernel
theorem dX7_bitsOf_37 : decode cX7_bitsOf 37 = .ok (.iconst 1, 1) := by decide +kernel
theorem dX7_bitsOf_38 : decode cX7_bitsOf 38 = .ok (.isub, 1) := by decide +kernel
theorem dX7_bitsOf_39 : decode cX7_bitsOf 39 = .ok (.bipush 23, 2) := by decide +kernel
theorem dX7_bitsOf_41 : decode cX7_bitsOf 41 = .ok (.ishl, 1) := by decide +kernel
theorem dX7_bitsOf_42 : decode cX7_bitsOf 42 = .ok (.fload_n 2, 1) := by decide +kernel
theorem dX7_bitsOf_43 : decode cX7_bitsOf 43 = .ok (.f2i, 1) := by decide +kernel
theorem dX7_bitsOf_44 : decode cX7_bitsOf 44 = .ok (.iadd, 1) := by decide +kernel
theorem dX7_bitsOf_45 : decode cX7_bitsOf 45 = .ok (.ireturn, 1) := by decide +kernel
theorem dX9_init_0 : decode cX9_init 0 = .ok (.aload_n 0, 1) := by decide +kernel
theorem dX9_init_1 : decode cX9_init 1 = .ok (.invokespecial 1, 3) := by decide +kernel
theorem dX9_init_4 : decode cX9_init 4 = .ok (.aload_n 0, 1) := by decide +kernel
theorem dX9_init_5 : decode cX9_init 5 = .ok (.new 7, 3) := by decide +kernel
theorem dX9_init_8 : decode cX9_init 8 = .ok (.dup, 1) := by decide +kernel
theorem dX9_init_9 : decode cX9_init 9 = .ok (.invokespecial 9, 3) := by decide +kernel
theorem dX9_init_12 : decode cX9_init 12 = .ok (.putfield 10, 3) := by decide +kernel
theorem dX9_init_15 : decode cX9_init 15 = .ok (.aload_n 0, 1) := by decide +kernel
theorem dX9_init_16 : decode cX9_init 16 = .ok (.new 16, 3) := by decide +kernel
theorem dX9_init_19 : decode cX9_init 19 = .ok (.dup, 1) := by decide +kernel
theorem dX9_init_20 : decode cX9_init 20 = .ok (.invokespecial 18, 3) := by decide +kernel
theorem dX9_init_23 : decode cX9_init 23 = .ok (.putfield 19, 3) := by decide +kernel
theorem dX9_init_26 : decode cX9_init 26 = .ok (.aload_n 0, 1) := by decide +kernel
theorem dX9_init_27 : decode cX9_init 27 = .ok (.new 23, 3) := by decide +kernel
theorem dX9_init_30 : decode cX9_init 30 = .ok (.dup, 1) := by decide +kernel
theorem dX9_init_31 : decode cX9_init 31 = .ok (.invokespecial 25, 3) := by decide +kernel
theorem dX9_init_34 : decode cX9_init 34 = .ok (.putfield 26, 3) := by decide +kernel
theorem dX9_init_37 : decode cX9_init 37 = .ok (.aload_n 0, 1) := by decide +kernel
theorem dX9_init_38 : decode cX9_init 38 = .ok (.new 30, 3) := by decide +kernel
theorem dX9_init_41 : decode cX9_init 41 = .ok (.dup, 1) := by decide +kernel
theorem dX9_init_42 : decode cX9_init 42 = .ok (.aload_n 0, 1) := by decide +kernel
theorem dX9_init_43 : decode cX9_init 43 = .ok (.getfield 26, 3) := by decide +kernel
theorem dX9_init_46 : decode cX9_init 46 = .ok (.invokespecial 32, 3) := by decide +kernel
theorem dX9_init_49 : decode cX9_init 49 = .ok (.putfield 35, 3) := by decide +kernel
theorem dX9_init_52 : decode cX9_init 52 = .ok (.return_, 1) := by decide +kernel
theorem dX9_begin_0 : decode cX9_begin 0 = .ok (.aload_n 0, 1) := by decide +kernel
theorem dX9_begin_1 : decode cX9_begin 1 = .ok (.getfield 10, 3) := by decide +kernel
theorem dX9_begin_4 : decode cX9_begin 4 = .ok (.iload_n 1, 1) := by decide +kernel
theorem dX9_begin_5 : decode cX9_begin 5 = .ok (.iload_n 2, 1) := by decide +kernel
theorem dX9_begin_6 : decode cX9_begin 6 = .ok (.invokevirtual 39, 3) := by decide +kernel
theorem dX9_begin_9 : decode cX9_begin 9 = .ok (.invokestatic 43, 3) := by decide +kernel
theorem dX9_begin_12 : decode cX9_begin 12 = .ok (.aload_n 0, 1) := by decide +kernel
theorem dX9_begin_13 : decode cX9_begin 13 = .ok (.getfield 19, 3) := by decide +kernel
theorem dX9_begin_16 : decode cX9_begin 16 = .ok (.aload_n 0, 1) := by decide +kernel
theorem dX9_begin_17 : decode cX9_begin 17 = .ok (.getfield 10, 3) := by decide +kernel
theorem dX9_begin_20 : decode cX9_begin 20 = .ok (.invokevirtual 47, 3) := by decide +kernel
theorem dX9_begin_23 : decode cX9_begin 23 = .ok (.aload_n 0, 1) := by decide +kernel
theorem dX9_begin_24 : decode cX9_begin 24 = .ok (.getfield 10, 3) := by decide +kernel
theorem dX9_begin_27 : decode cX9_begin 27 = .ok (.iload_n 1, 1) := by decide +kernel
theorem dX9_begin_28 : decode cX9_begin 28 = .ok (.iload_n 2, 1) := by decide +kernel
theorem dX9_begin_29 : decode cX9_begin 29 = .ok (.invokevirtual 51, 3) := by decide +kernel
theorem dX9_begin_32 : decode cX9_begin 32 = .ok (.ireturn, 1) := by decide +kernel
theorem dX9_fill_0 : decode cX9_fill 0 = .ok (.aload_n 0, 1) := by decide +kernel
theorem dX9_fill_1 : decode cX9_fill 1 = .ok (.getfield 10, 3) := by decide +kernel
theorem dX9_fill_4 : decode cX9_fill 4 = .ok (.iload_n 1, 1) := by decide +kernel
theorem dX9_fill_5 : decode cX9_fill 5 = .ok (.iload_n 2, 1) := by decide +kernel
theorem dX9_fill_6 : decode cX9_fill 6 = .ok (.iload_n 3, 1) := by decide +kernel
theorem dX9_fill_7 : decode cX9_fill 7 = .ok (.iload 4, 2) := by decide +kernel
theorem dX9_fill_9 : decode cX9_fill 9 = .ok (.iload 5, 2) := by decide +kernel
theorem dX9_fill_11 : decode cX9_fill 11 = .ok (.invokevirtual 54, 3) := by decide +kernel
theorem dX9_fill_14 : decode cX9_fill 14 = .ok (.invokestatic 43, 3) := by decide +kernel
theorem dX9_fill_17 : decode cX9_fill 17 = .ok (.aload_n 0, 1) := by decide +kernel
theorem dX9_fill_18 : decode cX9_fill 18 = .ok (.getfield 19, 3) := by decide +kernel
theorem dX9_fill_21 : decode cX9_fill 21 = .ok (.aload_n 0, 1) := by decide +kernel
theorem dX9_fill_22 : decode cX9_fill 22 = .ok (.getfield 10, 3) := by decide +kernel
theorem dX9_fill_25 : decode cX9_fill 25 = .ok (.invokevirtual 47, 3) := by decide +kernel
theorem dX9_fill_28 : decode cX9_fill 28 = .ok (.aload_n 0, 1) := by decide +kernel
theorem dX9_fill_29 : decode cX9_fill 29 = .ok (.getfield 10, 3) := by decide +kernel
theorem dX9_fill_32 : decode cX9_fill 32 = .ok (.iload_n 1, 1) := by decide +kernel
theorem dX9_fill_33 : decode cX9_fill 33 = .ok (.iload_n 2, 1) := by decide +kernel
theorem dX9_fill_34 : decode cX9_fill 34 = .ok (.iload_n 3, 1) := by decide +kernel
theorem dX9_fill_35 : decode cX9_fill 35 = .ok (.iload 4, 2) := by decide +kernel
theorem dX9_fill_37 : decode cX9_fill 37 = .ok (.iload 5, 2) := by decide +kernel
theorem dX9_fill_39 : decode cX9_fill 39 = .ok (.invokevirtual 58, 3) := by decide +kernel
theorem dX9_fill_42 : decode cX9_fill 42 = .ok (.ireturn, 1) := by decide +kernel
theorem dX9_addLot_0 : decode cX9_addLot 0 = .ok (.aload_n 0, 1) := by decide +kernel
theorem dX9_addLot_1 : decode cX9_addLot 1 = .ok (.getfield 10, 3) := by decide +kernel
theorem dX9_addLot_4 : decode cX9_addLot 4 = .ok (.iload_n 1, 1) := by decide +kernel
theorem dX9_addLot_5 : decode cX9_addLot 5 = .ok (.iload_n 2, 1) := by decide +kernel
theorem dX9_addLot_6 : decode cX9_addLot 6 = .ok (.iload_n 3, 1) := by decide +kernel
theorem dX9_addLot_7 : decode cX9_addLot 7 = .ok (.invokevirtual 61, 3) := by decide +kernel
theorem dX9_addLot_10 : decode cX9_addLot 10 = .ok (.invokestatic 43, 3) := by decide +kernel
theorem dX9_addLot_13 : decode cX9_addLot 13 = .ok (.aload_n 0, 1) := by decide +kernel
theorem dX9_addLot_14 : decode cX9_addLot 14 = .ok (.getfield 19, 3) := by decide +kernel
theorem dX9_addLot_17 : decode cX9_addLot 17 = .ok (.aload_n 0, 1) := by decide +kernel
theorem dX9_addLot_18 : decode cX9_addLot 18 = .ok (.getfield 10, 3) := by decide +kernel
theorem dX9_addLot_21 : decode cX9_addLot 21 = .ok (.invokevirtual 47, 3) := by decide +kernel
theorem dX9_addLot_24 : decode cX9_addLot 24 = .ok (.aload_n 0, 1) := by decide +kernel
theorem dX9_addLot_25 : decode cX9_addLot 25 = .ok (.getfield 10, 3) := by decide +kernel
theorem dX9_addLot_28 : decode cX9_addLot 28 = .ok (.getfield 65, 3) := by decide +kernel
theorem dX9_addLot_31 : decode cX9_addLot 31 = .ok (.iload_n 1, 1) := by decide +kernel
theorem dX9_addLot_32 : decode cX9_addLot 32 = .ok (.iload_n 2, 1) := by decide +kernel
theorem dX9_addLot_33 : decode cX9_addLot 33 = .ok (.iload_n 3, 1) := by decide +kernel
theorem dX9_addLot_34 : decode cX9_addLot 34 = .ok (.invokevirtual 69, 3) := by decide +kernel
theorem dX9_addLot_37 : decode cX9_addLot 37 = .ok (.ireturn, 1) := by decide +kernel
theorem dX9_setLimit_0 : decode cX9_setLimit 0 = .ok (.aload_n 0, 1) := by decide +kernel
theorem dX9_setLimit_1 : decode cX9_setLimit 1 = .ok (.getfield 10, 3) := by decide +kernel
theorem dX9_setLimit_4 : decode cX9_setLimit 4 = .ok (.iload_n 1, 1) := by decide +kernel
theorem dX9_setLimit_5 : decode cX9_setLimit 5 = .ok (.invokevirtual 84, 3) := by decide +kernel
theorem dX9_setLimit_8 : decode cX9_setLimit 8 = .ok (.invokestatic 43, 3) := by decide +kernel
theorem dX9_setLimit_11 : decode cX9_setLimit 11 = .ok (.aload_n 0, 1) := by decide +kernel
theorem dX9_setLimit_12 : decode cX9_setLimit 12 = .ok (.getfield 19, 3) := by decide +kernel
theorem dX9_setLimit_15 : decode cX9_setLimit 15 = .ok (.aload_n 0, 1) := by decide +kernel
theorem dX9_setLimit_16 : decode cX9_setLimit 16 = .ok (.getfield 10, 3) := by decide +kernel
theorem dX9_setLimit_19 : decode cX9_setLimit 19 = .ok (.invokevirtual 47, 3) := by decide +kernel
theorem dX9_setLimit_22 : decode cX9_setLimit 22 = .ok (.aload_n 0, 1) := by decide +kernel
theorem dX9_setLimit_23 : decode cX9_setLimit 23 = .ok (.getfield 10, 3) := by decide +kernel
theorem dX9_setLimit_26 : decode cX9_setLimit 26 = .ok (.iload_n 1, 1) := by decide +kernel
theorem dX9_setLimit_27 : decode cX9_setLimit 27 = .ok (.invokevirtual 87, 3) := by decide +kernel
theorem dX9_setLimit_30 : decode cX9_setLimit 30 = .ok (.ireturn, 1) := by decide +kernel
theorem dX9_plant_0 : decode cX9_plant 0 = .ok (.aload_n 0, 1) := by decide +kernel
theorem dX9_plant_1 : decode cX9_plant 1 = .ok (.getfield 10, 3) := by decide +kernel
theorem dX9_plant_4 : decode cX9_plant 4 = .ok (.iload_n 1, 1) := by decide +kernel
theorem dX9_plant_5 : decode cX9_plant 5 = .ok (.iload_n 2, 1) := by decide +kernel
theorem dX9_plant_6 : decode cX9_plant 6 = .ok (.invokevirtual 90, 3) := by decide +kernel
theorem dX9_plant_9 : decode cX9_plant 9 = .ok (.invokestatic 43, 3) := by decide +kernel
theorem dX9_plant_12 : decode cX9_plant 12 = .ok (.aload_n 0, 1) := by decide +kernel
theorem dX9_plant_13 : decode cX9_plant 13 = .ok (.getfield 19, 3) := by decide +kernel
theorem dX9_plant_16 : decode cX9_plant 16 = .ok (.aload_n 0, 1) := by decide +kernel
theorem dX9_plant_17 : decode cX9_plant 17 = .ok (.getfield 10, 3) := by decide +kernel
theorem dX9_plant_20 : decode cX9_plant 20 = .ok (.invokevirtual 47, 3) := by decide +kernel
theorem dX9_plant_23 : decode cX9_plant 23 = .ok (.aload_n 0, 1) := by decide +kernel
theorem dX9_plant_24 : decode cX9_plant 24 = .ok (.getfield 10, 3) := by decide +kernel
theorem dX9_plant_27 : decode cX9_plant 27 = .ok (.iload_n 1, 1) := by decide +kernel
theorem dX9_plant_28 : decode cX9_plant 28 = .ok (.iload_n 2, 1) := by decide +kernel
theorem dX9_plant_29 : decode cX9_plant 29 = .ok (.invokevirtual 93, 3) := by decide +kernel
theorem dX9_plant_32 : decode cX9_plant 32 = .ok (.ireturn, 1) := by decide +kernel
theorem dX9_weave_0 : decode cX9_weave 0 = .ok (.aload_n 0, 1) := by decide +kernel
theorem dX9_weave_1 : decode cX9_weave 1 = .ok (.getfield 10, 3) := by decide +kernel
theorem dX9_weave_4 : decode cX9_weave 4 = .ok (.iload_n 1, 1) := by decide +kernel
theorem dX9_weave_5 : decode cX9_weave 5 = .ok (.invokevirtual 96, 3) := by decide +kernel
theorem dX9_weave_8 : decode cX9_weave 8 = .ok (.invokestatic 43, 3) := by decide +kernel
theorem dX9_weave_11 : decode cX9_weave 11 = .ok (.aload_n 0, 1) := by decide +kernel
theorem dX9_weave_12 : decode cX9_weave 12 = .ok (.getfield 19, 3) := by decide +kernel
theorem dX9_weave_15 : decode cX9_weave 15 = .ok (.aload_n 0, 1) := by decide +kernel
theorem dX9_weave_16 : decode cX9_weave 16 = .ok (.getfield 10, 3) := by decide +kernel
theorem dX9_weave_19 : decode cX9_weave 19 = .ok (.invokevirtual 47, 3) := by decide +kernel
theorem dX9_weave_22 : decode cX9_weave 22 = .ok (.aload_n 0, 1) := by decide +kernel
theorem dX9_weave_23 : decode cX9_weave 23 = .ok (.getfield 10, 3) := by decide +kernel
theorem dX9_weave_26 : decode cX9_weave 26 = .ok (.iload_n 1, 1) := by decide +kernel
theorem dX9_weave_27 : decode cX9_weave 27 = .ok (.invokevirtual 99, 3) := by decide +kernel
theorem dX9_weave_30 : decode cX9_weave 30 = .ok (.ireturn, 1) := by decide +kernel
theorem dX9_unweave_0 : decode cX9_unweave 0 = .ok (.aload_n 0, 1) := by decide +kernel
theorem dX9_unweave_1 : decode cX9_unweave 1 = .ok (.getfield 10, 3) := by decide +kernel
theorem dX9_unweave_4 : decode cX9_unweave 4 = .ok (.iload_n 1, 1) := by decide +kernel
theorem dX9_unweave_5 : decode cX9_unweave 5 = .ok (.invokevirtual 102, 3) := by decide +kernel
theorem dX9_unweave_8 : decode cX9_unweave 8 = .ok (.invokestatic 43, 3) := by decide +kernel
theorem dX9_unweave_11 : decode cX9_unweave 11 = .ok (.aload_n 0, 1) := by decide +kernel
theorem dX9_unweave_12 : decode cX9_unweave 12 = .ok (.getfield 19, 3) := by decide +kernel
theorem dX9_unweave_15 : decode cX9_unweave 15 = .ok (.aload_n 0, 1) := by decide +kernel
theorem dX9_unweave_16 : decode cX9_unweave 16 = .ok (.getfield 10, 3) := by decide +kernel
theorem dX9_unweave_19 : decode cX9_unweave 19 = .ok (.invokevirtual 47, 3) := by decide +kernel
theorem dX9_unweave_22 : decode cX9_unweave 22 = .ok (.aload_n 0, 1) := by decide +kernel
theorem dX9_unweave_23 : decode cX9_unweave 23 = .ok (.getfield 10, 3) := by decide +kernel
theorem dX9_unweave_26 : decode cX9_unweave 26 = .ok (.iload_n 1, 1) := by decide +kernel
theorem dX9_unweave_27 : decode cX9_unweave 27 = .ok (.invokevirtual 105, 3) := by decide +kernel
theorem dX9_unweave_30 : decode cX9_unweave 30 = .ok (.ireturn, 1) := by decide +kernel
theorem dX9_sew_0 : decode cX9_sew 0 = .ok (.aload_n 0, 1) := by decide +kernel
theorem dX9_sew_1 : decode cX9_sew 1 = .ok (.getfield 10, 3) := by decide +kernel
theorem dX9_sew_4 : decode cX9_sew 4 = .ok (.iload_n 1, 1) := by decide +kernel
theorem dX9_sew_5 : decode cX9_sew 5 = .ok (.invokevirtual 108, 3) := by decide +kernel
theorem dX9_sew_8 : decode cX9_sew 8 = .ok (.invokestatic 43, 3) := by decide +kernel
theorem dX9_sew_11 : decode cX9_sew 11 = .ok (.aload_n 0, 1) := by decide +kernel
theorem dX9_sew_12 : decode cX9_sew 12 = .ok (.getfield 19, 3) := by decide +kernel
theorem dX9_sew_15 : decode cX9_sew 15 = .ok (.aload_n 0, 1) := by decide +kernel
theorem dX9_sew_16 : decode cX9_sew 16 = .ok (.getfield 10, 3) := by decide +kernel
theorem dX9_sew_19 : decode cX9_sew 19 = .ok (.invokevirtual 47, 3) := by decide +kernel
theorem dX9_sew_22 : decode cX9_sew 22 = .ok (.aload_n 0, 1) := by decide +kernel
theorem dX9_sew_23 : decode cX9_sew 23 = .ok (.getfield 10, 3) := by decide +kernel
theorem dX9_sew_26 : decode cX9_sew 26 = .ok (.iload_n 1, 1) := by decide +kernel
theorem dX9_sew_27 : decode cX9_sew 27 = .ok (.invokevirtual 111, 3) := by decide +kernel
theorem dX9_sew_30 : decode cX9_sew 30 = .ok (.ireturn, 1) := by decide +kernel
theorem dX9_cell_0 : decode cX9_cell 0 = .ok (.aload_n 0, 1) := by decide +kernel
theorem dX9_cell_1 : decode cX9_cell 1 = .ok (.getfield 10, 3) := by decide +kernel
theorem dX9_cell_4 : decode cX9_cell 4 = .ok (.iload_n 1, 1) := by decide +kernel
theorem dX9_cell_5 : decode cX9_cell 5 = .ok (.iload_n 2, 1) := by decide +kernel
theorem dX9_cell_6 : decode cX9_cell 6 = .ok (.invokevirtual 114, 3) := by decide +kernel
theorem dX9_cell_9 : decode cX9_cell 9 = .ok (.ifCond .eq 7, 3) := by decide +kernel
theorem dX9_cell_12 : decode cX9_cell 12 = .ok (.iconst 0, 1) := by decide +kernel
theorem dX9_cell_13 : decode cX9_cell 13 = .ok (.goto 4, 3) := by decide +kernel
theorem dX9_cell_16 : decode cX9_cell 16 = .ok (.iconst 1, 1) := by decide +kernel
theorem dX9_cell_17 : decode cX9_cell 17 = .ok (.invokestatic 43, 3) := by decide +kernel
theorem dX9_cell_20 : decode cX9_cell 20 = .ok (.iconst 0, 1) := by decide +kernel
theorem dX9_cell_21 : decode cX9_cell 21 = .ok (.iload_n 3, 1) := by decide +kernel
theorem dX9_cell_22 : decode cX9_cell 22 = .ok (.iconst 3, 1) := by decide +kernel
theorem dX9_cell_23 : decode cX9_cell 23 = .ok (.invokestatic 118, 3) := by decide +kernel
theorem dX9_cell_26 : decode cX9_cell 26 = .ok (.ifCond .eq 7, 3) := by decide +kernel
theorem dX9_cell_29 : decode cX9_cell 29 = .ok (.iconst 0, 1) := by decide +kernel
theorem dX9_cell_30 : decode cX9_cell 30 = .ok (.goto 4, 3) := by decide +kernel
theorem dX9_cell_33 : decode cX9_cell 33 = .ok (.iconst 2, 1) := by decide +kernel
theorem dX9_cell_34 : decode cX9_cell 34 = .ok (.invokestatic 43, 3) := by decide +kernel
theorem dX9_cell_37 : decode cX9_cell 37 = .ok (.aload_n 0, 1) := by decide +kernel
theorem dX9_cell_38 : decode cX9_cell 38 = .ok (.getfield 10, 3) := by decide +kernel
theorem dX9_cell_41 : decode cX9_cell 41 = .ok (.iload_n 1, 1) := by decide +kernel
theorem dX9_cell_42 : decode cX9_cell 42 = .ok (.iload_n 2, 1) := by decide +kernel
theorem dX9_cell_43 : decode cX9_cell 43 = .ok (.iload_n 3, 1) := by decide +kernel
theorem dX9_cell_44 : decode cX9_cell 44 = .ok (.invokevirtual 122, 3) := by decide +kernel
theorem dX9_cell_47 : decode cX9_cell 47 = .ok (.ireturn, 1) := by decide +kernel
theorem dX9_row_0 : decode cX9_row 0 = .ok (.aload_n 0, 1) := by decide +kernel
theorem dX9_row_1 : decode cX9_row 1 = .ok (.getfield 10, 3) := by decide +kernel
theorem dX9_row_4 : decode cX9_row 4 = .ok (.iload_n 1, 1) := by decide +kernel
theorem dX9_row_5 : decode cX9_row 5 = .ok (.invokevirtual 125, 3) := by decide +kernel
theorem dX9_row_8 : decode cX9_row 8 = .ok (.ifCond .eq 7, 3) := by decide +kernel
theorem dX9_row_11 : decode cX9_row 11 = .ok (.iconst 0, 1) := by decide +kernel
theorem dX9_row_12 : decode cX9_row 12 = .ok (.goto 4, 3) := by decide +kernel
theorem dX9_row_15 : decode cX9_row 15 = .ok (.iconst 1, 1) := by decide +kernel
theorem dX9_row_16 : decode cX9_row 16 = .ok (.invokestatic 43, 3) := by decide +kernel
theorem dX9_row_19 : decode cX9_row 19 = .ok (.iconst 0, 1) := by decide +kernel
theorem dX9_row_20 : decode cX9_row 20 = .ok (.iload_n 2, 1) := by decide +kernel
theorem dX9_row_21 : decode cX9_row 21 = .ok (.iconst 4, 1) := by decide +kernel
theorem dX9_row_22 : decode cX9_row 22 = .ok (.invokestatic 118, 3) := by decide +kernel
theorem dX9_row_25 : decode cX9_row 25 = .ok (.ifCond .eq 7, 3) := by decide +kernel
theorem dX9_row_28 : decode cX9_row 28 = .ok (.iconst 0, 1) := by decide +kernel
theorem dX9_row_29 : decode cX9_row 29 = .ok (.goto 4, 3) := by decide +kernel
theorem dX9_row_32 : decode cX9_row 32 = .ok (.iconst 2, 1) := by decide +kernel
theorem dX9_row_33 : decode cX9_row 33 = .ok (.invokestatic 43, 3) := by decide +kernel
theorem dX9_row_36 : decode cX9_row 36 = .ok (.aload_n 0, 1) := by decide +kernel
theorem dX9_row_37 : decode cX9_row 37 = .ok (.getfield 10, 3) := by decide +kernel
theorem dX9_row_40 : decode cX9_row 40 = .ok (.iload_n 1, 1) := by decide +kernel
theorem dX9_row_41 : decode cX9_row 41 = .ok (.iload_n 2, 1) := by decide +kernel
theorem dX9_row_42 : decode cX9_row 42 = .ok (.invokevirtual 128, 3) := by decide +kernel
theorem dX9_row_45 : decode cX9_row 45 = .ok (.ireturn, 1) := by decide +kernel
theorem dX9_lot_0 : decode cX9_lot 0 = .ok (.aload_n 0, 1) := by decide +kernel
theorem dX9_lot_1 : decode cX9_lot 1 = .ok (.getfield 10, 3) := by decide +kernel
theorem dX9_lot_4 : decode cX9_lot 4 = .ok (.getfield 65, 3) := by decide +kernel
theorem dX9_lot_7 : decode cX9_lot 7 = .ok (.iload_n 1, 1) := by decide +kernel
theorem dX9_lot_8 : decode cX9_lot 8 = .ok (.invokevirtual 131, 3) := by decide +kernel
theorem dX9_lot_11 : decode cX9_lot 11 = .ok (.ifCond .eq 7, 3) := by decide +kernel
theorem dX9_lot_14 : decode cX9_lot 14 = .ok (.iconst 0, 1) := by decide +kernel
theorem dX9_lot_15 : decode cX9_lot 15 = .ok (.goto 4, 3) := by decide +kernel
theorem dX9_lot_18 : decode cX9_lot 18 = .ok (.iconst 1, 1) := by decide +kernel
theorem dX9_lot_19 : decode cX9_lot 19 = .ok (.invokestatic 43, 3) := by decide +kernel
theorem dX9_lot_22 : decode cX9_lot 22 = .ok (.iconst 0, 1) := by decide +kernel
theorem dX9_lot_23 : decode cX9_lot 23 = .ok (.iload_n 2, 1) := by decide +kernel
theorem dX9_lot_24 : decode cX9_lot 24 = .ok (.iconst 5, 1) := by decide +kernel
theorem dX9_lot_25 : decode cX9_lot 25 = .ok (.invokestatic 118, 3) := by decide +kernel
theorem dX9_lot_28 : decode cX9_lot 28 = .ok (.ifCond .eq 7, 3) := by decide +kernel
theorem dX9_lot_31 : decode cX9_lot 31 = .ok (.iconst 0, 1) := by decide +kernel
theorem dX9_lot_32 : decode cX9_lot 32 = .ok (.goto 4, 3) := by decide +kernel
theorem dX9_lot_35 : decode cX9_lot 35 = .ok (.iconst 2, 1) := by decide +kernel
theorem dX9_lot_36 : decode cX9_lot 36 = .ok (.invokestatic 43, 3) := by decide +kernel
theorem dX9_lot_39 : decode cX9_lot 39 = .ok (.aload_n 0, 1) := by decide +kernel
theorem dX9_lot_40 : decode cX9_lot 40 = .ok (.getfield 10, 3) := by decide +kernel
theorem dX9_lot_43 : decode cX9_lot 43 = .ok (.iload_n 1, 1) := by decide +kernel
theorem dX9_lot_44 : decode cX9_lot 44 = .ok (.iload_n 2, 1) := by decide +kernel
theorem dX9_lot_45 : decode cX9_lot 45 = .ok (.invokevirtual 134, 3) := by decide +kernel
theorem dX9_lot_48 : decode cX9_lot 48 = .ok (.ireturn, 1) := by decide +kernel
theorem dX9_color_0 : decode cX9_color 0 = .ok (.iload_n 1, 1) := by decide +kernel
theorem dX9_color_1 : decode cX9_color 1 = .ok (.invokestatic 137, 3) := by decide +kernel
theorem dX9_color_4 : decode cX9_color 4 = .ok (.ifCond .eq 16, 3) := by decide +kernel
theorem dX9_color_7 : decode cX9_color 7 = .ok (.iconst 0, 1) := by decide +kernel
theorem dX9_color_8 : decode cX9_color 8 = .ok (.iload_n 2, 1) := by decide +kernel
theorem dX9_color_9 : decode cX9_color 9 = .ok (.iconst 5, 1) := by decide +kernel
theorem dX9_color_10 : decode cX9_color 10 = .ok (.invokestatic 118, 3) := by decide +kernel
theorem dX9_color_13 : decode cX9_color 13 = .ok (.ifCond .eq 7, 3) := by decide +kernel
theorem dX9_color_16 : decode cX9_color 16 = .ok (.iconst 0, 1) := by decide +kernel
theorem dX9_color_17 : decode cX9_color 17 = .ok (.goto 4, 3) := by decide +kernel
theorem dX9_color_20 : decode cX9_color 20 = .ok (.iconst 2, 1) := by decide +kernel
theorem dX9_color_21 : decode cX9_color 21 = .ok (.invokestatic 43, 3) := by decide +kernel
theorem dX9_color_24 : decode cX9_color 24 = .ok (.aload_n 0, 1) := by decide +kernel
theorem dX9_color_25 : decode cX9_color 25 = .ok (.getfield 10, 3) := by decide +kernel
theorem dX9_color_28 : decode cX9_color 28 = .ok (.iload_n 1, 1) := by decide +kernel
theorem dX9_color_29 : decode cX9_color 29 = .ok (.iload_n 2, 1) := by decide +kernel
theorem dX9_color_30 : decode cX9_color 30 = .ok (.invokevirtual 140, 3) := by decide +kernel
theorem dX9_color_33 : decode cX9_color 33 = .ok (.ireturn, 1) := by decide +kernel
theorem dX9_slit_0 : decode cX9_slit 0 = .ok (.iload_n 1, 1) := by decide +kernel
theorem dX9_slit_1 : decode cX9_slit 1 = .ok (.ifCond .lt 16, 3) := by decide +kernel
theorem dX9_slit_4 : decode cX9_slit 4 = .ok (.iconst 0, 1) := by decide +kernel
theorem dX9_slit_5 : decode cX9_slit 5 = .ok (.iload_n 2, 1) := by decide +kernel
theorem dX9_slit_6 : decode cX9_slit 6 = .ok (.iconst 3, 1) := by decide +kernel
theorem dX9_slit_7 : decode cX9_slit 7 = .ok (.invokestatic 118, 3) := by decide +kernel
theorem dX9_slit_10 : decode cX9_slit 10 = .ok (.ifCond .eq 7, 3) := by decide +kernel
theorem dX9_slit_13 : decode cX9_slit 13 = .ok (.iconst 0, 1) := by decide +kernel
theorem dX9_slit_14 : decode cX9_slit 14 = .ok (.goto 4, 3) := by decide +kernel
theorem dX9_slit_17 : decode cX9_slit 17 = .ok (.iconst 2, 1) := by decide +kernel
theorem dX9_slit_18 : decode cX9_slit 18 = .ok (.invokestatic 43, 3) := by decide +kernel
theorem dX9_slit_21 : decode cX9_slit 21 = .ok (.aload_n 0, 1) := by decide +kernel
theorem dX9_slit_22 : decode cX9_slit 22 = .ok (.getfield 10, 3) := by decide +kernel
theorem dX9_slit_25 : decode cX9_slit 25 = .ok (.iload_n 1, 1) := by decide +kernel
theorem dX9_slit_26 : decode cX9_slit 26 = .ok (.invokevirtual 143, 3) := by decide +kernel
theorem dX9_slit_29 : decode cX9_slit 29 = .ok (.istore_n 3, 1) := by decide +kernel
theorem dX9_slit_30 : decode cX9_slit 30 = .ok (.iload_n 3, 1) := by decide +kernel
theorem dX9_slit_31 : decode cX9_slit 31 = .ok (.iconst (-1), 1) := by decide +kernel
theorem dX9_slit_32 : decode cX9_slit 32 = .ok (.if_icmp .ne 7, 3) := by decide +kernel
theorem dX9_slit_35 : decode cX9_slit 35 = .ok (.iconst (-1), 1) := by decide +kernel
theorem dX9_slit_36 : decode cX9_slit 36 = .ok (.goto 19, 3) := by decide +kernel
theorem dX9_slit_39 : decode cX9_slit 39 = .ok (.aload_n 0, 1) := by decide +kernel
theorem dX9_slit_40 : decode cX9_slit 40 = .ok (.getfield 10, 3) := by decide +kernel
theorem dX9_slit_43 : decode cX9_slit 43 = .ok (.iload_n 3, 1) := by decide +kernel
theorem dX9_slit_44 : decode cX9_slit 44 = .ok (.bipush 16, 2) := by decide +kernel
theorem dX9_slit_46 : decode cX9_slit 46 = .ok (.idiv, 1) := by decide +kernel
theorem dX9_slit_47 : decode cX9_slit 47 = .ok (.iload_n 3, 1) := by decide +kernel
theorem dX9_slit_48 : decode cX9_slit 48 = .ok (.bipush 16, 2) := by decide +kernel
theorem dX9_slit_50 : decode cX9_slit 50 = .ok (.irem, 1) := by decide +kernel
theorem dX9_slit_51 : decode cX9_slit 51 = .ok (.iload_n 2, 1) := by decide +kernel
theorem dX9_slit_52 : decode cX9_slit 52 = .ok (.invokevirtual 146, 3) := by decide +kernel
theorem dX9_slit_55 : decode cX9_slit 55 = .ok (.ireturn, 1) := by decide +kernel
theorem dX9_whole_0 : decode cX9_whole 0 = .ok (.iconst 0, 1) := by decide +kernel
theorem dX9_whole_1 : decode cX9_whole 1 = .ok (.iload_n 1, 1) := by decide +kernel
theorem dX9_whole_2 : decode cX9_whole 2 = .ok (.bipush 14, 2) := by decide +kernel
theorem dX9_whole_4 : decode cX9_whole 4 = .ok (.invokestatic 118, 3) := by decide +kernel
theorem dX9_whole_7 : decode cX9_whole 7 = .ok (.ifCond .eq 7, 3) := by decide +kernel
theorem dX9_whole_10 : decode cX9_whole 10 = .ok (.iconst 0, 1) := by decide +kernel
theorem dX9_whole_11 : decode cX9_whole 11 = .ok (.goto 4, 3) := by decide +kernel
theorem dX9_whole_14 : decode cX9_whole 14 = .ok (.iconst 2, 1) := by decide +kernel
theorem dX9_whole_15 : decode cX9_whole 15 = .ok (.invokestatic 43, 3) := by decide +kernel
theorem dX9_whole_18 : decode cX9_whole 18 = .ok (.aload_n 0, 1) := by decide +kernel
theorem dX9_whole_19 : decode cX9_whole 19 = .ok (.getfield 10, 3) := by decide +kernel
theorem dX9_whole_22 : decode cX9_whole 22 = .ok (.iload_n 1, 1) := by decide +kernel
theorem dX9_whole_23 : decode cX9_whole 23 = .ok (.aload_n 0, 1) := by decide +kernel
theorem dX9_whole_24 : decode cX9_whole 24 = .ok (.getfield 26, 3) := by decide +kernel
theorem dX9_whole_27 : decode cX9_whole 27 = .ok (.getfield 149, 3) := by decide +kernel
theorem dX9_whole_30 : decode cX9_whole 30 = .ok (.invokevirtual 153, 3) := by decide +kernel
theorem dX9_whole_33 : decode cX9_whole 33 = .ok (.ireturn, 1) := by decide +kernel
theorem dX9_rowsPossible_0 : decode cX9_rowsPossible 0 = .ok (.aload_n 0, 1) := by decide +kernel
theorem dX9_rowsPossible_1 : decode cX9_rowsPossible 1 = .ok (.getfield 10, 3) := by decide +kernel
theorem dX9_rowsPossible_4 : decode cX9_rowsPossible 4 = .ok (.invokevirtual 171, 3) := by decide +kernel
theorem dX9_rowsPossible_7 : decode cX9_rowsPossible 7 = .ok (.ireturn, 1) := by decide +kernel
theorem dX9_missing_0 : decode cX9_missing 0 = .ok (.iload_n 1, 1) := by decide +kernel
theorem dX9_missing_1 : decode cX9_missing 1 = .ok (.invokestatic 137, 3) := by decide +kernel
theorem dX9_missing_4 : decode cX9_missing 4 = .ok (.ifCond .eq 7, 3) := by decide +kernel
theorem dX9_missing_7 : decode cX9_missing 7 = .ok (.iconst 0, 1) := by decide +kernel
theorem dX9_missing_8 : decode cX9_missing 8 = .ok (.goto 4, 3) := by decide +kernel
theorem dX9_missing_11 : decode cX9_missing 11 = .ok (.iconst 2, 1) := by decide +kernel
theorem dX9_missing_12 : decode cX9_missing 12 = .ok (.invokestatic 43, 3) := by decide +kernel
theorem dX9_missing_15 : decode cX9_missing 15 = .ok (.iconst 0, 1) := by decide +kernel
theorem dX9_missing_16 : decode cX9_missing 16 = .ok (.aload_n 0, 1) := by decide +kernel
theorem dX9_missing_17 : decode cX9_missing 17 = .ok (.getfield 10, 3) := by decide +kernel
theorem dX9_missing_20 : decode cX9_missing 20 = .ok (.iload_n 1, 1) := by decide +kernel
theorem dX9_missing_21 : decode cX9_missing 21 = .ok (.invokevirtual 175, 3) := by decide +kernel
theorem dX9_missing_24 : decode cX9_missing 24 = .ok (.aload_n 0, 1) := by decide +kernel
theorem dX9_missing_25 : decode cX9_missing 25 = .ok (.getfield 10, 3) := by decide +kernel
theorem dX9_missing_28 : decode cX9_missing 28 = .ok (.getfield 65, 3) := by decide +kernel
theorem dX9_missing_31 : decode cX9_missing 31 = .ok (.iload_n 1, 1) := by decide +kernel
theorem dX9_missing_32 : decode cX9_missing 32 = .ok (.invokevirtual 178, 3) := by decide +kernel
theorem dX9_missing_35 : decode cX9_missing 35 = .ok (.isub, 1) := by decide +kernel
theorem dX9_missing_36 : decode cX9_missing 36 = .ok (.invokestatic 181, 3) := by decide +kernel
theorem dX9_missing_39 : decode cX9_missing 39 = .ok (.ireturn, 1) := by decide +kernel
theorem dX9_slitsWith_0 : decode cX9_slitsWith 0 = .ok (.aload_n 0, 1) := by decide +kernel
theorem dX9_slitsWith_1 : decode cX9_slitsWith 1 = .ok (.getfield 10, 3) := by decide +kernel
theorem dX9_slitsWith_4 : decode cX9_slitsWith 4 = .ok (.iload_n 1, 1) := by decide +kernel
theorem dX9_slitsWith_5 : decode cX9_slitsWith 5 = .ok (.invokevirtual 84, 3) := by decide +kernel
theorem dX9_slitsWith_8 : decode cX9_slitsWith 8 = .ok (.invokestatic 43, 3) := by decide +kernel
theorem dX9_slitsWith_11 : decode cX9_slitsWith 11 = .ok (.aload_n 0, 1) := by decide +kernel
theorem dX9_slitsWith_12 : decode cX9_slitsWith 12 = .ok (.getfield 10, 3) := by decide +kernel
theorem dX9_slitsWith_15 : decode cX9_slitsWith 15 = .ok (.iload_n 1, 1) := by decide +kernel
theorem dX9_slitsWith_16 : decode cX9_slitsWith 16 = .ok (.invokevirtual 186, 3) := by decide +kernel
theorem dX9_slitsWith_19 : decode cX9_slitsWith 19 = .ok (.ireturn, 1) := by decide +kernel
theorem dX9_firstWrong_0 : decode cX9_firstWrong 0 = .ok (.aload_n 0, 1) := by decide +kernel
theorem dX9_firstWrong_1 : decode cX9_firstWrong 1 = .ok (.getfield 10, 3) := by decide +kernel
theorem dX9_firstWrong_4 : decode cX9_firstWrong 4 = .ok (.invokevirtual 189, 3) := by decide +kernel
theorem dX9_firstWrong_7 : decode cX9_firstWrong 7 = .ok (.ireturn, 1) := by decide +kernel
theorem dX9_shuttlesFor_0 : decode cX9_shuttlesFor 0 = .ok (.aload_n 0, 1) := by decide +kernel
theorem dX9_shuttlesFor_1 : decode cX9_shuttlesFor 1 = .ok (.getfield 10, 3) := by decide +kernel
theorem dX9_shuttlesFor_4 : decode cX9_shuttlesFor 4 = .ok (.iconst 0, 1) := by decide +kernel
theorem dX9_shuttlesFor_5 : decode cX9_shuttlesFor 5 = .ok (.iload_n 1, 1) := by decide +kernel
theorem dX9_shuttlesFor_6 : decode cX9_shuttlesFor 6 = .ok (.invokevirtual 114, 3) := by decide +kernel
theorem dX9_shuttlesFor_9 : decode cX9_shuttlesFor 9 = .ok (.ifCond .eq 7, 3) := by decide +kernel
theorem dX9_shuttlesFor_12 : decode cX9_shuttlesFor 12 = .ok (.iconst 0, 1) := by decide +kernel
theorem dX9_shuttlesFor_13 : decode cX9_shuttlesFor 13 = .ok (.goto 4, 3) := by decide +kernel
theorem dX9_shuttlesFor_16 : decode cX9_shuttlesFor 16 = .ok (.iconst 1, 1) := by decide +kernel
theorem dX9_shuttlesFor_17 : decode cX9_shuttlesFor 17 = .ok (.invokestatic 43, 3) := by decide +kernel
theorem dX9_shuttlesFor_20 : decode cX9_shuttlesFor 20 = .ok (.aload_n 0, 1) := by decide +kernel
theorem dX9_shuttlesFor_21 : decode cX9_shuttlesFor 21 = .ok (.getfield 10, 3) := by decide +kernel
theorem dX9_shuttlesFor_24 : decode cX9_shuttlesFor 24 = .ok (.getfield 192, 3) := by decide +kernel
theorem dX9_shuttlesFor_27 : decode cX9_shuttlesFor 27 = .ok (.iload_n 1, 1) := by decide +kernel
theorem dX9_shuttlesFor_28 : decode cX9_shuttlesFor 28 = .ok (.aload_n 0, 1) := by decide +kernel
theorem dX9_shuttlesFor_29 : decode cX9_shuttlesFor 29 = .ok (.getfield 10, 3) := by decide +kernel
theorem dX9_shuttlesFor_32 : decode cX9_shuttlesFor 32 = .ok (.getfield 196, 3) := by decide +kernel
theorem dX9_shuttlesFor_35 : decode cX9_shuttlesFor 35 = .ok (.invokevirtual 199, 3) := by decide +kernel
theorem dX9_shuttlesFor_38 : decode cX9_shuttlesFor 38 = .ok (.ireturn, 1) := by decide +kernel
theorem dX9_undo_0 : decode cX9_undo 0 = .ok (.aload_n 0, 1) := by decide +kernel
theorem dX9_undo_1 : decode cX9_undo 1 = .ok (.getfield 19, 3) := by decide +kernel
theorem dX9_undo_4 : decode cX9_undo 4 = .ok (.getfield 226, 3) := by decide +kernel
theorem dX9_undo_7 : decode cX9_undo 7 = .ok (.ifCond .le 7, 3) := by decide +kernel
theorem dX9_undo_10 : decode cX9_undo 10 = .ok (.iconst 0, 1) := by decide +kernel
theorem dX9_undo_11 : decode cX9_undo 11 = .ok (.goto 4, 3) := by decide +kernel
theorem dX9_undo_14 : decode cX9_undo 14 = .ok (.iconst 3, 1) := by decide +kernel
theorem dX9_undo_15 : decode cX9_undo 15 = .ok (.invokestatic 43, 3) := by decide +kernel
theorem dX9_undo_18 : decode cX9_undo 18 = .ok (.aload_n 0, 1) := by decide +kernel
theorem dX9_undo_19 : decode cX9_undo 19 = .ok (.getfield 19, 3) := by decide +kernel
theorem dX9_undo_22 : decode cX9_undo 22 = .ok (.aload_n 0, 1) := by decide +kernel
theorem dX9_undo_23 : decode cX9_undo 23 = .ok (.getfield 10, 3) := by decide +kernel
theorem dX9_undo_26 : decode cX9_undo 26 = .ok (.invokevirtual 229, 3) := by decide +kernel
theorem dX9_undo_29 : decode cX9_undo 29 = .ok (.ireturn, 1) := by decide +kernel
theorem dX9_digest_0 : decode cX9_digest 0 = .ok (.ldc2_w 233, 3) := by decide +kernel
theorem dX9_digest_3 : decode cX9_digest 3 = .ok (.aload_n 0, 1) := by decide +kernel
theorem dX9_digest_4 : decode cX9_digest 4 = .ok (.getfield 19, 3) := by decide +kernel
theorem dX9_digest_7 : decode cX9_digest 7 = .ok (.getfield 226, 3) := by decide +kernel
theorem dX9_digest_10 : decode cX9_digest 10 = .ok (.invokestatic 235, 3) := by decide +kernel
theorem dX9_digest_13 : decode cX9_digest 13 = .ok (.lstore_n 1, 1) := by decide +kernel
theorem dX9_digest_14 : decode cX9_digest 14 = .ok (.iconst 0, 1) := by decide +kernel
theorem dX9_digest_15 : decode cX9_digest 15 = .ok (.istore_n 3, 1) := by decide +kernel
theorem dX9_digest_16 : decode cX9_digest 16 = .ok (.iload_n 3, 1) := by decide +kernel
theorem dX9_digest_17 : decode cX9_digest 17 = .ok (.bipush 15, 2) := by decide +kernel
theorem dX9_digest_19 : decode cX9_digest 19 = .ok (.if_icmp .ge 29, 3) := by decide +kernel
theorem dX9_digest_22 : decode cX9_digest 22 = .ok (.lload_n 1, 1) := by decide +kernel
theorem dX9_digest_23 : decode cX9_digest 23 = .ok (.aload_n 0, 1) := by decide +kernel
theorem dX9_digest_24 : decode cX9_digest 24 = .ok (.getfield 10, 3) := by decide +kernel
theorem dX9_digest_27 : decode cX9_digest 27 = .ok (.iload_n 3, 1) := by decide +kernel
theorem dX9_digest_28 : decode cX9_digest 28 = .ok (.aload_n 0, 1) := by decide +kernel
theorem dX9_digest_29 : decode cX9_digest 29 = .ok (.getfield 26, 3) := by decide +kernel
theorem dX9_digest_32 : decode cX9_digest 32 = .ok (.getfield 149, 3) := by decide +kernel
theorem dX9_digest_35 : decode cX9_digest 35 = .ok (.invokevirtual 153, 3) := by decide +kernel
theorem dX9_digest_38 : decode cX9_digest 38 = .ok (.invokestatic 235, 3) := by decide +kernel
theorem dX9_digest_41 : decode cX9_digest 41 = .ok (.lstore_n 1, 1) := by decide +kernel
theorem dX9_digest_42 : decode cX9_digest 42 = .ok (.iinc 3 1, 3) := by decide +kernel
theorem dX9_digest_45 : decode cX9_digest 45 = .ok (.goto (-29), 3) := by decide +kernel
theorem dX9_digest_48 : decode cX9_digest 48 = .ok (.aload_n 0, 1) := by decide +kernel
theorem dX9_digest_49 : decode cX9_digest 49 = .ok (.lload_n 1, 1) := by decide +kernel
theorem dX9_digest_50 : decode cX9_digest 50 = .ok (.invokevirtual 239, 3) := by decide +kernel
theorem dX9_digest_53 : decode cX9_digest 53 = .ok (.lstore_n 1, 1) := by decide +kernel
theorem dX9_digest_54 : decode cX9_digest 54 = .ok (.aload_n 0, 1) := by decide +kernel
theorem dX9_digest_55 : decode cX9_digest 55 = .ok (.lload_n 1, 1) := by decide +kernel
theorem dX9_digest_56 : decode cX9_digest 56 = .ok (.invokevirtual 243, 3) := by decide +kernel
theorem dX9_digest_59 : decode cX9_digest 59 = .ok (.lstore_n 1, 1) := by decide +kernel
theorem dX9_digest_60 : decode cX9_digest 60 = .ok (.aload_n 0, 1) := by decide +kernel
theorem dX9_digest_61 : decode cX9_digest 61 = .ok (.lload_n 1, 1) := by decide +kernel
theorem dX9_digest_62 : decode cX9_digest 62 = .ok (.invokevirtual 246, 3) := by decide +kernel
theorem dX9_digest_65 : decode cX9_digest 65 = .ok (.lstore_n 1, 1) := by decide +kernel
theorem dX9_digest_66 : decode cX9_digest 66 = .ok (.aload_n 0, 1) := by decide +kernel
theorem dX9_digest_67 : decode cX9_digest 67 = .ok (.lload_n 1, 1) := by decide +kernel
theorem dX9_digest_68 : decode cX9_digest 68 = .ok (.invokevirtual 249, 3) := by decide +kernel
theorem dX9_digest_71 : decode cX9_digest 71 = .ok (.lstore_n 1, 1) := by decide +kernel
theorem dX9_digest_72 : decode cX9_digest 72 = .ok (.aload_n 0, 1) := by decide +kernel
theorem dX9_digest_73 : decode cX9_digest 73 = .ok (.lload_n 1, 1) := by decide +kernel
theorem dX9_digest_74 : decode cX9_digest 74 = .ok (.invokevirtual 252, 3) := by decide +kernel
theorem dX9_digest_77 : decode cX9_digest 77 = .ok (.lstore_n 1, 1) := by decide +kernel
theorem dX9_digest_78 : decode cX9_digest 78 = .ok (.lload_n 1, 1) := by decide +kernel
theorem dX9_digest_79 : decode cX9_digest 79 = .ok (.aload_n 0, 1) := by decide +kernel
theorem dX9_digest_80 : decode cX9_digest 80 = .ok (.getfield 10, 3) := by decide +kernel
theorem dX9_digest_83 : decode cX9_digest 83 = .ok (.invokevirtual 167, 3) := by decide +kernel
theorem dX9_digest_86 : decode cX9_digest 86 = .ok (.invokestatic 160, 3) := by decide +kernel
theorem dX9_digest_89 : decode cX9_digest 89 = .ok (.invokestatic 235, 3) := by decide +kernel
theorem dX9_digest_92 : decode cX9_digest 92 = .ok (.lreturn, 1) := by decide +kernel
theorem dX9_refuse_0 : decode cX9_refuse 0 = .ok (.iload_n 0, 1) := by decide +kernel
theorem dX9_refuse_1 : decode cX9_refuse 1 = .ok (.iconst 1, 1) := by decide +kernel
theorem dX9_refuse_2 : decode cX9_refuse 2 = .ok (.if_icmp .ne 14, 3) := by decide +kernel
theorem dX9_refuse_5 : decode cX9_refuse 5 = .ok (.new 255, 3) := by decide +kernel
theorem dX9_refuse_8 : decode cX9_refuse 8 = .ok (.dup, 1) := by decide +kernel
theorem dX9_refuse_9 : decode cX9_refuse 9 = .ok (.ldc_w 257, 3) := by decide +kernel
theorem dX9_refuse_12 : decode cX9_refuse 12 = .ok (.invokespecial 259, 3) := by decide +kernel
theorem dX9_refuse_15 : decode cX9_refuse 15 = .ok (.athrow, 1) := by decide +kernel
theorem dX9_refuse_16 : decode cX9_refuse 16 = .ok (.iload_n 0, 1) := by decide +kernel
theorem dX9_refuse_17 : decode cX9_refuse 17 = .ok (.iconst 2, 1) := by decide +kernel
theorem dX9_refuse_18 : decode cX9_refuse 18 = .ok (.if_icmp .ne 14, 3) := by decide +kernel
theorem dX9_refuse_21 : decode cX9_refuse 21 = .ok (.new 262, 3) := by decide +kernel
theorem dX9_refuse_24 : decode cX9_refuse 24 = .ok (.dup, 1) := by decide +kernel
theorem dX9_refuse_25 : decode cX9_refuse 25 = .ok (.ldc_w 264, 3) := by decide +kernel
theorem dX9_refuse_28 : decode cX9_refuse 28 = .ok (.invokespecial 266, 3) := by decide +kernel
theorem dX9_refuse_31 : decode cX9_refuse 31 = .ok (.athrow, 1) := by decide +kernel
theorem dX9_refuse_32 : decode cX9_refuse 32 = .ok (.iload_n 0, 1) := by decide +kernel
theorem dX9_refuse_33 : decode cX9_refuse 33 = .ok (.iconst 3, 1) := by decide +kernel
theorem dX9_refuse_34 : decode cX9_refuse 34 = .ok (.if_icmp .ne 14, 3) := by decide +kernel
theorem dX9_refuse_37 : decode cX9_refuse 37 = .ok (.new 267, 3) := by decide +kernel
theorem dX9_refuse_40 : decode cX9_refuse 40 = .ok (.dup, 1) := by decide +kernel
theorem dX9_refuse_41 : decode cX9_refuse 41 = .ok (.ldc_w 269, 3) := by decide +kernel
theorem dX9_refuse_44 : decode cX9_refuse 44 = .ok (.invokespecial 271, 3) := by decide +kernel
theorem dX9_refuse_47 : decode cX9_refuse 47 = .ok (.athrow, 1) := by decide +kernel
theorem dX9_refuse_48 : decode cX9_refuse 48 = .ok (.return_, 1) := by decide +kernel
theorem dX9_isFrom_0 : decode cX9_isFrom 0 = .ok (.iload_n 1, 1) := by decide +kernel
theorem dX9_isFrom_1 : decode cX9_isFrom 1 = .ok (.iload_n 0, 1) := by decide +kernel
theorem dX9_isFrom_2 : decode cX9_isFrom 2 = .ok (.if_icmp .lt 12, 3) := by decide +kernel
theorem dX9_isFrom_5 : decode cX9_isFrom 5 = .ok (.iload_n 1, 1) := by decide +kernel
theorem dX9_isFrom_6 : decode cX9_isFrom 6 = .ok (.iload_n 2, 1) := by decide +kernel
theorem dX9_isFrom_7 : decode cX9_isFrom 7 = .ok (.if_icmp .gt 7, 3) := by decide +kernel
theorem dX9_isFrom_10 : decode cX9_isFrom 10 = .ok (.iconst 1, 1) := by decide +kernel
theorem dX9_isFrom_11 : decode cX9_isFrom 11 = .ok (.goto 4, 3) := by decide +kernel
theorem dX9_isFrom_14 : decode cX9_isFrom 14 = .ok (.iconst 0, 1) := by decide +kernel
theorem dX9_isFrom_15 : decode cX9_isFrom 15 = .ok (.ireturn, 1) := by decide +kernel
theorem dX9_isColor_0 : decode cX9_isColor 0 = .ok (.iconst 0, 1) := by decide +kernel
theorem dX9_isColor_1 : decode cX9_isColor 1 = .ok (.iload_n 0, 1) := by decide +kernel
theorem dX9_isColor_2 : decode cX9_isColor 2 = .ok (.bipush 7, 2) := by decide +kernel
theorem dX9_isColor_4 : decode cX9_isColor 4 = .ok (.invokestatic 118, 3) := by decide +kernel
theorem dX9_isColor_7 : decode cX9_isColor 7 = .ok (.ireturn, 1) := by decide +kernel
theorem dX9_mixed_0 : decode cX9_mixed 0 = .ok (.ldc2_w 311, 3) := by decide +kernel
theorem dX9_mixed_3 : decode cX9_mixed 3 = .ok (.lload_n 0, 1) := by decide +kernel
theorem dX9_mixed_4 : decode cX9_mixed 4 = .ok (.lmul, 1) := by decide +kernel
theorem dX9_mixed_5 : decode cX9_mixed 5 = .ok (.iload_n 2, 1) := by decide +kernel
theorem dX9_mixed_6 : decode cX9_mixed 6 = .ok (.i2l, 1) := by decide +kernel
theorem dX9_mixed_7 : decode cX9_mixed 7 = .ok (.ladd, 1) := by decide +kernel
theorem dX9_mixed_8 : decode cX9_mixed 8 = .ok (.lreturn, 1) := by decide +kernel
theorem dX9_mixedCells_0 : decode cX9_mixedCells 0 = .ok (.lload_n 1, 1) := by decide +kernel
theorem dX9_mixedCells_1 : decode cX9_mixedCells 1 = .ok (.lstore_n 3, 1) := by decide +kernel
theorem dX9_mixedCells_2 : decode cX9_mixedCells 2 = .ok (.iconst 0, 1) := by decide +kernel
theorem dX9_mixedCells_3 : decode cX9_mixedCells 3 = .ok (.istore 5, 2) := by decide +kernel
theorem dX9_mixedCells_5 : decode cX9_mixedCells 5 = .ok (.iload 5, 2) := by decide +kernel
theorem dX9_mixedCells_7 : decode cX9_mixedCells 7 = .ok (.aload_n 0, 1) := by decide +kernel
theorem dX9_mixedCells_8 : decode cX9_mixedCells 8 = .ok (.getfield 10, 3) := by decide +kernel
theorem dX9_mixedCells_11 : decode cX9_mixedCells 11 = .ok (.getfield 313, 3) := by decide +kernel
theorem dX9_mixedCells_14 : decode cX9_mixedCells 14 = .ok (.if_icmp .ge 81, 3) := by decide +kernel
theorem dX9_mixedCells_17 : decode cX9_mixedCells 17 = .ok (.iconst 0, 1) := by decide +kernel
theorem dX9_mixedCells_18 : decode cX9_mixedCells 18 = .ok (.istore 6, 2) := by decide +kernel
theorem dX9_mixedCells_20 : decode cX9_mixedCells 20 = .ok (.iload 6, 2) := by decide +kernel
theorem dX9_mixedCells_22 : decode cX9_mixedCells 22 = .ok (.aload_n 0, 1) := by decide +kernel
theorem dX9_mixedCells_23 : decode cX9_mixedCells 23 = .ok (.getfield 10, 3) := by decide +kernel
theorem dX9_mixedCells_26 : decode cX9_mixedCells 26 = .ok (.getfield 196, 3) := by decide +kernel
theorem dX9_mixedCells_29 : decode cX9_mixedCells 29 = .ok (.if_icmp .ge 60, 3) := by decide +kernel
theorem dX9_mixedCells_32 : decode cX9_mixedCells 32 = .ok (.lload_n 3, 1) := by decide +kernel
theorem dX9_mixedCells_33 : decode cX9_mixedCells 33 = .ok (.aload_n 0, 1) := by decide +kernel
theorem dX9_mixedCells_34 : decode cX9_mixedCells 34 = .ok (.getfield 10, 3) := by decide +kernel
theorem dX9_mixedCells_37 : decode cX9_mixedCells 37 = .ok (.iload 6, 2) := by decide +kernel
theorem dX9_mixedCells_39 : decode cX9_mixedCells 39 = .ok (.iload 5, 2) := by decide +kernel
theorem dX9_mixedCells_41 : decode cX9_mixedCells 41 = .ok (.iconst 0, 1) := by decide +kernel
theorem dX9_mixedCells_42 : decode cX9_mixedCells 42 = .ok (.invokevirtual 122, 3) := by decide +kernel
theorem dX9_mixedCells_45 : decode cX9_mixedCells 45 = .ok (.invokestatic 235, 3) := by decide +kernel
theorem dX9_mixedCells_48 : decode cX9_mixedCells 48 = .ok (.lstore_n 3, 1) := by decide +kernel
theorem dX9_mixedCells_49 : decode cX9_mixedCells 49 = .ok (.lload_n 3, 1) := by decide +kernel
theorem dX9_mixedCells_50 : decode cX9_mixedCells 50 = .ok (.aload_n 0, 1) := by decide +kernel
theorem dX9_mixedCells_51 : decode cX9_mixedCells 51 = .ok (.getfield 10, 3) := by decide +kernel
theorem dX9_mixedCells_54 : decode cX9_mixedCells 54 = .ok (.iload 6, 2) := by decide +kernel
theorem dX9_mixedCells_56 : decode cX9_mixedCells 56 = .ok (.iload 5, 2) := by decide +kernel
theorem dX9_mixedCells_58 : decode cX9_mixedCells 58 = .ok (.iconst 1, 1) := by decide +kernel
theorem dX9_mixedCells_59 : decode cX9_mixedCells 59 = .ok (.invokevirtual 122, 3) := by decide +kernel
theorem dX9_mixedCells_62 : decode cX9_mixedCells 62 = .ok (.invokestatic 235, 3) := by decide +kernel
theorem dX9_mixedCells_65 : decode cX9_mixedCells 65 = .ok (.lstore_n 3, 1) := by decide +kernel
theorem dX9_mixedCells_66 : decode cX9_mixedCells 66 = .ok (.lload_n 3, 1) := by decide +kernel
theorem dX9_mixedCells_67 : decode cX9_mixedCells 67 = .ok (.aload_n 0, 1) := by decide +kernel
theorem dX9_mixedCells_68 : decode cX9_mixedCells 68 = .ok (.getfield 10, 3) := by decide +kernel
theorem dX9_mixedCells_71 : decode cX9_mixedCells 71 = .ok (.iload 6, 2) := by decide +kernel
theorem dX9_mixedCells_73 : decode cX9_mixedCells 73 = .ok (.iload 5, 2) := by decide +kernel
theorem dX9_mixedCells_75 : decode cX9_mixedCells 75 = .ok (.iconst 2, 1) := by decide +kernel
theorem dX9_mixedCells_76 : decode cX9_mixedCells 76 = .ok (.invokevirtual 122, 3) := by decide +kernel
theorem dX9_mixedCells_79 : decode cX9_mixedCells 79 = .ok (.invokestatic 235, 3) := by decide +kernel
theorem dX9_mixedCells_82 : decode cX9_mixedCells 82 = .ok (.lstore_n 3, 1) := by decide +kernel
theorem dX9_mixedCells_83 : decode cX9_mixedCells 83 = .ok (.iinc 6 1, 3) := by decide +kernel
theorem dX9_mixedCells_86 : decode cX9_mixedCells 86 = .ok (.goto (-66), 3) := by decide +kernel
theorem dX9_mixedCells_89 : decode cX9_mixedCells 89 = .ok (.iinc 5 1, 3) := by decide +kernel
theorem dX9_mixedCells_92 : decode cX9_mixedCells 92 = .ok (.goto (-87), 3) := by decide +kernel
theorem dX9_mixedCells_95 : decode cX9_mixedCells 95 = .ok (.lload_n 3, 1) := by decide +kernel
theorem dX9_mixedCells_96 : decode cX9_mixedCells 96 = .ok (.lreturn, 1) := by decide +kernel
theorem dX9_mixedRows_0 : decode cX9_mixedRows 0 = .ok (.lload_n 1, 1) := by decide +kernel
theorem dX9_mixedRows_1 : decode cX9_mixedRows 1 = .ok (.lstore_n 3, 1) := by decide +kernel
theorem dX9_mixedRows_2 : decode cX9_mixedRows 2 = .ok (.iconst 0, 1) := by decide +kernel
theorem dX9_mixedRows_3 : decode cX9_mixedRows 3 = .ok (.istore 5, 2) := by decide +kernel
theorem dX9_mixedRows_5 : decode cX9_mixedRows 5 = .ok (.iload 5, 2) := by decide +kernel
theorem dX9_mixedRows_7 : decode cX9_mixedRows 7 = .ok (.aload_n 0, 1) := by decide +kernel
theorem dX9_mixedRows_8 : decode cX9_mixedRows 8 = .ok (.getfield 10, 3) := by decide +kernel
theorem dX9_mixedRows_11 : decode cX9_mixedRows 11 = .ok (.getfield 316, 3) := by decide +kernel
theorem dX9_mixedRows_14 : decode cX9_mixedRows 14 = .ok (.if_icmp .ge 57, 3) := by decide +kernel
theorem dX9_mixedRows_17 : decode cX9_mixedRows 17 = .ok (.iconst 0, 1) := by decide +kernel
theorem dX9_mixedRows_18 : decode cX9_mixedRows 18 = .ok (.istore 6, 2) := by decide +kernel
theorem dX9_mixedRows_20 : decode cX9_mixedRows 20 = .ok (.iload 6, 2) := by decide +kernel
theorem dX9_mixedRows_22 : decode cX9_mixedRows 22 = .ok (.iconst 5, 1) := by decide +kernel
theorem dX9_mixedRows_23 : decode cX9_mixedRows 23 = .ok (.if_icmp .ge 25, 3) := by decide +kernel
theorem dX9_mixedRows_26 : decode cX9_mixedRows 26 = .ok (.lload_n 3, 1) := by decide +kernel
theorem dX9_mixedRows_27 : decode cX9_mixedRows 27 = .ok (.aload_n 0, 1) := by decide +kernel
theorem dX9_mixedRows_28 : decode cX9_mixedRows 28 = .ok (.getfield 10, 3) := by decide +kernel
theorem dX9_mixedRows_31 : decode cX9_mixedRows 31 = .ok (.iload 5, 2) := by decide +kernel
theorem dX9_mixedRows_33 : decode cX9_mixedRows 33 = .ok (.iload 6, 2) := by decide +kernel
theorem dX9_mixedRows_35 : decode cX9_mixedRows 35 = .ok (.invokevirtual 128, 3) := by decide +kernel
theorem dX9_mixedRows_38 : decode cX9_mixedRows 38 = .ok (.invokestatic 235, 3) := by decide +kernel
theorem dX9_mixedRows_41 : decode cX9_mixedRows 41 = .ok (.lstore_n 3, 1) := by decide +kernel
theorem dX9_mixedRows_42 : decode cX9_mixedRows 42 = .ok (.iinc 6 1, 3) := by decide +kernel
theorem dX9_mixedRows_45 : decode cX9_mixedRows 45 = .ok (.goto (-25), 3) := by decide +kernel
theorem dX9_mixedRows_48 : decode cX9_mixedRows 48 = .ok (.lload_n 3, 1) := by decide +kernel
theorem dX9_mixedRows_49 : decode cX9_mixedRows 49 = .ok (.aload_n 0, 1) := by decide +kernel
theorem dX9_mixedRows_50 : decode cX9_mixedRows 50 = .ok (.getfield 10, 3) := by decide +kernel
theorem dX9_mixedRows_53 : decode cX9_mixedRows 53 = .ok (.iload 5, 2) := by decide +kernel
theorem dX9_mixedRows_55 : decode cX9_mixedRows 55 = .ok (.invokevirtual 164, 3) := by decide +kernel
theorem dX9_mixedRows_58 : decode cX9_mixedRows 58 = .ok (.invokestatic 160, 3) := by decide +kernel
theorem dX9_mixedRows_61 : decode cX9_mixedRows 61 = .ok (.invokestatic 235, 3) := by decide +kernel
theorem dX9_mixedRows_64 : decode cX9_mixedRows 64 = .ok (.lstore_n 3, 1) := by decide +kernel
theorem dX9_mixedRows_65 : decode cX9_mixedRows 65 = .ok (.iinc 5 1, 3) := by decide +kernel
theorem dX9_mixedRows_68 : decode cX9_mixedRows 68 = .ok (.goto (-63), 3) := by decide +kernel
theorem dX9_mixedRows_71 : decode cX9_mixedRows 71 = .ok (.lload_n 3, 1) := by decide +kernel
theorem dX9_mixedRows_72 : decode cX9_mixedRows 72 = .ok (.lreturn, 1) := by decide +kernel
theorem dX9_mixedLots_0 : decode cX9_mixedLots 0 = .ok (.lload_n 1, 1) := by decide +kernel
theorem dX9_mixedLots_1 : decode cX9_mixedLots 1 = .ok (.lstore_n 3, 1) := by decide +kernel
theorem dX9_mixedLots_2 : decode cX9_mixedLots 2 = .ok (.iconst 0, 1) := by decide +kernel
theorem dX9_mixedLots_3 : decode cX9_mixedLots 3 = .ok (.istore 5, 2) := by decide +kernel
theorem dX9_mixedLots_5 : decode cX9_mixedLots 5 = .ok (.iload 5, 2) := by decide +kernel
theorem dX9_mixedLots_7 : decode cX9_mixedLots 7 = .ok (.aload_n 0, 1) := by decide +kernel
theorem dX9_mixedLots_8 : decode cX9_mixedLots 8 = .ok (.getfield 10, 3) := by decide +kernel
theorem dX9_mixedLots_11 : decode cX9_mixedLots 11 = .ok (.getfield 65, 3) := by decide +kernel
theorem dX9_mixedLots_14 : decode cX9_mixedLots 14 = .ok (.getfield 319, 3) := by decide +kernel
theorem dX9_mixedLots_17 : decode cX9_mixedLots 17 = .ok (.if_icmp .ge 41, 3) := by decide +kernel
theorem dX9_mixedLots_20 : decode cX9_mixedLots 20 = .ok (.iconst 0, 1) := by decide +kernel
theorem dX9_mixedLots_21 : decode cX9_mixedLots 21 = .ok (.istore 6, 2) := by decide +kernel
theorem dX9_mixedLots_23 : decode cX9_mixedLots 23 = .ok (.iload 6, 2) := by decide +kernel
theorem dX9_mixedLots_25 : decode cX9_mixedLots 25 = .ok (.bipush 6, 2) := by decide +kernel
theorem dX9_mixedLots_27 : decode cX9_mixedLots 27 = .ok (.if_icmp .ge 25, 3) := by decide +kernel
theorem dX9_mixedLots_30 : decode cX9_mixedLots 30 = .ok (.lload_n 3, 1) := by decide +kernel
theorem dX9_mixedLots_31 : decode cX9_mixedLots 31 = .ok (.aload_n 0, 1) := by decide +kernel
theorem dX9_mixedLots_32 : decode cX9_mixedLots 32 = .ok (.getfield 10, 3) := by decide +kernel
theorem dX9_mixedLots_35 : decode cX9_mixedLots 35 = .ok (.iload 5, 2) := by decide +kernel
theorem dX9_mixedLots_37 : decode cX9_mixedLots 37 = .ok (.iload 6, 2) := by decide +kernel
theorem dX9_mixedLots_39 : decode cX9_mixedLots 39 = .ok (.invokevirtual 134, 3) := by decide +kernel
theorem dX9_mixedLots_42 : decode cX9_mixedLots 42 = .ok (.invokestatic 235, 3) := by decide +kernel
theorem dX9_mixedLots_45 : decode cX9_mixedLots 45 = .ok (.lstore_n 3, 1) := by decide +kernel
theorem dX9_mixedLots_46 : decode cX9_mixedLots 46 = .ok (.iinc 6 1, 3) := by decide +kernel
theorem dX9_mixedLots_49 : decode cX9_mixedLots 49 = .ok (.goto (-26), 3) := by decide +kernel
theorem dX9_mixedLots_52 : decode cX9_mixedLots 52 = .ok (.iinc 5 1, 3) := by decide +kernel
theorem dX9_mixedLots_55 : decode cX9_mixedLots 55 = .ok (.goto (-50), 3) := by decide +kernel
theorem dX9_mixedLots_58 : decode cX9_mixedLots 58 = .ok (.lload_n 3, 1) := by decide +kernel
theorem dX9_mixedLots_59 : decode cX9_mixedLots 59 = .ok (.lreturn, 1) := by decide +kernel
theorem dX9_mixedColors_0 : decode cX9_mixedColors 0 = .ok (.lload_n 1, 1) := by decide +kernel
theorem dX9_mixedColors_1 : decode cX9_mixedColors 1 = .ok (.lstore_n 3, 1) := by decide +kernel
theorem dX9_mixedColors_2 : decode cX9_mixedColors 2 = .ok (.iconst 0, 1) := by decide +kernel
theorem dX9_mixedColors_3 : decode cX9_mixedColors 3 = .ok (.istore 5, 2) := by decide +kernel
theorem dX9_mixedColors_5 : decode cX9_mixedColors 5 = .ok (.iload 5, 2) := by decide +kernel
theorem dX9_mixedColors_7 : decode cX9_mixedColors 7 = .ok (.bipush 8, 2) := by decide +kernel
theorem dX9_mixedColors_9 : decode cX9_mixedColors 9 = .ok (.if_icmp .ge 58, 3) := by decide +kernel
theorem dX9_mixedColors_12 : decode cX9_mixedColors 12 = .ok (.iconst 0, 1) := by decide +kernel
theorem dX9_mixedColors_13 : decode cX9_mixedColors 13 = .ok (.istore 6, 2) := by decide +kernel
theorem dX9_mixedColors_15 : decode cX9_mixedColors 15 = .ok (.iload 6, 2) := by decide +kernel
theorem dX9_mixedColors_17 : decode cX9_mixedColors 17 = .ok (.bipush 6, 2) := by decide +kernel
theorem dX9_mixedColors_19 : decode cX9_mixedColors 19 = .ok (.if_icmp .ge 25, 3) := by decide +kernel
theorem dX9_mixedColors_22 : decode cX9_mixedColors 22 = .ok (.lload_n 3, 1) := by decide +kernel
theorem dX9_mixedColors_23 : decode cX9_mixedColors 23 = .ok (.aload_n 0, 1) := by decide +kernel
theorem dX9_mixedColors_24 : decode cX9_mixedColors 24 = .ok (.getfield 10, 3) := by decide +kernel
theorem dX9_mixedColors_27 : decode cX9_mixedColors 27 = .ok (.iload 5, 2) := by decide +kernel
theorem dX9_mixedColors_29 : decode cX9_mixedColors 29 = .ok (.iload 6, 2) := by decide +kernel
theorem dX9_mixedColors_31 : decode cX9_mixedColors 31 = .ok (.invokevirtual 140, 3) := by decide +kernel
theorem dX9_mixedColors_34 : decode cX9_mixedColors 34 = .ok (.invokestatic 235, 3) := by decide +kernel
theorem dX9_mixedColors_37 : decode cX9_mixedColors 37 = .ok (.lstore_n 3, 1) := by decide +kernel
theorem dX9_mixedColors_38 : decode cX9_mixedColors 38 = .ok (.iinc 6 1, 3) := by decide +kernel
theorem dX9_mixedColors_41 : decode cX9_mixedColors 41 = .ok (.goto (-26), 3) := by decide +kernel
theorem dX9_mixedColors_44 : decode cX9_mixedColors 44 = .ok (.lload_n 3, 1) := by decide +kernel
theorem dX9_mixedColors_45 : decode cX9_mixedColors 45 = .ok (.aload_n 0, 1) := by decide +kernel
theorem dX9_mixedColors_46 : decode cX9_mixedColors 46 = .ok (.getfield 10, 3) := by decide +kernel
theorem dX9_mixedColors_49 : decode cX9_mixedColors 49 = .ok (.iload 5, 2) := by decide +kernel
theorem dX9_mixedColors_51 : decode cX9_mixedColors 51 = .ok (.invokevirtual 156, 3) := by decide +kernel
theorem dX9_mixedColors_54 : decode cX9_mixedColors 54 = .ok (.invokestatic 160, 3) := by decide +kernel
theorem dX9_mixedColors_57 : decode cX9_mixedColors 57 = .ok (.invokestatic 235, 3) := by decide +kernel
theorem dX9_mixedColors_60 : decode cX9_mixedColors 60 = .ok (.lstore_n 3, 1) := by decide +kernel
theorem dX9_mixedColors_61 : decode cX9_mixedColors 61 = .ok (.iinc 5 1, 3) := by decide +kernel
theorem dX9_mixedColors_64 : decode cX9_mixedColors 64 = .ok (.goto (-59), 3) := by decide +kernel
theorem dX9_mixedColors_67 : decode cX9_mixedColors 67 = .ok (.lload_n 3, 1) := by decide +kernel
theorem dX9_mixedColors_68 : decode cX9_mixedColors 68 = .ok (.lreturn, 1) := by decide +kernel
theorem dX9_mixedSlits_0 : decode cX9_mixedSlits 0 = .ok (.lload_n 1, 1) := by decide +kernel
theorem dX9_mixedSlits_1 : decode cX9_mixedSlits 1 = .ok (.lstore_n 3, 1) := by decide +kernel
theorem dX9_mixedSlits_2 : decode cX9_mixedSlits 2 = .ok (.iconst 0, 1) := by decide +kernel
theorem dX9_mixedSlits_3 : decode cX9_mixedSlits 3 = .ok (.istore 5, 2) := by decide +kernel
theorem dX9_mixedSlits_5 : decode cX9_mixedSlits 5 = .ok (.iload 5, 2) := by decide +kernel
theorem dX9_mixedSlits_7 : decode cX9_mixedSlits 7 = .ok (.aload_n 0, 1) := by decide +kernel
theorem dX9_mixedSlits_8 : decode cX9_mixedSlits 8 = .ok (.getfield 10, 3) := by decide +kernel
theorem dX9_mixedSlits_11 : decode cX9_mixedSlits 11 = .ok (.getfield 196, 3) := by decide +kernel
theorem dX9_mixedSlits_14 : decode cX9_mixedSlits 14 = .ok (.if_icmp .ge 84, 3) := by decide +kernel
theorem dX9_mixedSlits_17 : decode cX9_mixedSlits 17 = .ok (.iconst 0, 1) := by decide +kernel
theorem dX9_mixedSlits_18 : decode cX9_mixedSlits 18 = .ok (.istore 6, 2) := by decide +kernel
theorem dX9_mixedSlits_20 : decode cX9_mixedSlits 20 = .ok (.iload 6, 2) := by decide +kernel
theorem dX9_mixedSlits_22 : decode cX9_mixedSlits 22 = .ok (.aload_n 0, 1) := by decide +kernel
theorem dX9_mixedSlits_23 : decode cX9_mixedSlits 23 = .ok (.getfield 10, 3) := by decide +kernel
theorem dX9_mixedSlits_26 : decode cX9_mixedSlits 26 = .ok (.getfield 316, 3) := by decide +kernel
theorem dX9_mixedSlits_29 : decode cX9_mixedSlits 29 = .ok (.if_icmp .ge 63, 3) := by decide +kernel
theorem dX9_mixedSlits_32 : decode cX9_mixedSlits 32 = .ok (.aload_n 0, 1) := by decide +kernel
theorem dX9_mixedSlits_33 : decode cX9_mixedSlits 33 = .ok (.getfield 10, 3) := by decide +kernel
theorem dX9_mixedSlits_36 : decode cX9_mixedSlits 36 = .ok (.iload 5, 2) := by decide +kernel
theorem dX9_mixedSlits_38 : decode cX9_mixedSlits 38 = .ok (.iload 6, 2) := by decide +kernel
theorem dX9_mixedSlits_40 : decode cX9_mixedSlits 40 = .ok (.invokevirtual 320, 3) := by decide +kernel
theorem dX9_mixedSlits_43 : decode cX9_mixedSlits 43 = .ok (.aload_n 0, 1) := by decide +kernel
theorem dX9_mixedSlits_44 : decode cX9_mixedSlits 44 = .ok (.getfield 10, 3) := by decide +kernel
theorem dX9_mixedSlits_47 : decode cX9_mixedSlits 47 = .ok (.getfield 323, 3) := by decide +kernel
theorem dX9_mixedSlits_50 : decode cX9_mixedSlits 50 = .ok (.if_icmp .le 36, 3) := by decide +kernel
theorem dX9_mixedSlits_53 : decode cX9_mixedSlits 53 = .ok (.iconst 0, 1) := by decide +kernel
theorem dX9_mixedSlits_54 : decode cX9_mixedSlits 54 = .ok (.istore 7, 2) := by decide +kernel
theorem dX9_mixedSlits_56 : decode cX9_mixedSlits 56 = .ok (.iload 7, 2) := by decide +kernel
theorem dX9_mixedSlits_58 : decode cX9_mixedSlits 58 = .ok (.iconst 4, 1) := by decide +kernel
theorem dX9_mixedSlits_59 : decode cX9_mixedSlits 59 = .ok (.if_icmp .ge 27, 3) := by decide +kernel
theorem dX9_mixedSlits_62 : decode cX9_mixedSlits 62 = .ok (.lload_n 3, 1) := by decide +kernel
theorem dX9_mixedSlits_63 : decode cX9_mixedSlits 63 = .ok (.aload_n 0, 1) := by decide +kernel
theorem dX9_mixedSlits_64 : decode cX9_mixedSlits 64 = .ok (.getfield 10, 3) := by decide +kernel
theorem dX9_mixedSlits_67 : decode cX9_mixedSlits 67 = .ok (.iload 5, 2) := by decide +kernel
theorem dX9_mixedSlits_69 : decode cX9_mixedSlits 69 = .ok (.iload 6, 2) := by decide +kernel
theorem dX9_mixedSlits_71 : decode cX9_mixedSlits 71 = .ok (.iload 7, 2) := by decide +kernel
theorem dX9_mixedSlits_73 : decode cX9_mixedSlits 73 = .ok (.invokevirtual 146, 3) := by decide +kernel
theorem dX9_mixedSlits_76 : decode cX9_mixedSlits 76 = .ok (.invokestatic 235, 3) := by decide +kernel
theorem dX9_mixedSlits_79 : decode cX9_mixedSlits 79 = .ok (.lstore_n 3, 1) := by decide +kernel
theorem dX9_mixedSlits_80 : decode cX9_mixedSlits 80 = .ok (.iinc 7 1, 3) := by decide +kernel
theorem dX9_mixedSlits_83 : decode cX9_mixedSlits 83 = .ok (.goto (-27), 3) := by decide +kernel
theorem dX9_mixedSlits_86 : decode cX9_mixedSlits 86 = .ok (.iinc 6 1, 3) := by decide +kernel
theorem dX9_mixedSlits_89 : decode cX9_mixedSlits 89 = .ok (.goto (-69), 3) := by decide +kernel
theorem dX9_mixedSlits_92 : decode cX9_mixedSlits 92 = .ok (.iinc 5 1, 3) := by decide +kernel
theorem dX9_mixedSlits_95 : decode cX9_mixedSlits 95 = .ok (.goto (-90), 3) := by decide +kernel
theorem dX9_mixedSlits_98 : decode cX9_mixedSlits 98 = .ok (.lload_n 3, 1) := by decide +kernel
theorem dX9_mixedSlits_99 : decode cX9_mixedSlits 99 = .ok (.lreturn, 1) := by decide +kernel
theorem dJ9_max_7cf53_0 : decode cJ9_max_7cf53 0 = .ok (.iload_n 0, 1) := by decide +kernel
theorem dJ9_max_7cf53_1 : decode cJ9_max_7cf53 1 = .ok (.iload_n 1, 1) := by decide +kernel
theorem dJ9_max_7cf53_2 : decode cJ9_max_7cf53 2 = .ok (.if_icmp .lt 7, 3) := by decide +kernel
theorem dJ9_max_7cf53_5 : decode cJ9_max_7cf53 5 = .ok (.iload_n 0, 1) := by decide +kernel
theorem dJ9_max_7cf53_6 : decode cJ9_max_7cf53 6 = .ok (.goto 4, 3) := by decide +kernel
theorem dJ9_max_7cf53_9 : decode cJ9_max_7cf53 9 = .ok (.iload_n 1, 1) := by decide +kernel
theorem dJ9_max_7cf53_10 : decode cJ9_max_7cf53 10 = .ok (.ireturn, 1) := by decide +kernel
theorem dJ9_min_7cf53_0 : decode cJ9_min_7cf53 0 = .ok (.iload_n 0, 1) := by decide +kernel
theorem dJ9_min_7cf53_1 : decode cJ9_min_7cf53 1 = .ok (.iload_n 1, 1) := by decide +kernel
theorem dJ9_min_7cf53_2 : decode cJ9_min_7cf53 2 = .ok (.if_icmp .gt 7, 3) := by decide +kernel
theorem dJ9_min_7cf53_5 : decode cJ9_min_7cf53 5 = .ok (.iload_n 0, 1) := by decide +kernel
theorem dJ9_min_7cf53_6 : decode cJ9_min_7cf53 6 = .ok (.goto 4, 3) := by decide +kernel
theorem dJ9_min_7cf53_9 : decode cJ9_min_7cf53 9 = .ok (.iload_n 1, 1) := by decide +kernel
theorem dJ9_min_7cf53_10 : decode cJ9_min_7cf53 10 = .ok (.ireturn, 1) := by decide +kernel
theorem dL_cell_0 : decode cL_cell 0 = .ok (.iload_n 1, 1) := by decide +kernel
theorem dL_cell_1 : decode cL_cell 1 = .ok (.aload_n 0, 1) := by decide +kernel
theorem dL_cell_2 : decode cL_cell 2 = .ok (.arraylength, 1) := by decide +kernel
theorem dL_cell_3 : decode cL_cell 3 = .ok (.if_icmp .ge 9, 3) := by decide +kernel
theorem dL_cell_6 : decode cL_cell 6 = .ok (.aload_n 0, 1) := by decide +kernel
theorem dL_cell_7 : decode cL_cell 7 = .ok (.iload_n 1, 1) := by decide +kernel
theorem dL_cell_8 : decode cL_cell 8 = .ok (.iaload, 1) := by decide +kernel
theorem dL_cell_9 : decode cL_cell 9 = .ok (.goto 9, 3) := by decide +kernel
theorem dL_cell_12 : decode cL_cell 12 = .ok (.ldc 7, 2) := by decide +kernel
theorem dL_cell_14 : decode cL_cell 14 = .ok (.iload_n 1, 1) := by decide +kernel
theorem dL_cell_15 : decode cL_cell 15 = .ok (.iconst 3, 1) := by decide +kernel
theorem dL_cell_16 : decode cL_cell 16 = .ok (.iadd, 1) := by decide +kernel
theorem dL_cell_17 : decode cL_cell 17 = .ok (.imul, 1) := by decide +kernel
theorem dL_cell_18 : decode cL_cell 18 = .ok (.ldc 8, 2) := by decide +kernel
theorem dL_cell_20 : decode cL_cell 20 = .ok (.iand, 1) := by decide +kernel
theorem dL_cell_21 : decode cL_cell 21 = .ok (.ireturn, 1) := by decide +kernel
theorem dL_begins_0 : decode cL_begins 0 = .ok (.aload_n 0, 1) := by decide +kernel
theorem dL_begins_1 : decode cL_begins 1 = .ok (.iload_n 1, 1) := by decide +kernel
theorem dL_begins_2 : decode cL_begins 2 = .ok (.iload_n 2, 1) := by decide +kernel
theorem dL_begins_3 : decode cL_begins 3 = .ok (.invokevirtual 9, 3) := by decide +kernel
theorem dL_begins_6 : decode cL_begins 6 = .ok (.ireturn, 1) := by decide +kernel
theorem dL_begins_7 : decode cL_begins 7 = .ok (.astore_n 3, 1) := by decide +kernel
theorem dL_begins_8 : decode cL_begins 8 = .ok (.ldc 17, 2) := by decide +kernel
theorem dL_begins_10 : decode cL_begins 10 = .ok (.ireturn, 1) := by decide +kernel
theorem dL_fills_0 : decode cL_fills 0 = .ok (.aload_n 0, 1) := by decide +kernel
theorem dL_fills_1 : decode cL_fills 1 = .ok (.iload_n 1, 1) := by decide +kernel
theorem dL_fills_2 : decode cL_fills 2 = .ok (.iload_n 2, 1) := by decide +kernel
theorem dL_fills_3 : decode cL_fills 3 = .ok (.iload_n 3, 1) := by decide +kernel
theorem dL_fills_4 : decode cL_fills 4 = .ok (.iload 4, 2) := by decide +kernel
theorem dL_fills_6 : decode cL_fills 6 = .ok (.iload 5, 2) := by decide +kernel
theorem dL_fills_8 : decode cL_fills 8 = .ok (.invokevirtual 18, 3) := by decide +kernel
theorem dL_fills_11 : decode cL_fills 11 = .ok (.ireturn, 1) := by decide +kernel
theorem dL_fills_12 : decode cL_fills 12 = .ok (.astore 6, 2) := by decide +kernel
theorem dL_fills_14 : decode cL_fills 14 = .ok (.ldc 17, 2) := by decide +kernel
theorem dL_fills_16 : decode cL_fills 16 = .ok (.ireturn, 1) := by decide +kernel
theorem dL_fills_17 : decode cL_fills 17 = .ok (.astore 6, 2) := by decide +kernel
theorem dL_fills_19 : decode cL_fills 19 = .ok (.ldc 24, 2) := by decide +kernel
theorem dL_fills_21 : decode cL_fills 21 = .ok (.ireturn, 1) := by decide +kernel
theorem dL_lots_0 : decode cL_lots 0 = .ok (.aload_n 0, 1) := by decide +kernel
theorem dL_lots_1 : decode cL_lots 1 = .ok (.iload_n 1, 1) := by decide +kernel
theorem dL_lots_2 : decode cL_lots 2 = .ok (.iload_n 2, 1) := by decide +kernel
theorem dL_lots_3 : decode cL_lots 3 = .ok (.iload_n 3, 1) := by decide +kernel
theorem dL_lots_4 : decode cL_lots 4 = .ok (.invokevirtual 25, 3) := by decide +kernel
theorem dL_lots_7 : decode cL_lots 7 = .ok (.ireturn, 1) := by decide +kernel
theorem dL_lots_8 : decode cL_lots 8 = .ok (.astore 4, 2) := by decide +kernel
theorem dL_lots_10 : decode cL_lots 10 = .ok (.ldc 17, 2) := by decide +kernel
theorem dL_lots_12 : decode cL_lots 12 = .ok (.ireturn, 1) := by decide +kernel
theorem dL_lots_13 : decode cL_lots 13 = .ok (.astore 4, 2) := by decide +kernel
theorem dL_lots_15 : decode cL_lots 15 = .ok (.ldc 24, 2) := by decide +kernel
theorem dL_lots_17 : decode cL_lots 17 = .ok (.ireturn, 1) := by decide +kernel
theorem dL_limits_0 : decode cL_limits 0 = .ok (.aload_n 0, 1) := by decide +kernel
theorem dL_limits_1 : decode cL_limits 1 = .ok (.iload_n 1, 1) := by decide +kernel
theorem dL_limits_2 : decode cL_limits 2 = .ok (.invokevirtual 31, 3) := by decide +kernel
theorem dL_limits_5 : decode cL_limits 5 = .ok (.ireturn, 1) := by decide +kernel
theorem dL_limits_6 : decode cL_limits 6 = .ok (.astore_n 2, 1) := by decide +kernel
theorem dL_limits_7 : decode cL_limits 7 = .ok (.ldc 17, 2) := by decide +kernel
theorem dL_limits_9 : decode cL_limits 9 = .ok (.ireturn, 1) := by decide +kernel
theorem dL_plants_0 : decode cL_plants 0 = .ok (.aload_n 0, 1) := by decide +kernel
theorem dL_plants_1 : decode cL_plants 1 = .ok (.iload_n 1, 1) := by decide +kernel
theorem dL_plants_2 : decode cL_plants 2 = .ok (.iload_n 2, 1) := by decide +kernel
theorem dL_plants_3 : decode cL_plants 3 = .ok (.invokevirtual 35, 3) := by decide +kernel
theorem dL_plants_6 : decode cL_plants 6 = .ok (.ireturn, 1) := by decide +kernel
theorem dL_plants_7 : decode cL_plants 7 = .ok (.astore_n 3, 1) := by decide +kernel
theorem dL_plants_8 : decode cL_plants 8 = .ok (.ldc 17, 2) := by decide +kernel
theorem dL_plants_10 : decode cL_plants 10 = .ok (.ireturn, 1) := by decide +kernel
theorem dL_plants_11 : decode cL_plants 11 = .ok (.astore_n 3, 1) := by decide +kernel
theorem dL_plants_12 : decode cL_plants 12 = .ok (.ldc 24, 2) := by decide +kernel
theorem dL_plants_14 : decode cL_plants 14 = .ok (.ireturn, 1) := by decide +kernel
theorem dL_weaves_0 : decode cL_weaves 0 = .ok (.aload_n 0, 1) := by decide +kernel
theorem dL_weaves_1 : decode cL_weaves 1 = .ok (.iload_n 1, 1) := by decide +kernel
theorem dL_weaves_2 : decode cL_weaves 2 = .ok (.invokevirtual 38, 3) := by decide +kernel
theorem dL_weaves_5 : decode cL_weaves 5 = .ok (.ireturn, 1) := by decide +kernel
theorem dL_weaves_6 : decode cL_weaves 6 = .ok (.astore_n 2, 1) := by decide +kernel
theorem dL_weaves_7 : decode cL_weaves 7 = .ok (.ldc 17, 2) := by decide +kernel
theorem dL_weaves_9 : decode cL_weaves 9 = .ok (.ireturn, 1) := by decide +kernel
theorem dL_unweaves_0 : decode cL_unweaves 0 = .ok (.aload_n 0, 1) := by decide +kernel
theorem dL_unweaves_1 : decode cL_unweaves 1 = .ok (.iload_n 1, 1) := by decide +kernel
theorem dL_unweaves_2 : decode cL_unweaves 2 = .ok (.invokevirtual 41, 3) := by decide +kernel
theorem dL_unweaves_5 : decode cL_unweaves 5 = .ok (.ireturn, 1) := by decide +kernel
theorem dL_unweaves_6 : decode cL_unweaves 6 = .ok (.astore_n 2, 1) := by decide +kernel
theorem dL_unweaves_7 : decode cL_unweaves 7 = .ok (.ldc 17, 2) := by decide +kernel
theorem dL_unweaves_9 : decode cL_unweaves 9 = .ok (.ireturn, 1) := by decide +kernel
theorem dL_unweaves_10 : decode cL_unweaves 10 = .ok (.astore_n 2, 1) := by decide +kernel
theorem dL_unweaves_11 : decode cL_unweaves 11 = .ok (.ldc 24, 2) := by decide +kernel
theorem dL_unweaves_13 : decode cL_unweaves 13 = .ok (.ireturn, 1) := by decide +kernel
theorem dL_sews_0 : decode cL_sews 0 = .ok (.aload_n 0, 1) := by decide +kernel
theorem dL_sews_1 : decode cL_sews 1 = .ok (.iload_n 1, 1) := by decide +kernel
theorem dL_sews_2 : decode cL_sews 2 = .ok (.invokevirtual 44, 3) := by decide +kernel
theorem dL_sews_5 : decode cL_sews 5 = .ok (.ireturn, 1) := by decide +kernel
theorem dL_sews_6 : decode cL_sews 6 = .ok (.astore_n 2, 1) := by decide +kernel
theorem dL_sews_7 : decode cL_sews 7 = .ok (.ldc 17, 2) := by decide +kernel
theorem dL_sews_9 : decode cL_sews 9 = .ok (.ireturn, 1) := by decide +kernel
theorem dL_sews_10 : decode cL_sews 10 = .ok (.astore_n 2, 1) := by decide +kernel
theorem dL_sews_11 : decode cL_sews 11 = .ok (.ldc 24, 2) := by decide +kernel
theorem dL_sews_13 : decode cL_sews 13 = .ok (.ireturn, 1) := by decide +kernel
theorem dL_cells_0 : decode cL_cells 0 = .ok (.aload_n 0, 1) := by decide +kernel
theorem dL_cells_1 : decode cL_cells 1 = .ok (.iload_n 1, 1) := by decide +kernel
theorem dL_cells_2 : decode cL_cells 2 = .ok (.iload_n 2, 1) := by decide +kernel
theorem dL_cells_3 : decode cL_cells 3 = .ok (.iload_n 3, 1) := by decide +kernel
theorem dL_cells_4 : decode cL_cells 4 = .ok (.invokevirtual 47, 3) := by decide +kernel
theorem dL_cells_7 : decode cL_cells 7 = .ok (.ireturn, 1) := by decide +kernel
theorem dL_cells_8 : decode cL_cells 8 = .ok (.astore 4, 2) := by decide +kernel
theorem dL_cells_10 : decode cL_cells 10 = .ok (.ldc 17, 2) := by decide +kernel
theorem dL_cells_12 : decode cL_cells 12 = .ok (.ireturn, 1) := by decide +kernel
theorem dL_cells_13 : decode cL_cells 13 = .ok (.astore 4, 2) := by decide +kernel
theorem dL_cells_15 : decode cL_cells 15 = .ok (.ldc 24, 2) := by decide +kernel
theorem dL_cells_17 : decode cL_cells 17 = .ok (.ireturn, 1) := by decide +kernel
theorem dL_rows_0 : decode cL_rows 0 = .ok (.aload_n 0, 1) := by decide +kernel
theorem dL_rows_1 : decode cL_rows 1 = .ok (.iload_n 1, 1) := by decide +kernel
theorem dL_rows_2 : decode cL_rows 2 = .ok (.iload_n 2, 1) := by decide +kernel
theorem dL_rows_3 : decode cL_rows 3 = .ok (.invokevirtual 50, 3) := by decide +kernel
theorem dL_rows_6 : decode cL_rows 6 = .ok (.ireturn, 1) := by decide +kernel
theorem dL_rows_7 : decode cL_rows 7 = .ok (.astore_n 3, 1) := by decide +kernel
theorem dL_rows_8 : decode cL_rows 8 = .ok (.ldc 17, 2) := by decide +kernel
theorem dL_rows_10 : decode cL_rows 10 = .ok (.ireturn, 1) := by decide +kernel
theorem dL_rows_11 : decode cL_rows 11 = .ok (.astore_n 3, 1) := by decide +kernel
theorem dL_rows_12 : decode cL_rows 12 = .ok (.ldc 24, 2) := by decide +kernel
theorem dL_rows_14 : decode cL_rows 14 = .ok (.ireturn, 1) := by decide +kernel
theorem dL_lotOf_0 : decode cL_lotOf 0 = .ok (.aload_n 0, 1) := by decide +kernel
theorem dL_lotOf_1 : decode cL_lotOf 1 = .ok (.iload_n 1, 1) := by decide +kernel
theorem dL_lotOf_2 : decode cL_lotOf 2 = .ok (.iload_n 2, 1) := by decide +kernel
theorem dL_lotOf_3 : decode cL_lotOf 3 = .ok (.invokevirtual 53, 3) := by decide +kernel
theorem dL_lotOf_6 : decode cL_lotOf 6 = .ok (.ireturn, 1) := by decide +kernel
theorem dL_lotOf_7 : decode cL_lotOf 7 = .ok (.astore_n 3, 1) := by decide +kernel
theorem dL_lotOf_8 : decode cL_lotOf 8 = .ok (.ldc 17, 2) := by decide +kernel
theorem dL_lotOf_10 : decode cL_lotOf 10 = .ok (.ireturn, 1) := by decide +kernel
theorem dL_lotOf_11 : decode cL_lotOf 11 = .ok (.astore_n 3, 1) := by decide +kernel
theorem dL_lotOf_12 : decode cL_lotOf 12 = .ok (.ldc 24, 2) := by decide +kernel
theorem dL_lotOf_14 : decode cL_lotOf 14 = .ok (.ireturn, 1) := by decide +kernel
theorem dL_colorOf_0 : decode cL_colorOf 0 = .ok (.aload_n 0, 1) := by decide +kernel
theorem dL_colorOf_1 : decode cL_colorOf 1 = .ok (.iload_n 1, 1) := by decide +kernel
theorem dL_colorOf_2 : decode cL_colorOf 2 = .ok (.iload_n 2, 1) := by decide +kernel
theorem dL_colorOf_3 : decode cL_colorOf 3 = .ok (.invokevirtual 56, 3) := by decide +kernel
theorem dL_colorOf_6 : decode cL_colorOf 6 = .ok (.ireturn, 1) := by decide +kernel
theorem dL_colorOf_7 : decode cL_colorOf 7 = .ok (.astore_n 3, 1) := by decide +kernel
theorem dL_colorOf_8 : decode cL_colorOf 8 = .ok (.ldc 17, 2) := by decide +kernel
theorem dL_colorOf_10 : decode cL_colorOf 10 = .ok (.ireturn, 1) := by decide +kernel
theorem dL_slitOf_0 : decode cL_slitOf 0 = .ok (.aload_n 0, 1) := by decide +kernel
theorem dL_slitOf_1 : decode cL_slitOf 1 = .ok (.iload_n 1, 1) := by decide +kernel
theorem dL_slitOf_2 : decode cL_slitOf 2 = .ok (.iload_n 2, 1) := by decide +kernel
theorem dL_slitOf_3 : decode cL_slitOf 3 = .ok (.invokevirtual 59, 3) := by decide +kernel
theorem dL_slitOf_6 : decode cL_slitOf 6 = .ok (.ireturn, 1) := by decide +kernel
theorem dL_slitOf_7 : decode cL_slitOf 7 = .ok (.astore_n 3, 1) := by decide +kernel
theorem dL_slitOf_8 : decode cL_slitOf 8 = .ok (.ldc 17, 2) := by decide +kernel
theorem dL_slitOf_10 : decode cL_slitOf 10 = .ok (.ireturn, 1) := by decide +kernel
theorem dL_whole_0 : decode cL_whole 0 = .ok (.aload_n 0, 1) := by decide +kernel
theorem dL_whole_1 : decode cL_whole 1 = .ok (.iload_n 1, 1) := by decide +kernel
theorem dL_whole_2 : decode cL_whole 2 = .ok (.invokevirtual 62, 3) := by decide +kernel
theorem dL_whole_5 : decode cL_whole 5 = .ok (.ireturn, 1) := by decide +kernel
theorem dL_whole_6 : decode cL_whole 6 = .ok (.astore_n 2, 1) := by decide +kernel
theorem dL_whole_7 : decode cL_whole 7 = .ok (.ldc 17, 2) := by decide +kernel
theorem dL_whole_9 : decode cL_whole 9 = .ok (.ireturn, 1) := by decide +kernel
theorem dL_missing_0 : decode cL_missing 0 = .ok (.aload_n 0, 1) := by decide +kernel
theorem dL_missing_1 : decode cL_missing 1 = .ok (.iload_n 1, 1) := by decide +kernel
theorem dL_missing_2 : decode cL_missing 2 = .ok (.invokevirtual 65, 3) := by decide +kernel
theorem dL_missing_5 : decode cL_missing 5 = .ok (.ireturn, 1) := by decide +kernel
theorem dL_missing_6 : decode cL_missing 6 = .ok (.astore_n 2, 1) := by decide +kernel
theorem dL_missing_7 : decode cL_missing 7 = .ok (.ldc 17, 2) := by decide +kernel
theorem dL_missing_9 : decode cL_missing 9 = .ok (.ireturn, 1) := by decide +kernel
theorem dL_slitsWith_0 : decode cL_slitsWith 0 = .ok (.aload_n 0, 1) := by decide +kernel
theorem dL_slitsWith_1 : decode cL_slitsWith 1 = .ok (.iload_n 1, 1) := by decide +kernel
theorem dL_slitsWith_2 : decode cL_slitsWith 2 = .ok (.invokevirtual 68, 3) := by decide +kernel
theorem dL_slitsWith_5 : decode cL_slitsWith 5 = .ok (.ireturn, 1) := by decide +kernel
theorem dL_slitsWith_6 : decode cL_slitsWith 6 = .ok (.astore_n 2, 1) := by decide +kernel
theorem dL_slitsWith_7 : decode cL_slitsWith 7 = .ok (.ldc 17, 2) := by decide +kernel
theorem dL_slitsWith_9 : decode cL_slitsWith 9 = .ok (.ireturn, 1) := by decide +kernel
theorem dL_shuttlesFor_0 : decode cL_shuttlesFor 0 = .ok (.aload_n 0, 1) := by decide +kernel
theorem dL_shuttlesFor_1 : decode cL_shuttlesFor 1 = .ok (.iload_n 1, 1) := by decide +kernel
theorem dL_shuttlesFor_2 : decode cL_shuttlesFor 2 = .ok (.invokevirtual 71, 3) := by decide +kernel
theorem dL_shuttlesFor_5 : decode cL_shuttlesFor 5 = .ok (.ireturn, 1) := by decide +kernel
theorem dL_shuttlesFor_6 : decode cL_shuttlesFor 6 = .ok (.astore_n 2, 1) := by decide +kernel
theorem dL_shuttlesFor_7 : decode cL_shuttlesFor 7 = .ok (.ldc 17, 2) := by decide +kernel
theorem dL_shuttlesFor_9 : decode cL_shuttlesFor 9 = .ok (.ireturn, 1) := by decide +kernel
theorem dL_undoes_0 : decode cL_undoes 0 = .ok (.aload_n 0, 1) := by decide +kernel
theorem dL_undoes_1 : decode cL_undoes 1 = .ok (.invokevirtual 74, 3) := by decide +kernel
theorem dL_undoes_4 : decode cL_undoes 4 = .ok (.ireturn, 1) := by decide +kernel
theorem dL_undoes_5 : decode cL_undoes 5 = .ok (.astore_n 1, 1) := by decide +kernel
theorem dL_undoes_6 : decode cL_undoes 6 = .ok (.ldc 17, 2) := by decide +kernel
theorem dL_undoes_8 : decode cL_undoes 8 = .ok (.ireturn, 1) := by decide +kernel
theorem dL_wovenRows_0 : decode cL_wovenRows 0 = .ok (.aload_n 0, 1) := by decide +kernel
theorem dL_wovenRows_1 : decode cL_wovenRows 1 = .ok (.iconst 0, 1) := by decide +kernel
theorem dL_wovenRows_2 : decode cL_wovenRows 2 = .ok (.invokestatic 78, 3) := by decide +kernel
theorem dL_wovenRows_5 : decode cL_wovenRows 5 = .ok (.istore_n 1, 1) := by decide +kernel
theorem dL_wovenRows_6 : decode cL_wovenRows 6 = .ok (.iconst 0, 1) := by decide +kernel
theorem dL_wovenRows_7 : decode cL_wovenRows 7 = .ok (.istore_n 2, 1) := by decide +kernel
theorem dL_wovenRows_8 : decode cL_wovenRows 8 = .ok (.iconst 0, 1) := by decide +kernel
theorem dL_wovenRows_9 : decode cL_wovenRows 9 = .ok (.istore_n 3, 1) := by decide +kernel
theorem dL_wovenRows_10 : decode cL_wovenRows 10 = .ok (.iconst 0, 1) := by decide +kernel
theorem dL_wovenRows_11 : decode cL_wovenRows 11 = .ok (.istore 4, 2) := by decide +kernel
theorem dL_wovenRows_13 : decode cL_wovenRows 13 = .ok (.iconst 0, 1) := by decide +kernel
theorem dL_wovenRows_14 : decode cL_wovenRows 14 = .ok (.istore 5, 2) := by decide +kernel
theorem dL_wovenRows_16 : decode cL_wovenRows 16 = .ok (.iconst (-1), 1) := by decide +kernel
theorem dL_wovenRows_17 : decode cL_wovenRows 17 = .ok (.istore 6, 2) := by decide +kernel
theorem dL_wovenRows_19 : decode cL_wovenRows 19 = .ok (.iconst 1, 1) := by decide +kernel
theorem dL_wovenRows_20 : decode cL_wovenRows 20 = .ok (.istore 7, 2) := by decide +kernel
theorem dL_wovenRows_22 : decode cL_wovenRows 22 = .ok (.iconst 0, 1) := by decide +kernel
theorem dL_wovenRows_23 : decode cL_wovenRows 23 = .ok (.istore 8, 2) := by decide +kernel
theorem dL_wovenRows_25 : decode cL_wovenRows 25 = .ok (.iload 8, 2) := by decide +kernel
theorem dL_wovenRows_27 : decode cL_wovenRows 27 = .ok (.aload_n 0, 1) := by decide +kernel
theorem dL_wovenRows_28 : decode cL_wovenRows 28 = .ok (.iconst 2, 1) := by decide +kernel
theorem dL_wovenRows_29 : decode cL_wovenRows 29 = .ok (.invokestatic 78, 3) := by decide +kernel
theorem dL_wovenRows_32 : decode cL_wovenRows 32 = .ok (.if_icmp .ge 276, 3) := by decide +kernel
theorem dL_wovenRows_35 : decode cL_wovenRows 35 = .ok (.iload 7, 2) := by decide +kernel
theorem dL_wovenRows_37 : decode cL_wovenRows 37 = .ok (.ifCond .eq 271, 3) := by decide +kernel
theorem dL_wovenRows_40 : decode cL_wovenRows 40 = .ok (.iconst 0, 1) := by decide +kernel
theorem dL_wovenRows_41 : decode cL_wovenRows 41 = .ok (.istore 9, 2) := by decide +kernel
theorem dL_wovenRows_43 : decode cL_wovenRows 43 = .ok (.aload_n 0, 1) := by decide +kernel
theorem dL_wovenRows_44 : decode cL_wovenRows 44 = .ok (.iload 8, 2) := by decide +kernel
theorem dL_wovenRows_46 : decode cL_wovenRows 46 = .ok (.iconst 0, 1) := by decide +kernel
theorem dL_wovenRows_47 : decode cL_wovenRows 47 = .ok (.invokestatic 83, 3) := by decide +kernel
theorem dL_wovenRows_50 : decode cL_wovenRows 50 = .ok (.istore 10, 2) := by decide +kernel
theorem dL_wovenRows_52 : decode cL_wovenRows 52 = .ok (.iconst 0, 1) := by decide +kernel
theorem dL_wovenRows_53 : decode cL_wovenRows 53 = .ok (.istore 11, 2) := by decide +kernel
theorem dL_wovenRows_55 : decode cL_wovenRows 55 = .ok (.iload 11, 2) := by decide +kernel
theorem dL_wovenRows_57 : decode cL_wovenRows 57 = .ok (.iload_n 1, 1) := by decide +kernel
theorem dL_wovenRows_58 : decode cL_wovenRows 58 = .ok (.if_icmp .ge 98, 3) := by decide +kernel
theorem dL_wovenRows_61 : decode cL_wovenRows 61 = .ok (.iload 7, 2) := by decide +kernel
theorem dL_wovenRows_63 : decode cL_wovenRows 63 = .ok (.ifCond .eq 93, 3) := by decide +kernel
theorem dL_wovenRows_66 : decode cL_wovenRows 66 = .ok (.aload_n 0, 1) := by decide +kernel
theorem dL_wovenRows_67 : decode cL_wovenRows 67 = .ok (.iload 11, 2) := by decide +kernel
theorem dL_wovenRows_69 : decode cL_wovenRows 69 = .ok (.iload 8, 2) := by decide +kernel
theorem dL_wovenRows_71 : decode cL_wovenRows 71 = .ok (.iconst 1, 1) := by decide +kernel
theorem dL_wovenRows_72 : decode cL_wovenRows 72 = .ok (.invokestatic 87, 3) := by decide +kernel
theorem dL_wovenRows_75 : decode cL_wovenRows 75 = .ok (.istore 12, 2) := by decide +kernel
theorem dL_wovenRows_77 : decode cL_wovenRows 77 = .ok (.iload 9, 2) := by decide +kernel
theorem dL_wovenRows_79 : decode cL_wovenRows 79 = .ok (.iload 12, 2) := by decide +kernel
theorem dL_wovenRows_81 : decode cL_wovenRows 81 = .ok (.aload_n 0, 1) := by decide +kernel
theorem dL_wovenRows_82 : decode cL_wovenRows 82 = .ok (.iload 11, 2) := by decide +kernel
theorem dL_wovenRows_84 : decode cL_wovenRows 84 = .ok (.iload 8, 2) := by decide +kernel
theorem dL_wovenRows_86 : decode cL_wovenRows 86 = .ok (.iconst 0, 1) := by decide +kernel
theorem dL_wovenRows_87 : decode cL_wovenRows 87 = .ok (.invokestatic 87, 3) := by decide +kernel
theorem dL_wovenRows_90 : decode cL_wovenRows 90 = .ok (.if_icmp .ne 7, 3) := by decide +kernel
theorem dL_wovenRows_93 : decode cL_wovenRows 93 = .ok (.iconst 0, 1) := by decide +kernel
theorem dL_wovenRows_94 : decode cL_wovenRows 94 = .ok (.goto 4, 3) := by decide +kernel
theorem dL_wovenRows_97 : decode cL_wovenRows 97 = .ok (.iconst 1, 1) := by decide +kernel
theorem dL_wovenRows_98 : decode cL_wovenRows 98 = .ok (.iadd, 1) := by decide +kernel
theorem dL_wovenRows_99 : decode cL_wovenRows 99 = .ok (.istore 9, 2) := by decide +kernel
theorem dL_wovenRows_101 : decode cL_wovenRows 101 = .ok (.iload 12, 2) := by decide +kernel
theorem dL_wovenRows_103 : decode cL_wovenRows 103 = .ok (.ifCond .lt 44, 3) := by decide +kernel
theorem dL_wovenRows_106 : decode cL_wovenRows 106 = .ok (.aload_n 0, 1) := by decide +kernel
theorem dL_wovenRows_107 : decode cL_wovenRows 107 = .ok (.aload_n 0, 1) := by decide +kernel
theorem dL_wovenRows_108 : decode cL_wovenRows 108 = .ok (.iload 11, 2) := by decide +kernel
theorem dL_wovenRows_110 : decode cL_wovenRows 110 = .ok (.iload 8, 2) := by decide +kernel
theorem dL_wovenRows_112 : decode cL_wovenRows 112 = .ok (.iconst 2, 1) := by decide +kernel
theorem dL_wovenRows_113 : decode cL_wovenRows 113 = .ok (.invokestatic 87, 3) := by decide +kernel
theorem dL_wovenRows_116 : decode cL_wovenRows 116 = .ok (.iconst 0, 1) := by decide +kernel
theorem dL_wovenRows_117 : decode cL_wovenRows 117 = .ok (.invokestatic 91, 3) := by decide +kernel
theorem dL_wovenRows_120 : decode cL_wovenRows 120 = .ok (.iload 12, 2) := by decide +kernel
theorem dL_wovenRows_122 : decode cL_wovenRows 122 = .ok (.if_icmp .ne 25, 3) := by decide +kernel
theorem dL_wovenRows_125 : decode cL_wovenRows 125 = .ok (.aload_n 0, 1) := by decide +kernel
theorem dL_wovenRows_126 : decode cL_wovenRows 126 = .ok (.iload 11, 2) := by decide +kernel
theorem dL_wovenRows_128 : decode cL_wovenRows 128 = .ok (.iload 8, 2) := by decide +kernel
theorem dL_wovenRows_130 : decode cL_wovenRows 130 = .ok (.iconst 3, 1) := by decide +kernel
theorem dL_wovenRows_131 : decode cL_wovenRows 131 = .ok (.invokestatic 87, 3) := by decide +kernel
theorem dL_wovenRows_134 : decode cL_wovenRows 134 = .ok (.iload_n 1, 1) := by decide +kernel
theorem dL_wovenRows_135 : decode cL_wovenRows 135 = .ok (.iconst 1, 1) := by decide +kernel
theorem dL_wovenRows_136 : decode cL_wovenRows 136 = .ok (.isub, 1) := by decide +kernel
theorem dL_wovenRows_137 : decode cL_wovenRows 137 = .ok (.iload 11, 2) := by decide +kernel
theorem dL_wovenRows_139 : decode cL_wovenRows 139 = .ok (.isub, 1) := by decide +kernel
theorem dL_wovenRows_140 : decode cL_wovenRows 140 = .ok (.if_icmp .ne 7, 3) := by decide +kernel
theorem dL_wovenRows_143 : decode cL_wovenRows 143 = .ok (.iconst 1, 1) := by decide +kernel
theorem dL_wovenRows_144 : decode cL_wovenRows 144 = .ok (.goto 4, 3) := by decide +kernel
theorem dL_wovenRows_147 : decode cL_wovenRows 147 = .ok (.iconst 0, 1) := by decide +kernel
theorem dL_wovenRows_148 : decode cL_wovenRows 148 = .ok (.istore 7, 2) := by decide +kernel
theorem dL_wovenRows_150 : decode cL_wovenRows 150 = .ok (.iinc 11 1, 3) := by decide +kernel
theorem dL_wovenRows_153 : decode cL_wovenRows 153 = .ok (.goto (-98), 3) := by decide +kernel
theorem dL_wovenRows_156 : decode cL_wovenRows 156 = .ok (.iload 6, 2) := by decide +kernel
theorem dL_wovenRows_158 : decode cL_wovenRows 158 = .ok (.ifCond .ge 13, 3) := by decide +kernel
theorem dL_wovenRows_161 : decode cL_wovenRows 161 = .ok (.iload 9, 2) := by decide +kernel
theorem dL_wovenRows_163 : decode cL_wovenRows 163 = .ok (.ifCond .le 8, 3) := by decide +kernel
theorem dL_wovenRows_166 : decode cL_wovenRows 166 = .ok (.iload 8, 2) := by decide +kernel
theorem dL_wovenRows_168 : decode cL_wovenRows 168 = .ok (.goto 5, 3) := by decide +kernel
theorem dL_wovenRows_171 : decode cL_wovenRows 171 = .ok (.iload 6, 2) := by decide +kernel
theorem dL_wovenRows_173 : decode cL_wovenRows 173 = .ok (.istore 6, 2) := by decide +kernel
theorem dL_wovenRows_175 : decode cL_wovenRows 175 = .ok (.iload_n 2, 1) := by decide +kernel
theorem dL_wovenRows_176 : decode cL_wovenRows 176 = .ok (.iload 9, 2) := by decide +kernel
theorem dL_wovenRows_178 : decode cL_wovenRows 178 = .ok (.iadd, 1) := by decide +kernel
theorem dL_wovenRows_179 : decode cL_wovenRows 179 = .ok (.istore_n 2, 1) := by decide +kernel
theorem dL_wovenRows_180 : decode cL_wovenRows 180 = .ok (.iload_n 3, 1) := by decide +kernel
theorem dL_wovenRows_181 : decode cL_wovenRows 181 = .ok (.aload_n 0, 1) := by decide +kernel
theorem dL_wovenRows_182 : decode cL_wovenRows 182 = .ok (.iload 8, 2) := by decide +kernel
theorem dL_wovenRows_184 : decode cL_wovenRows 184 = .ok (.iconst 1, 1) := by decide +kernel
theorem dL_wovenRows_185 : decode cL_wovenRows 185 = .ok (.invokestatic 83, 3) := by decide +kernel
theorem dL_wovenRows_188 : decode cL_wovenRows 188 = .ok (.iadd, 1) := by decide +kernel
theorem dL_wovenRows_189 : decode cL_wovenRows 189 = .ok (.istore_n 3, 1) := by decide +kernel
theorem dL_wovenRows_190 : decode cL_wovenRows 190 = .ok (.iload 5, 2) := by decide +kernel
theorem dL_wovenRows_192 : decode cL_wovenRows 192 = .ok (.iload 10, 2) := by decide +kernel
theorem dL_wovenRows_194 : decode cL_wovenRows 194 = .ok (.iadd, 1) := by decide +kernel
theorem dL_wovenRows_195 : decode cL_wovenRows 195 = .ok (.istore 5, 2) := by decide +kernel
theorem dL_wovenRows_197 : decode cL_wovenRows 197 = .ok (.iload 10, 2) := by decide +kernel
theorem dL_wovenRows_199 : decode cL_wovenRows 199 = .ok (.iload 4, 2) := by decide +kernel
theorem dL_wovenRows_201 : decode cL_wovenRows 201 = .ok (.if_icmp .le 8, 3) := by decide +kernel
theorem dL_wovenRows_204 : decode cL_wovenRows 204 = .ok (.iload 10, 2) := by decide +kernel
theorem dL_wovenRows_206 : decode cL_wovenRows 206 = .ok (.goto 5, 3) := by decide +kernel
theorem dL_wovenRows_209 : decode cL_wovenRows 209 = .ok (.iload 4, 2) := by decide +kernel
theorem dL_wovenRows_211 : decode cL_wovenRows 211 = .ok (.istore 4, 2) := by decide +kernel
theorem dL_wovenRows_213 : decode cL_wovenRows 213 = .ok (.iload 7, 2) := by decide +kernel
theorem dL_wovenRows_215 : decode cL_wovenRows 215 = .ok (.ifCond .eq 84, 3) := by decide +kernel
theorem dL_wovenRows_218 : decode cL_wovenRows 218 = .ok (.aload_n 0, 1) := by decide +kernel
theorem dL_wovenRows_219 : decode cL_wovenRows 219 = .ok (.iload 8, 2) := by decide +kernel
theorem dL_wovenRows_221 : decode cL_wovenRows 221 = .ok (.iconst 2, 1) := by decide +kernel
theorem dL_wovenRows_222 : decode cL_wovenRows 222 = .ok (.invokestatic 83, 3) := by decide +kernel
theorem dL_wovenRows_225 : decode cL_wovenRows 225 = .ok (.iload 9, 2) := by decide +kernel
theorem dL_wovenRows_227 : decode cL_wovenRows 227 = .ok (.if_icmp .ne 72, 3) := by decide +kernel
theorem dL_wovenRows_230 : decode cL_wovenRows 230 = .ok (.aload_n 0, 1) := by decide +kernel
theorem dL_wovenRows_231 : decode cL_wovenRows 231 = .ok (.iload 8, 2) := by decide +kernel
theorem dL_wovenRows_233 : decode cL_wovenRows 233 = .ok (.iconst 1, 1) := by decide +kernel
theorem dL_wovenRows_234 : decode cL_wovenRows 234 = .ok (.invokestatic 83, 3) := by decide +kernel
theorem dL_wovenRows_237 : decode cL_wovenRows 237 = .ok (.iload 10, 2) := by decide +kernel
theorem dL_wovenRows_239 : decode cL_wovenRows 239 = .ok (.if_icmp .gt 60, 3) := by decide +kernel
theorem dL_wovenRows_242 : decode cL_wovenRows 242 = .ok (.iload 8, 2) := by decide +kernel
theorem dL_wovenRows_244 : decode cL_wovenRows 244 = .ok (.ifCond .gt 15, 3) := by decide +kernel
theorem dL_wovenRows_247 : decode cL_wovenRows 247 = .ok (.aload_n 0, 1) := by decide +kernel
theorem dL_wovenRows_248 : decode cL_wovenRows 248 = .ok (.iload 8, 2) := by decide +kernel
theorem dL_wovenRows_250 : decode cL_wovenRows 250 = .ok (.iconst 1, 1) := by decide +kernel
theorem dL_wovenRows_251 : decode cL_wovenRows 251 = .ok (.invokestatic 83, 3) := by decide +kernel
theorem dL_wovenRows_254 : decode cL_wovenRows 254 = .ok (.iload 10, 2) := by decide +kernel
theorem dL_wovenRows_256 : decode cL_wovenRows 256 = .ok (.if_icmp .ne 43, 3) := by decide +kernel
theorem dL_wovenRows_259 : decode cL_wovenRows 259 = .ok (.aload_n 0, 1) := by decide +kernel
theorem dL_wovenRows_260 : decode cL_wovenRows 260 = .ok (.iload 8, 2) := by decide +kernel
theorem dL_wovenRows_262 : decode cL_wovenRows 262 = .ok (.iconst 3, 1) := by decide +kernel
theorem dL_wovenRows_263 : decode cL_wovenRows 263 = .ok (.invokestatic 83, 3) := by decide +kernel
theorem dL_wovenRows_266 : decode cL_wovenRows 266 = .ok (.iload_n 1, 1) := by decide +kernel
theorem dL_wovenRows_267 : decode cL_wovenRows 267 = .ok (.iload 10, 2) := by decide +kernel
theorem dL_wovenRows_269 : decode cL_wovenRows 269 = .ok (.iadd, 1) := by decide +kernel
theorem dL_wovenRows_270 : decode cL_wovenRows 270 = .ok (.if_icmp .ne 29, 3) := by decide +kernel
theorem dL_wovenRows_273 : decode cL_wovenRows 273 = .ok (.aload_n 0, 1) := by decide +kernel
theorem dL_wovenRows_274 : decode cL_wovenRows 274 = .ok (.iload 8, 2) := by decide +kernel
theorem dL_wovenRows_276 : decode cL_wovenRows 276 = .ok (.iconst 4, 1) := by decide +kernel
theorem dL_wovenRows_277 : decode cL_wovenRows 277 = .ok (.invokestatic 83, 3) := by decide +kernel
theorem dL_wovenRows_280 : decode cL_wovenRows 280 = .ok (.iconst 1, 1) := by decide +kernel
theorem dL_wovenRows_281 : decode cL_wovenRows 281 = .ok (.if_icmp .lt 18, 3) := by decide +kernel
theorem dL_wovenRows_284 : decode cL_wovenRows 284 = .ok (.aload_n 0, 1) := by decide +kernel
theorem dL_wovenRows_285 : decode cL_wovenRows 285 = .ok (.iload 8, 2) := by decide +kernel
theorem dL_wovenRows_287 : decode cL_wovenRows 287 = .ok (.iconst 4, 1) := by decide +kernel
theorem dL_wovenRows_288 : decode cL_wovenRows 288 = .ok (.invokestatic 83, 3) := by decide +kernel
theorem dL_wovenRows_291 : decode cL_wovenRows 291 = .ok (.iload_n 1, 1) := by decide +kernel
theorem dL_wovenRows_292 : decode cL_wovenRows 292 = .ok (.if_icmp .gt 7, 3) := by decide +kernel
theorem dL_wovenRows_295 : decode cL_wovenRows 295 = .ok (.iconst 1, 1) := by decide +kernel
theorem dL_wovenRows_296 : decode cL_wovenRows 296 = .ok (.goto 4, 3) := by decide +kernel
theorem dL_wovenRows_299 : decode cL_wovenRows 299 = .ok (.iconst 0, 1) := by decide +kernel
theorem dL_wovenRows_300 : decode cL_wovenRows 300 = .ok (.istore 7, 2) := by decide +kernel
theorem dL_wovenRows_302 : decode cL_wovenRows 302 = .ok (.iinc 8 1, 3) := by decide +kernel
theorem dL_wovenRows_305 : decode cL_wovenRows 305 = .ok (.goto (-280), 3) := by decide +kernel
theorem dL_wovenRows_308 : decode cL_wovenRows 308 = .ok (.iconst 0, 1) := by decide +kernel
theorem dL_wovenRows_309 : decode cL_wovenRows 309 = .ok (.istore 8, 2) := by decide +kernel
theorem dL_wovenRows_311 : decode cL_wovenRows 311 = .ok (.iconst 0, 1) := by decide +kernel
theorem dL_wovenRows_312 : decode cL_wovenRows 312 = .ok (.istore 9, 2) := by decide +kernel
theorem dL_wovenRows_314 : decode cL_wovenRows 314 = .ok (.iload 9, 2) := by decide +kernel
theorem dL_wovenRows_316 : decode cL_wovenRows 316 = .ok (.bipush 8, 2) := by decide +kernel
theorem dL_wovenRows_318 : decode cL_wovenRows 318 = .ok (.if_icmp .ge 21, 3) := by decide +kernel
theorem dL_wovenRows_321 : decode cL_wovenRows 321 = .ok (.iload 8, 2) := by decide +kernel
theorem dL_wovenRows_323 : decode cL_wovenRows 323 = .ok (.aload_n 0, 1) := by decide +kernel
theorem dL_wovenRows_324 : decode cL_wovenRows 324 = .ok (.iload 9, 2) := by decide +kernel
theorem dL_wovenRows_326 : decode cL_wovenRows 326 = .ok (.iconst 4, 1) := by decide +kernel
theorem dL_wovenRows_327 : decode cL_wovenRows 327 = .ok (.invokestatic 94, 3) := by decide +kernel
theorem dL_wovenRows_330 : decode cL_wovenRows 330 = .ok (.iadd, 1) := by decide +kernel
theorem dL_wovenRows_331 : decode cL_wovenRows 331 = .ok (.istore 8, 2) := by decide +kernel
theorem dL_wovenRows_333 : decode cL_wovenRows 333 = .ok (.iinc 9 1, 3) := by decide +kernel
theorem dL_wovenRows_336 : decode cL_wovenRows 336 = .ok (.goto (-22), 3) := by decide +kernel
theorem dL_wovenRows_339 : decode cL_wovenRows 339 = .ok (.iload 7, 2) := by decide +kernel
theorem dL_wovenRows_341 : decode cL_wovenRows 341 = .ok (.ifCond .eq 53, 3) := by decide +kernel
theorem dL_wovenRows_344 : decode cL_wovenRows 344 = .ok (.aload_n 0, 1) := by decide +kernel
theorem dL_wovenRows_345 : decode cL_wovenRows 345 = .ok (.iconst 5, 1) := by decide +kernel
theorem dL_wovenRows_346 : decode cL_wovenRows 346 = .ok (.invokestatic 78, 3) := by decide +kernel
theorem dL_wovenRows_349 : decode cL_wovenRows 349 = .ok (.iload_n 2, 1) := by decide +kernel
theorem dL_wovenRows_350 : decode cL_wovenRows 350 = .ok (.if_icmp .ne 44, 3) := by decide +kernel
theorem dL_wovenRows_353 : decode cL_wovenRows 353 = .ok (.aload_n 0, 1) := by decide +kernel
theorem dL_wovenRows_354 : decode cL_wovenRows 354 = .ok (.bipush 12, 2) := by decide +kernel
theorem dL_wovenRows_356 : decode cL_wovenRows 356 = .ok (.invokestatic 78, 3) := by decide +kernel
theorem dL_wovenRows_359 : decode cL_wovenRows 359 = .ok (.iload_n 3, 1) := by decide +kernel
theorem dL_wovenRows_360 : decode cL_wovenRows 360 = .ok (.if_icmp .ne 34, 3) := by decide +kernel
theorem dL_wovenRows_363 : decode cL_wovenRows 363 = .ok (.aload_n 0, 1) := by decide +kernel
theorem dL_wovenRows_364 : decode cL_wovenRows 364 = .ok (.bipush 11, 2) := by decide +kernel
theorem dL_wovenRows_366 : decode cL_wovenRows 366 = .ok (.invokestatic 78, 3) := by decide +kernel
theorem dL_wovenRows_369 : decode cL_wovenRows 369 = .ok (.iload 4, 2) := by decide +kernel
theorem dL_wovenRows_371 : decode cL_wovenRows 371 = .ok (.if_icmp .ne 23, 3) := by decide +kernel
theorem dL_wovenRows_374 : decode cL_wovenRows 374 = .ok (.iload 8, 2) := by decide +kernel
theorem dL_wovenRows_376 : decode cL_wovenRows 376 = .ok (.iload 5, 2) := by decide +kernel
theorem dL_wovenRows_378 : decode cL_wovenRows 378 = .ok (.if_icmp .ne 16, 3) := by decide +kernel
theorem dL_wovenRows_381 : decode cL_wovenRows 381 = .ok (.aload_n 0, 1) := by decide +kernel
theorem dL_wovenRows_382 : decode cL_wovenRows 382 = .ok (.invokevirtual 97, 3) := by decide +kernel
theorem dL_wovenRows_385 : decode cL_wovenRows 385 = .ok (.iload 6, 2) := by decide +kernel
theorem dL_wovenRows_387 : decode cL_wovenRows 387 = .ok (.if_icmp .ne 7, 3) := by decide +kernel
theorem dL_wovenRows_390 : decode cL_wovenRows 390 = .ok (.iconst 1, 1) := by decide +kernel
theorem dL_wovenRows_391 : decode cL_wovenRows 391 = .ok (.goto 4, 3) := by decide +kernel
theorem dL_wovenRows_394 : decode cL_wovenRows 394 = .ok (.iconst 0, 1) := by decide +kernel
theorem dL_wovenRows_395 : decode cL_wovenRows 395 = .ok (.ireturn, 1) := by decide +kernel
theorem dL_yarns_0 : decode cL_yarns 0 = .ok (.iconst 0, 1) := by decide +kernel
theorem dL_yarns_1 : decode cL_yarns 1 = .ok (.istore_n 1, 1) := by decide +kernel
theorem dL_yarns_2 : decode cL_yarns 2 = .ok (.iconst 0, 1) := by decide +kernel
theorem dL_yarns_3 : decode cL_yarns 3 = .ok (.istore_n 2, 1) := by decide +kernel
theorem dL_yarns_4 : decode cL_yarns 4 = .ok (.iconst 0, 1) := by decide +kernel
theorem dL_yarns_5 : decode cL_yarns 5 = .ok (.istore_n 3, 1) := by decide +kernel
theorem dL_yarns_6 : decode cL_yarns 6 = .ok (.iconst 0, 1) := by decide +kernel
theorem dL_yarns_7 : decode cL_yarns 7 = .ok (.istore 4, 2) := by decide +kernel
theorem dL_yarns_9 : decode cL_yarns 9 = .ok (.iconst 1, 1) := by decide +kernel
theorem dL_yarns_10 : decode cL_yarns 10 = .ok (.istore 5, 2) := by decide +kernel
theorem dL_yarns_12 : decode cL_yarns 12 = .ok (.iconst 0, 1) := by decide +kernel
theorem dL_yarns_13 : decode cL_yarns 13 = .ok (.istore 6, 2) := by decide +kernel
theorem dL_yarns_15 : decode cL_yarns 15 = .ok (.iload 6, 2) := by decide +kernel
theorem dL_yarns_17 : decode cL_yarns 17 = .ok (.aload_n 0, 1) := by decide +kernel
theorem dL_yarns_18 : decode cL_yarns 18 = .ok (.iconst 3, 1) := by decide +kernel
theorem dL_yarns_19 : decode cL_yarns 19 = .ok (.invokestatic 78, 3) := by decide +kernel
theorem dL_yarns_22 : decode cL_yarns 22 = .ok (.if_icmp .ge 92, 3) := by decide +kernel
theorem dL_yarns_25 : decode cL_yarns 25 = .ok (.iload 5, 2) := by decide +kernel
theorem dL_yarns_27 : decode cL_yarns 27 = .ok (.ifCond .eq 87, 3) := by decide +kernel
theorem dL_yarns_30 : decode cL_yarns 30 = .ok (.aload_n 0, 1) := by decide +kernel
theorem dL_yarns_31 : decode cL_yarns 31 = .ok (.iload 6, 2) := by decide +kernel
theorem dL_yarns_33 : decode cL_yarns 33 = .ok (.iconst 2, 1) := by decide +kernel
theorem dL_yarns_34 : decode cL_yarns 34 = .ok (.invokestatic 91, 3) := by decide +kernel
theorem dL_yarns_37 : decode cL_yarns 37 = .ok (.istore 7, 2) := by decide +kernel
theorem dL_yarns_39 : decode cL_yarns 39 = .ok (.iload_n 1, 1) := by decide +kernel
theorem dL_yarns_40 : decode cL_yarns 40 = .ok (.aload_n 0, 1) := by decide +kernel
theorem dL_yarns_41 : decode cL_yarns 41 = .ok (.iload 6, 2) := by decide +kernel
theorem dL_yarns_43 : decode cL_yarns 43 = .ok (.iconst 4, 1) := by decide +kernel
theorem dL_yarns_44 : decode cL_yarns 44 = .ok (.invokestatic 91, 3) := by decide +kernel
theorem dL_yarns_47 : decode cL_yarns 47 = .ok (.iadd, 1) := by decide +kernel
theorem dL_yarns_48 : decode cL_yarns 48 = .ok (.istore_n 1, 1) := by decide +kernel
theorem dL_yarns_49 : decode cL_yarns 49 = .ok (.iload 7, 2) := by decide +kernel
theorem dL_yarns_51 : decode cL_yarns 51 = .ok (.ifCond .lt 54, 3) := by decide +kernel
theorem dL_yarns_54 : decode cL_yarns 54 = .ok (.iload 7, 2) := by decide +kernel
theorem dL_yarns_56 : decode cL_yarns 56 = .ok (.aload_n 0, 1) := by decide +kernel
theorem dL_yarns_57 : decode cL_yarns 57 = .ok (.iload 6, 2) := by decide +kernel
theorem dL_yarns_59 : decode cL_yarns 59 = .ok (.iconst 1, 1) := by decide +kernel
theorem dL_yarns_60 : decode cL_yarns 60 = .ok (.invokestatic 91, 3) := by decide +kernel
theorem dL_yarns_63 : decode cL_yarns 63 = .ok (.if_icmp .gt 42, 3) := by decide +kernel
theorem dL_yarns_66 : decode cL_yarns 66 = .ok (.aload_n 0, 1) := by decide +kernel
theorem dL_yarns_67 : decode cL_yarns 67 = .ok (.iload 6, 2) := by decide +kernel
theorem dL_yarns_69 : decode cL_yarns 69 = .ok (.iconst 4, 1) := by decide +kernel
theorem dL_yarns_70 : decode cL_yarns 70 = .ok (.invokestatic 91, 3) := by decide +kernel
theorem dL_yarns_73 : decode cL_yarns 73 = .ok (.aload_n 0, 1) := by decide +kernel
theorem dL_yarns_74 : decode cL_yarns 74 = .ok (.iload 6, 2) := by decide +kernel
theorem dL_yarns_76 : decode cL_yarns 76 = .ok (.iconst 1, 1) := by decide +kernel
theorem dL_yarns_77 : decode cL_yarns 77 = .ok (.invokestatic 91, 3) := by decide +kernel
theorem dL_yarns_80 : decode cL_yarns 80 = .ok (.iload 7, 2) := by decide +kernel
theorem dL_yarns_82 : decode cL_yarns 82 = .ok (.isub, 1) := by decide +kernel
theorem dL_yarns_83 : decode cL_yarns 83 = .ok (.if_icmp .gt 22, 3) := by decide +kernel
theorem dL_yarns_86 : decode cL_yarns 86 = .ok (.aload_n 0, 1) := by decide +kernel
theorem dL_yarns_87 : decode cL_yarns 87 = .ok (.iload 6, 2) := by decide +kernel
theorem dL_yarns_89 : decode cL_yarns 89 = .ok (.iconst 5, 1) := by decide +kernel
theorem dL_yarns_90 : decode cL_yarns 90 = .ok (.invokestatic 91, 3) := by decide +kernel
theorem dL_yarns_93 : decode cL_yarns 93 = .ok (.ifCond .eq 8, 3) := by decide +kernel
theorem dL_yarns_96 : decode cL_yarns 96 = .ok (.iload 7, 2) := by decide +kernel
theorem dL_yarns_98 : decode cL_yarns 98 = .ok (.ifCond .le 7, 3) := by decide +kernel
theorem dL_yarns_101 : decode cL_yarns 101 = .ok (.iconst 1, 1) := by decide +kernel
theorem dL_yarns_102 : decode cL_yarns 102 = .ok (.goto 4, 3) := by decide +kernel
theorem dL_yarns_105 : decode cL_yarns 105 = .ok (.iconst 0, 1) := by decide +kernel
theorem dL_yarns_106 : decode cL_yarns 106 = .ok (.istore 5, 2) := by decide +kernel
theorem dL_yarns_108 : decode cL_yarns 108 = .ok (.iinc 6 1, 3) := by decide +kernel
theorem dL_yarns_111 : decode cL_yarns 111 = .ok (.goto (-96), 3) := by decide +kernel
theorem dL_yarns_114 : decode cL_yarns 114 = .ok (.iconst 0, 1) := by decide +kernel
theorem dL_yarns_115 : decode cL_yarns 115 = .ok (.istore 6, 2) := by decide +kernel
theorem dL_yarns_117 : decode cL_yarns 117 = .ok (.iload 6, 2) := by decide +kernel
theorem dL_yarns_119 : decode cL_yarns 119 = .ok (.bipush 8, 2) := by decide +kernel
theorem dL_yarns_121 : decode cL_yarns 121 = .ok (.if_icmp .ge 195, 3) := by decide +kernel
theorem dL_yarns_124 : decode cL_yarns 124 = .ok (.iload 5, 2) := by decide +kernel
theorem dL_yarns_126 : decode cL_yarns 126 = .ok (.ifCond .eq 190, 3) := by decide +kernel
theorem dL_yarns_129 : decode cL_yarns 129 = .ok (.iconst 0, 1) := by decide +kernel
theorem dL_yarns_130 : decode cL_yarns 130 = .ok (.istore 7, 2) := by decide +kernel
theorem dL_yarns_132 : decode cL_yarns 132 = .ok (.iconst 0, 1) := by decide +kernel
theorem dL_yarns_133 : decode cL_yarns 133 = .ok (.istore 8, 2) := by decide +kernel
theorem dL_yarns_135 : decode cL_yarns 135 = .ok (.iconst 0, 1) := by decide +kernel
theorem dL_yarns_136 : decode cL_yarns 136 = .ok (.istore 9, 2) := by decide +kernel
theorem dL_yarns_138 : decode cL_yarns 138 = .ok (.iload 9, 2) := by decide +kernel
theorem dL_yarns_140 : decode cL_yarns 140 = .ok (.aload_n 0, 1) := by decide +kernel
theorem dL_yarns_141 : decode cL_yarns 141 = .ok (.iconst 3, 1) := by decide +kernel
theorem dL_yarns_142 : decode cL_yarns 142 = .ok (.invokestatic 78, 3) := by decide +kernel
theorem dL_yarns_145 : decode cL_yarns 145 = .ok (.if_icmp .ge 59, 3) := by decide +kernel
theorem dL_yarns_148 : decode cL_yarns 148 = .ok (.iload 7, 2) := by decide +kernel
theorem dL_yarns_150 : decode cL_yarns 150 = .ok (.aload_n 0, 1) := by decide +kernel
theorem dL_yarns_151 : decode cL_yarns 151 = .ok (.iload 9, 2) := by decide +kernel
theorem dL_yarns_153 : decode cL_yarns 153 = .ok (.iconst 0, 1) := by decide +kernel
theorem dL_yarns_154 : decode cL_yarns 154 = .ok (.invokestatic 91, 3) := by decide +kernel
theorem dL_yarns_157 : decode cL_yarns 157 = .ok (.iload 6, 2) := by decide +kernel
theorem dL_yarns_159 : decode cL_yarns 159 = .ok (.if_icmp .ne 13, 3) := by decide +kernel
theorem dL_yarns_162 : decode cL_yarns 162 = .ok (.aload_n 0, 1) := by decide +kernel
theorem dL_yarns_163 : decode cL_yarns 163 = .ok (.iload 9, 2) := by decide +kernel
theorem dL_yarns_165 : decode cL_yarns 165 = .ok (.iconst 2, 1) := by decide +kernel
theorem dL_yarns_166 : decode cL_yarns 166 = .ok (.invokestatic 91, 3) := by decide +kernel
theorem dL_yarns_169 : decode cL_yarns 169 = .ok (.goto 4, 3) := by decide +kernel
theorem dL_yarns_172 : decode cL_yarns 172 = .ok (.iconst 0, 1) := by decide +kernel
theorem dL_yarns_173 : decode cL_yarns 173 = .ok (.iadd, 1) := by decide +kernel
theorem dL_yarns_174 : decode cL_yarns 174 = .ok (.istore 7, 2) := by decide +kernel
theorem dL_yarns_176 : decode cL_yarns 176 = .ok (.iload 8, 2) := by decide +kernel
theorem dL_yarns_178 : decode cL_yarns 178 = .ok (.aload_n 0, 1) := by decide +kernel
theorem dL_yarns_179 : decode cL_yarns 179 = .ok (.iload 9, 2) := by decide +kernel
theorem dL_yarns_181 : decode cL_yarns 181 = .ok (.iconst 0, 1) := by decide +kernel
theorem dL_yarns_182 : decode cL_yarns 182 = .ok (.invokestatic 91, 3) := by decide +kernel
theorem dL_yarns_185 : decode cL_yarns 185 = .ok (.iload 6, 2) := by decide +kernel
theorem dL_yarns_187 : decode cL_yarns 187 = .ok (.if_icmp .ne 7, 3) := by decide +kernel
theorem dL_yarns_190 : decode cL_yarns 190 = .ok (.iconst 1, 1) := by decide +kernel
theorem dL_yarns_191 : decode cL_yarns 191 = .ok (.goto 4, 3) := by decide +kernel
theorem dL_yarns_194 : decode cL_yarns 194 = .ok (.iconst 0, 1) := by decide +kernel
theorem dL_yarns_195 : decode cL_yarns 195 = .ok (.iadd, 1) := by decide +kernel
theorem dL_yarns_196 : decode cL_yarns 196 = .ok (.istore 8, 2) := by decide +kernel
theorem dL_yarns_198 : decode cL_yarns 198 = .ok (.iinc 9 1, 3) := by decide +kernel
theorem dL_yarns_201 : decode cL_yarns 201 = .ok (.goto (-63), 3) := by decide +kernel
theorem dL_yarns_204 : decode cL_yarns 204 = .ok (.iload_n 1, 1) := by decide +kernel
theorem dL_yarns_205 : decode cL_yarns 205 = .ok (.aload_n 0, 1) := by decide +kernel
theorem dL_yarns_206 : decode cL_yarns 206 = .ok (.iload 6, 2) := by decide +kernel
theorem dL_yarns_208 : decode cL_yarns 208 = .ok (.iconst 1, 1) := by decide +kernel
theorem dL_yarns_209 : decode cL_yarns 209 = .ok (.invokestatic 94, 3) := by decide +kernel
theorem dL_yarns_212 : decode cL_yarns 212 = .ok (.isub, 1) := by decide +kernel
theorem dL_yarns_213 : decode cL_yarns 213 = .ok (.istore_n 1, 1) := by decide +kernel
theorem dL_yarns_214 : decode cL_yarns 214 = .ok (.iload_n 2, 1) := by decide +kernel
theorem dL_yarns_215 : decode cL_yarns 215 = .ok (.aload_n 0, 1) := by decide +kernel
theorem dL_yarns_216 : decode cL_yarns 216 = .ok (.iload 6, 2) := by decide +kernel
theorem dL_yarns_218 : decode cL_yarns 218 = .ok (.iconst 0, 1) := by decide +kernel
theorem dL_yarns_219 : decode cL_yarns 219 = .ok (.invokestatic 94, 3) := by decide +kernel
theorem dL_yarns_222 : decode cL_yarns 222 = .ok (.iadd, 1) := by decide +kernel
theorem dL_yarns_223 : decode cL_yarns 223 = .ok (.istore_n 2, 1) := by decide +kernel
theorem dL_yarns_224 : decode cL_yarns 224 = .ok (.iload_n 3, 1) := by decide +kernel
theorem dL_yarns_225 : decode cL_yarns 225 = .ok (.aload_n 0, 1) := by decide +kernel
theorem dL_yarns_226 : decode cL_yarns 226 = .ok (.iload 6, 2) := by decide +kernel
theorem dL_yarns_228 : decode cL_yarns 228 = .ok (.iconst 5, 1) := by decide +kernel
theorem dL_yarns_229 : decode cL_yarns 229 = .ok (.invokestatic 94, 3) := by decide +kernel
theorem dL_yarns_232 : decode cL_yarns 232 = .ok (.iadd, 1) := by decide +kernel
theorem dL_yarns_233 : decode cL_yarns 233 = .ok (.istore_n 3, 1) := by decide +kernel
theorem dL_yarns_234 : decode cL_yarns 234 = .ok (.iload 4, 2) := by decide +kernel
theorem dL_yarns_236 : decode cL_yarns 236 = .ok (.aload_n 0, 1) := by decide +kernel
theorem dL_yarns_237 : decode cL_yarns 237 = .ok (.iload 6, 2) := by decide +kernel
theorem dL_yarns_239 : decode cL_yarns 239 = .ok (.invokestatic 100, 3) := by decide +kernel
theorem dL_yarns_242 : decode cL_yarns 242 = .ok (.iadd, 1) := by decide +kernel
theorem dL_yarns_243 : decode cL_yarns 243 = .ok (.istore 4, 2) := by decide +kernel
theorem dL_yarns_245 : decode cL_yarns 245 = .ok (.aload_n 0, 1) := by decide +kernel
theorem dL_yarns_246 : decode cL_yarns 246 = .ok (.iload 6, 2) := by decide +kernel
theorem dL_yarns_248 : decode cL_yarns 248 = .ok (.iconst 2, 1) := by decide +kernel
theorem dL_yarns_249 : decode cL_yarns 249 = .ok (.invokestatic 94, 3) := by decide +kernel
theorem dL_yarns_252 : decode cL_yarns 252 = .ok (.iload 7, 2) := by decide +kernel
theorem dL_yarns_254 : decode cL_yarns 254 = .ok (.if_icmp .ne 53, 3) := by decide +kernel
theorem dL_yarns_257 : decode cL_yarns 257 = .ok (.aload_n 0, 1) := by decide +kernel
theorem dL_yarns_258 : decode cL_yarns 258 = .ok (.iload 6, 2) := by decide +kernel
theorem dL_yarns_260 : decode cL_yarns 260 = .ok (.iconst 3, 1) := by decide +kernel
theorem dL_yarns_261 : decode cL_yarns 261 = .ok (.invokestatic 94, 3) := by decide +kernel
theorem dL_yarns_264 : decode cL_yarns 264 = .ok (.iload 8, 2) := by decide +kernel
theorem dL_yarns_266 : decode cL_yarns 266 = .ok (.if_icmp .ne 41, 3) := by decide +kernel
theorem dL_yarns_269 : decode cL_yarns 269 = .ok (.aload_n 0, 1) := by decide +kernel
theorem dL_yarns_270 : decode cL_yarns 270 = .ok (.iload 6, 2) := by decide +kernel
theorem dL_yarns_272 : decode cL_yarns 272 = .ok (.invokestatic 100, 3) := by decide +kernel
theorem dL_yarns_275 : decode cL_yarns 275 = .ok (.ifCond .ne 7, 3) := by decide +kernel
theorem dL_yarns_278 : decode cL_yarns 278 = .ok (.iconst 1, 1) := by decide +kernel
theorem dL_yarns_279 : decode cL_yarns 279 = .ok (.goto 4, 3) := by decide +kernel
theorem dL_yarns_282 : decode cL_yarns 282 = .ok (.iconst 0, 1) := by decide +kernel
theorem dL_yarns_283 : decode cL_yarns 283 = .ok (.aload_n 0, 1) := by decide +kernel
theorem dL_yarns_284 : decode cL_yarns 284 = .ok (.iload 6, 2) := by decide +kernel
theorem dL_yarns_286 : decode cL_yarns 286 = .ok (.iconst 5, 1) := by decide +kernel
theorem dL_yarns_287 : decode cL_yarns 287 = .ok (.invokestatic 94, 3) := by decide +kernel
theorem dL_yarns_290 : decode cL_yarns 290 = .ok (.iload 7, 2) := by decide +kernel
theorem dL_yarns_292 : decode cL_yarns 292 = .ok (.if_icmp .gt 7, 3) := by decide +kernel
theorem dL_yarns_295 : decode cL_yarns 295 = .ok (.iconst 1, 1) := by decide +kernel
theorem dL_yarns_296 : decode cL_yarns 296 = .ok (.goto 4, 3) := by decide +kernel
theorem dL_yarns_299 : decode cL_yarns 299 = .ok (.iconst 0, 1) := by decide +kernel
theorem dL_yarns_300 : decode cL_yarns 300 = .ok (.if_icmp .ne 7, 3) := by decide +kernel
theorem dL_yarns_303 : decode cL_yarns 303 = .ok (.iconst 1, 1) := by decide +kernel
theorem dL_yarns_304 : decode cL_yarns 304 = .ok (.goto 4, 3) := by decide +kernel
theorem dL_yarns_307 : decode cL_yarns 307 = .ok (.iconst 0, 1) := by decide +kernel
theorem dL_yarns_308 : decode cL_yarns 308 = .ok (.istore 5, 2) := by decide +kernel
theorem dL_yarns_310 : decode cL_yarns 310 = .ok (.iinc 6 1, 3) := by decide +kernel
theorem dL_yarns_313 : decode cL_yarns 313 = .ok (.goto (-196), 3) := by decide +kernel
theorem dL_yarns_316 : decode cL_yarns 316 = .ok (.aload_n 0, 1) := by decide +kernel
theorem dL_yarns_317 : decode cL_yarns 317 = .ok (.iconst 2, 1) := by decide +kernel
theorem dL_yarns_318 : decode cL_yarns 318 = .ok (.invokestatic 78, 3) := by decide +kernel
theorem dL_yarns_321 : decode cL_yarns 321 = .ok (.istore 6, 2) := by decide +kernel
theorem dL_yarns_323 : decode cL_yarns 323 = .ok (.iload 6, 2) := by decide +kernel
theorem dL_yarns_325 : decode cL_yarns 325 = .ok (.aload_n 0, 1) := by decide +kernel
theorem dL_yarns_326 : decode cL_yarns 326 = .ok (.iconst 1, 1) := by decide +kernel
theorem dL_yarns_327 : decode cL_yarns 327 = .ok (.invokestatic 78, 3) := by decide +kernel
theorem dL_yarns_330 : decode cL_yarns 330 = .ok (.if_icmp .ge 24, 3) := by decide +kernel
theorem dL_yarns_333 : decode cL_yarns 333 = .ok (.iload_n 3, 1) := by decide +kernel
theorem dL_yarns_334 : decode cL_yarns 334 = .ok (.aload_n 0, 1) := by decide +kernel
theorem dL_yarns_335 : decode cL_yarns 335 = .ok (.iconst 0, 1) := by decide +kernel
theorem dL_yarns_336 : decode cL_yarns 336 = .ok (.invokestatic 78, 3) := by decide +kernel
theorem dL_yarns_339 : decode cL_yarns 339 = .ok (.aload_n 0, 1) := by decide +kernel
theorem dL_yarns_340 : decode cL_yarns 340 = .ok (.iload 6, 2) := by decide +kernel
theorem dL_yarns_342 : decode cL_yarns 342 = .ok (.invokestatic 102, 3) := by decide +kernel
theorem dL_yarns_345 : decode cL_yarns 345 = .ok (.iadd, 1) := by decide +kernel
theorem dL_yarns_346 : decode cL_yarns 346 = .ok (.isub, 1) := by decide +kernel
theorem dL_yarns_347 : decode cL_yarns 347 = .ok (.istore_n 3, 1) := by decide +kernel
theorem dL_yarns_348 : decode cL_yarns 348 = .ok (.iinc 6 1, 3) := by decide +kernel
theorem dL_yarns_351 : decode cL_yarns 351 = .ok (.goto (-28), 3) := by decide +kernel
theorem dL_yarns_354 : decode cL_yarns 354 = .ok (.aload_n 0, 1) := by decide +kernel
theorem dL_yarns_355 : decode cL_yarns 355 = .ok (.iconst 1, 1) := by decide +kernel
theorem dL_yarns_356 : decode cL_yarns 356 = .ok (.invokestatic 78, 3) := by decide +kernel
theorem dL_yarns_359 : decode cL_yarns 359 = .ok (.aload_n 0, 1) := by decide +kernel
theorem dL_yarns_360 : decode cL_yarns 360 = .ok (.iconst 2, 1) := by decide +kernel
theorem dL_yarns_361 : decode cL_yarns 361 = .ok (.invokestatic 78, 3) := by decide +kernel
theorem dL_yarns_364 : decode cL_yarns 364 = .ok (.isub, 1) := by decide +kernel
theorem dL_yarns_365 : decode cL_yarns 365 = .ok (.istore 6, 2) := by decide +kernel
theorem dL_yarns_367 : decode cL_yarns 367 = .ok (.iload 5, 2) := by decide +kernel
theorem dL_yarns_369 : decode cL_yarns 369 = .ok (.ifCond .eq 56, 3) := by decide +kernel
theorem dL_yarns_372 : decode cL_yarns 372 = .ok (.iload_n 1, 1) := by decide +kernel
theorem dL_yarns_373 : decode cL_yarns 373 = .ok (.ifCond .ne 52, 3) := by decide +kernel
theorem dL_yarns_376 : decode cL_yarns 376 = .ok (.iload_n 2, 1) := by decide +kernel
theorem dL_yarns_377 : decode cL_yarns 377 = .ok (.aload_n 0, 1) := by decide +kernel
theorem dL_yarns_378 : decode cL_yarns 378 = .ok (.iconst 0, 1) := by decide +kernel
theorem dL_yarns_379 : decode cL_yarns 379 = .ok (.invokestatic 78, 3) := by decide +kernel
theorem dL_yarns_382 : decode cL_yarns 382 = .ok (.aload_n 0, 1) := by decide +kernel
theorem dL_yarns_383 : decode cL_yarns 383 = .ok (.iconst 1, 1) := by decide +kernel
theorem dL_yarns_384 : decode cL_yarns 384 = .ok (.invokestatic 78, 3) := by decide +kernel
theorem dL_yarns_387 : decode cL_yarns 387 = .ok (.imul, 1) := by decide +kernel
theorem dL_yarns_388 : decode cL_yarns 388 = .ok (.if_icmp .ne 37, 3) := by decide +kernel
theorem dL_yarns_391 : decode cL_yarns 391 = .ok (.iload_n 3, 1) := by decide +kernel
theorem dL_yarns_392 : decode cL_yarns 392 = .ok (.ifCond .ne 33, 3) := by decide +kernel
theorem dL_yarns_395 : decode cL_yarns 395 = .ok (.iload 4, 2) := by decide +kernel
theorem dL_yarns_397 : decode cL_yarns 397 = .ok (.ifCond .ne 15, 3) := by decide +kernel
theorem dL_yarns_400 : decode cL_yarns 400 = .ok (.aload_n 0, 1) := by decide +kernel
theorem dL_yarns_401 : decode cL_yarns 401 = .ok (.invokevirtual 104, 3) := by decide +kernel
theorem dL_yarns_404 : decode cL_yarns 404 = .ok (.iload 6, 2) := by decide +kernel
theorem dL_yarns_406 : decode cL_yarns 406 = .ok (.if_icmp .ne 19, 3) := by decide +kernel
theorem dL_yarns_409 : decode cL_yarns 409 = .ok (.goto 12, 3) := by decide +kernel
theorem dL_yarns_412 : decode cL_yarns 412 = .ok (.aload_n 0, 1) := by decide +kernel
theorem dL_yarns_413 : decode cL_yarns 413 = .ok (.invokevirtual 104, 3) := by decide +kernel
theorem dL_yarns_416 : decode cL_yarns 416 = .ok (.iload 6, 2) := by decide +kernel
theorem dL_yarns_418 : decode cL_yarns 418 = .ok (.if_icmp .ge 7, 3) := by decide +kernel
theorem dL_yarns_421 : decode cL_yarns 421 = .ok (.iconst 1, 1) := by decide +kernel
theorem dL_yarns_422 : decode cL_yarns 422 = .ok (.goto 4, 3) := by decide +kernel
theorem dL_yarns_425 : decode cL_yarns 425 = .ok (.iconst 0, 1) := by decide +kernel
theorem dL_yarns_426 : decode cL_yarns 426 = .ok (.ireturn, 1) := by decide +kernel
theorem dL_slits_0 : decode cL_slits 0 = .ok (.aload_n 0, 1) := by decide +kernel
theorem dL_slits_1 : decode cL_slits 1 = .ok (.bipush 13, 2) := by decide +kernel
theorem dL_slits_3 : decode cL_slits 3 = .ok (.invokestatic 78, 3) := by decide +kernel
theorem dL_slits_6 : decode cL_slits 6 = .ok (.istore_n 1, 1) := by decide +kernel
theorem dL_slits_7 : decode cL_slits 7 = .ok (.aload_n 0, 1) := by decide +kernel
theorem dL_slits_8 : decode cL_slits 8 = .ok (.bipush 6, 2) := by decide +kernel
theorem dL_slits_10 : decode cL_slits 10 = .ok (.invokestatic 78, 3) := by decide +kernel
theorem dL_slits_13 : decode cL_slits 13 = .ok (.istore_n 2, 1) := by decide +kernel
theorem dL_slits_14 : decode cL_slits 14 = .ok (.iconst 0, 1) := by decide +kernel
theorem dL_slits_15 : decode cL_slits 15 = .ok (.istore_n 3, 1) := by decide +kernel
theorem dL_slits_16 : decode cL_slits 16 = .ok (.iconst 0, 1) := by decide +kernel
theorem dL_slits_17 : decode cL_slits 17 = .ok (.istore 4, 2) := by decide +kernel
theorem dL_slits_19 : decode cL_slits 19 = .ok (.aload_n 0, 1) := by decide +kernel
theorem dL_slits_20 : decode cL_slits 20 = .ok (.iload_n 1, 1) := by decide +kernel
theorem dL_slits_21 : decode cL_slits 21 = .ok (.invokestatic 107, 3) := by decide +kernel
theorem dL_slits_24 : decode cL_slits 24 = .ok (.iload_n 2, 1) := by decide +kernel
theorem dL_slits_25 : decode cL_slits 25 = .ok (.if_icmp .ne 42, 3) := by decide +kernel
theorem dL_slits_28 : decode cL_slits 28 = .ok (.aload_n 0, 1) := by decide +kernel
theorem dL_slits_29 : decode cL_slits 29 = .ok (.iload_n 2, 1) := by decide +kernel
theorem dL_slits_30 : decode cL_slits 30 = .ok (.iconst 2, 1) := by decide +kernel
theorem dL_slits_31 : decode cL_slits 31 = .ok (.invokestatic 109, 3) := by decide +kernel
theorem dL_slits_34 : decode cL_slits 34 = .ok (.iconst (-1), 1) := by decide +kernel
theorem dL_slits_35 : decode cL_slits 35 = .ok (.if_icmp .ne 32, 3) := by decide +kernel
theorem dL_slits_38 : decode cL_slits 38 = .ok (.aload_n 0, 1) := by decide +kernel
theorem dL_slits_39 : decode cL_slits 39 = .ok (.bipush 10, 2) := by decide +kernel
theorem dL_slits_41 : decode cL_slits 41 = .ok (.invokestatic 78, 3) := by decide +kernel
theorem dL_slits_44 : decode cL_slits 44 = .ok (.aload_n 0, 1) := by decide +kernel
theorem dL_slits_45 : decode cL_slits 45 = .ok (.bipush 9, 2) := by decide +kernel
theorem dL_slits_47 : decode cL_slits 47 = .ok (.invokestatic 78, 3) := by decide +kernel
theorem dL_slits_50 : decode cL_slits 50 = .ok (.if_icmp .gt 17, 3) := by decide +kernel
theorem dL_slits_53 : decode cL_slits 53 = .ok (.aload_n 0, 1) := by decide +kernel
theorem dL_slits_54 : decode cL_slits 54 = .ok (.bipush 7, 2) := by decide +kernel
theorem dL_slits_56 : decode cL_slits 56 = .ok (.invokestatic 78, 3) := by decide +kernel
theorem dL_slits_59 : decode cL_slits 59 = .ok (.iload_n 2, 1) := by decide +kernel
theorem dL_slits_60 : decode cL_slits 60 = .ok (.if_icmp .gt 7, 3) := by decide +kernel
theorem dL_slits_63 : decode cL_slits 63 = .ok (.iconst 1, 1) := by decide +kernel
theorem dL_slits_64 : decode cL_slits 64 = .ok (.goto 4, 3) := by decide +kernel
theorem dL_slits_67 : decode cL_slits 67 = .ok (.iconst 0, 1) := by decide +kernel
theorem dL_slits_68 : decode cL_slits 68 = .ok (.istore 5, 2) := by decide +kernel
theorem dL_slits_70 : decode cL_slits 70 = .ok (.iconst 0, 1) := by decide +kernel
theorem dL_slits_71 : decode cL_slits 71 = .ok (.istore 6, 2) := by decide +kernel
theorem dL_slits_73 : decode cL_slits 73 = .ok (.iload 6, 2) := by decide +kernel
theorem dL_slits_75 : decode cL_slits 75 = .ok (.iload_n 2, 1) := by decide +kernel
theorem dL_slits_76 : decode cL_slits 76 = .ok (.if_icmp .ge 141, 3) := by decide +kernel
theorem dL_slits_79 : decode cL_slits 79 = .ok (.iload 5, 2) := by decide +kernel
theorem dL_slits_81 : decode cL_slits 81 = .ok (.ifCond .eq 136, 3) := by decide +kernel
theorem dL_slits_84 : decode cL_slits 84 = .ok (.aload_n 0, 1) := by decide +kernel
theorem dL_slits_85 : decode cL_slits 85 = .ok (.iload 6, 2) := by decide +kernel
theorem dL_slits_87 : decode cL_slits 87 = .ok (.iconst 2, 1) := by decide +kernel
theorem dL_slits_88 : decode cL_slits 88 = .ok (.invokestatic 109, 3) := by decide +kernel
theorem dL_slits_91 : decode cL_slits 91 = .ok (.aload_n 0, 1) := by decide +kernel
theorem dL_slits_92 : decode cL_slits 92 = .ok (.iload 6, 2) := by decide +kernel
theorem dL_slits_94 : decode cL_slits 94 = .ok (.iconst 1, 1) := by decide +kernel
theorem dL_slits_95 : decode cL_slits 95 = .ok (.invokestatic 109, 3) := by decide +kernel
theorem dL_slits_98 : decode cL_slits 98 = .ok (.isub, 1) := by decide +kernel
theorem dL_slits_99 : decode cL_slits 99 = .ok (.iconst 1, 1) := by decide +kernel
theorem dL_slits_100 : decode cL_slits 100 = .ok (.iadd, 1) := by decide +kernel
theorem dL_slits_101 : decode cL_slits 101 = .ok (.istore 7, 2) := by decide +kernel
theorem dL_slits_103 : decode cL_slits 103 = .ok (.iload_n 3, 1) := by decide +kernel
theorem dL_slits_104 : decode cL_slits 104 = .ok (.aload_n 0, 1) := by decide +kernel
theorem dL_slits_105 : decode cL_slits 105 = .ok (.iload 6, 2) := by decide +kernel
theorem dL_slits_107 : decode cL_slits 107 = .ok (.iconst 3, 1) := by decide +kernel
theorem dL_slits_108 : decode cL_slits 108 = .ok (.invokestatic 109, 3) := by decide +kernel
theorem dL_slits_111 : decode cL_slits 111 = .ok (.iadd, 1) := by decide +kernel
theorem dL_slits_112 : decode cL_slits 112 = .ok (.istore_n 3, 1) := by decide +kernel
theorem dL_slits_113 : decode cL_slits 113 = .ok (.iload 4, 2) := by decide +kernel
theorem dL_slits_115 : decode cL_slits 115 = .ok (.aload_n 0, 1) := by decide +kernel
theorem dL_slits_116 : decode cL_slits 116 = .ok (.iload 6, 2) := by decide +kernel
theorem dL_slits_118 : decode cL_slits 118 = .ok (.iconst 3, 1) := by decide +kernel
theorem dL_slits_119 : decode cL_slits 119 = .ok (.invokestatic 109, 3) := by decide +kernel
theorem dL_slits_122 : decode cL_slits 122 = .ok (.iconst 1, 1) := by decide +kernel
theorem dL_slits_123 : decode cL_slits 123 = .ok (.if_icmp .ne 8, 3) := by decide +kernel
theorem dL_slits_126 : decode cL_slits 126 = .ok (.iload 7, 2) := by decide +kernel
theorem dL_slits_128 : decode cL_slits 128 = .ok (.goto 4, 3) := by decide +kernel
theorem dL_slits_131 : decode cL_slits 131 = .ok (.iconst 0, 1) := by decide +kernel
theorem dL_slits_132 : decode cL_slits 132 = .ok (.iadd, 1) := by decide +kernel
theorem dL_slits_133 : decode cL_slits 133 = .ok (.istore 4, 2) := by decide +kernel
theorem dL_slits_135 : decode cL_slits 135 = .ok (.iload 7, 2) := by decide +kernel
theorem dL_slits_137 : decode cL_slits 137 = .ok (.iload_n 1, 1) := by decide +kernel
theorem dL_slits_138 : decode cL_slits 138 = .ok (.if_icmp .le 70, 3) := by decide +kernel
theorem dL_slits_141 : decode cL_slits 141 = .ok (.aload_n 0, 1) := by decide +kernel
theorem dL_slits_142 : decode cL_slits 142 = .ok (.iload 6, 2) := by decide +kernel
theorem dL_slits_144 : decode cL_slits 144 = .ok (.iconst 2, 1) := by decide +kernel
theorem dL_slits_145 : decode cL_slits 145 = .ok (.invokestatic 109, 3) := by decide +kernel
theorem dL_slits_148 : decode cL_slits 148 = .ok (.aload_n 0, 1) := by decide +kernel
theorem dL_slits_149 : decode cL_slits 149 = .ok (.iconst 2, 1) := by decide +kernel
theorem dL_slits_150 : decode cL_slits 150 = .ok (.invokestatic 78, 3) := by decide +kernel
theorem dL_slits_153 : decode cL_slits 153 = .ok (.if_icmp .ge 55, 3) := by decide +kernel
theorem dL_slits_156 : decode cL_slits 156 = .ok (.iload 6, 2) := by decide +kernel
theorem dL_slits_158 : decode cL_slits 158 = .ok (.ifCond .eq 46, 3) := by decide +kernel
theorem dL_slits_161 : decode cL_slits 161 = .ok (.bipush 20, 2) := by decide +kernel
theorem dL_slits_163 : decode cL_slits 163 = .ok (.aload_n 0, 1) := by decide +kernel
theorem dL_slits_164 : decode cL_slits 164 = .ok (.iload 6, 2) := by decide +kernel
theorem dL_slits_166 : decode cL_slits 166 = .ok (.iconst 1, 1) := by decide +kernel
theorem dL_slits_167 : decode cL_slits 167 = .ok (.isub, 1) := by decide +kernel
theorem dL_slits_168 : decode cL_slits 168 = .ok (.iconst 0, 1) := by decide +kernel
theorem dL_slits_169 : decode cL_slits 169 = .ok (.invokestatic 109, 3) := by decide +kernel
theorem dL_slits_172 : decode cL_slits 172 = .ok (.imul, 1) := by decide +kernel
theorem dL_slits_173 : decode cL_slits 173 = .ok (.aload_n 0, 1) := by decide +kernel
theorem dL_slits_174 : decode cL_slits 174 = .ok (.iload 6, 2) := by decide +kernel
theorem dL_slits_176 : decode cL_slits 176 = .ok (.iconst 1, 1) := by decide +kernel
theorem dL_slits_177 : decode cL_slits 177 = .ok (.isub, 1) := by decide +kernel
theorem dL_slits_178 : decode cL_slits 178 = .ok (.iconst 1, 1) := by decide +kernel
theorem dL_slits_179 : decode cL_slits 179 = .ok (.invokestatic 109, 3) := by decide +kernel
theorem dL_slits_182 : decode cL_slits 182 = .ok (.iadd, 1) := by decide +kernel
theorem dL_slits_183 : decode cL_slits 183 = .ok (.bipush 20, 2) := by decide +kernel
theorem dL_slits_185 : decode cL_slits 185 = .ok (.aload_n 0, 1) := by decide +kernel
theorem dL_slits_186 : decode cL_slits 186 = .ok (.iload 6, 2) := by decide +kernel
theorem dL_slits_188 : decode cL_slits 188 = .ok (.iconst 0, 1) := by decide +kernel
theorem dL_slits_189 : decode cL_slits 189 = .ok (.invokestatic 109, 3) := by decide +kernel
theorem dL_slits_192 : decode cL_slits 192 = .ok (.imul, 1) := by decide +kernel
theorem dL_slits_193 : decode cL_slits 193 = .ok (.aload_n 0, 1) := by decide +kernel
theorem dL_slits_194 : decode cL_slits 194 = .ok (.iload 6, 2) := by decide +kernel
theorem dL_slits_196 : decode cL_slits 196 = .ok (.iconst 1, 1) := by decide +kernel
theorem dL_slits_197 : decode cL_slits 197 = .ok (.invokestatic 109, 3) := by decide +kernel
theorem dL_slits_200 : decode cL_slits 200 = .ok (.iadd, 1) := by decide +kernel
theorem dL_slits_201 : decode cL_slits 201 = .ok (.if_icmp .ge 7, 3) := by decide +kernel
theorem dL_slits_204 : decode cL_slits 204 = .ok (.iconst 1, 1) := by decide +kernel
theorem dL_slits_205 : decode cL_slits 205 = .ok (.goto 4, 3) := by decide +kernel
theorem dL_slits_208 : decode cL_slits 208 = .ok (.iconst 0, 1) := by decide +kernel
theorem dL_slits_209 : decode cL_slits 209 = .ok (.istore 5, 2) := by decide +kernel
theorem dL_slits_211 : decode cL_slits 211 = .ok (.iinc 6 1, 3) := by decide +kernel
theorem dL_slits_214 : decode cL_slits 214 = .ok (.goto (-141), 3) := by decide +kernel
theorem dL_slits_217 : decode cL_slits 217 = .ok (.iconst 2, 1) := by decide +kernel
theorem dL_slits_218 : decode cL_slits 218 = .ok (.istore 6, 2) := by decide +kernel
theorem dL_slits_220 : decode cL_slits 220 = .ok (.iload 6, 2) := by decide +kernel
theorem dL_slits_222 : decode cL_slits 222 = .ok (.bipush 17, 2) := by decide +kernel
theorem dL_slits_224 : decode cL_slits 224 = .ok (.if_icmp .ge 38, 3) := by decide +kernel
theorem dL_slits_227 : decode cL_slits 227 = .ok (.iload 5, 2) := by decide +kernel
theorem dL_slits_229 : decode cL_slits 229 = .ok (.ifCond .eq 33, 3) := by decide +kernel
theorem dL_slits_232 : decode cL_slits 232 = .ok (.aload_n 0, 1) := by decide +kernel
theorem dL_slits_233 : decode cL_slits 233 = .ok (.iload 6, 2) := by decide +kernel
theorem dL_slits_235 : decode cL_slits 235 = .ok (.invokestatic 107, 3) := by decide +kernel
theorem dL_slits_238 : decode cL_slits 238 = .ok (.aload_n 0, 1) := by decide +kernel
theorem dL_slits_239 : decode cL_slits 239 = .ok (.iload 6, 2) := by decide +kernel
theorem dL_slits_241 : decode cL_slits 241 = .ok (.iconst 1, 1) := by decide +kernel
theorem dL_slits_242 : decode cL_slits 242 = .ok (.isub, 1) := by decide +kernel
theorem dL_slits_243 : decode cL_slits 243 = .ok (.invokestatic 107, 3) := by decide +kernel
theorem dL_slits_246 : decode cL_slits 246 = .ok (.if_icmp .gt 7, 3) := by decide +kernel
theorem dL_slits_249 : decode cL_slits 249 = .ok (.iconst 1, 1) := by decide +kernel
theorem dL_slits_250 : decode cL_slits 250 = .ok (.goto 4, 3) := by decide +kernel
theorem dL_slits_253 : decode cL_slits 253 = .ok (.iconst 0, 1) := by decide +kernel
theorem dL_slits_254 : decode cL_slits 254 = .ok (.istore 5, 2) := by decide +kernel
theorem dL_slits_256 : decode cL_slits 256 = .ok (.iinc 6 1, 3) := by decide +kernel
theorem dL_slits_259 : decode cL_slits 259 = .ok (.goto (-39), 3) := by decide +kernel
theorem dL_slits_262 : decode cL_slits 262 = .ok (.iload 5, 2) := by decide +kernel
theorem dL_slits_264 : decode cL_slits 264 = .ok (.ifCond .eq 28, 3) := by decide +kernel
theorem dL_slits_267 : decode cL_slits 267 = .ok (.aload_n 0, 1) := by decide +kernel
theorem dL_slits_268 : decode cL_slits 268 = .ok (.bipush 7, 2) := by decide +kernel
theorem dL_slits_270 : decode cL_slits 270 = .ok (.invokestatic 78, 3) := by decide +kernel
theorem dL_slits_273 : decode cL_slits 273 = .ok (.iload_n 3, 1) := by decide +kernel
theorem dL_slits_274 : decode cL_slits 274 = .ok (.if_icmp .ne 18, 3) := by decide +kernel
theorem dL_slits_277 : decode cL_slits 277 = .ok (.aload_n 0, 1) := by decide +kernel
theorem dL_slits_278 : decode cL_slits 278 = .ok (.bipush 8, 2) := by decide +kernel
theorem dL_slits_280 : decode cL_slits 280 = .ok (.invokestatic 78, 3) := by decide +kernel
theorem dL_slits_283 : decode cL_slits 283 = .ok (.iload 4, 2) := by decide +kernel
theorem dL_slits_285 : decode cL_slits 285 = .ok (.if_icmp .ne 7, 3) := by decide +kernel
theorem dL_slits_288 : decode cL_slits 288 = .ok (.iconst 1, 1) := by decide +kernel
theorem dL_slits_289 : decode cL_slits 289 = .ok (.goto 4, 3) := by decide +kernel
theorem dL_slits_292 : decode cL_slits 292 = .ok (.iconst 0, 1) := by decide +kernel
theorem dL_slits_293 : decode cL_slits 293 = .ok (.ireturn, 1) := by decide +kernel
theorem dL_holds_0 : decode cL_holds 0 = .ok (.aload_n 0, 1) := by decide +kernel
theorem dL_holds_1 : decode cL_holds 1 = .ok (.invokestatic 112, 3) := by decide +kernel
theorem dL_holds_4 : decode cL_holds 4 = .ok (.ifCond .eq 21, 3) := by decide +kernel
theorem dL_holds_7 : decode cL_holds 7 = .ok (.aload_n 0, 1) := by decide +kernel
theorem dL_holds_8 : decode cL_holds 8 = .ok (.invokestatic 116, 3) := by decide +kernel
theorem dL_holds_11 : decode cL_holds 11 = .ok (.ifCond .eq 14, 3) := by decide +kernel
theorem dL_holds_14 : decode cL_holds 14 = .ok (.aload_n 0, 1) := by decide +kernel
theorem dL_holds_15 : decode cL_holds 15 = .ok (.invokestatic 119, 3) := by decide +kernel
theorem dL_holds_18 : decode cL_holds 18 = .ok (.ifCond .eq 7, 3) := by decide +kernel
theorem dL_holds_21 : decode cL_holds 21 = .ok (.iconst 1, 1) := by decide +kernel
theorem dL_holds_22 : decode cL_holds 22 = .ok (.goto 4, 3) := by decide +kernel
theorem dL_holds_25 : decode cL_holds 25 = .ok (.iconst 0, 1) := by decide +kernel
theorem dL_holds_26 : decode cL_holds 26 = .ok (.ireturn, 1) := by decide +kernel
theorem dL_law_0 : decode cL_law 0 = .ok (.new 10, 3) := by decide +kernel
theorem dL_law_3 : decode cL_law 3 = .ok (.dup, 1) := by decide +kernel
theorem dL_law_4 : decode cL_law 4 = .ok (.invokespecial 122, 3) := by decide +kernel
theorem dL_law_7 : decode cL_law 7 = .ok (.astore_n 1, 1) := by decide +kernel
theorem dL_law_8 : decode cL_law 8 = .ok (.aload_n 1, 1) := by decide +kernel
theorem dL_law_9 : decode cL_law 9 = .ok (.invokestatic 123, 3) := by decide +kernel
theorem dL_law_12 : decode cL_law 12 = .ok (.ifCond .eq 34, 3) := by decide +kernel
theorem dL_law_15 : decode cL_law 15 = .ok (.aload_n 1, 1) := by decide +kernel
theorem dL_law_16 : decode cL_law 16 = .ok (.iconst 1, 1) := by decide +kernel
theorem dL_law_17 : decode cL_law 17 = .ok (.aload_n 0, 1) := by decide +kernel
theorem dL_law_18 : decode cL_law 18 = .ok (.iconst 0, 1) := by decide +kernel
theorem dL_law_19 : decode cL_law 19 = .ok (.invokestatic 126, 3) := by decide +kernel
theorem dL_law_22 : decode cL_law 22 = .ok (.bipush 20, 2) := by decide +kernel
theorem dL_law_24 : decode cL_law 24 = .ok (.irem, 1) := by decide +kernel
theorem dL_law_25 : decode cL_law 25 = .ok (.iadd, 1) := by decide +kernel
theorem dL_law_26 : decode cL_law 26 = .ok (.iconst 1, 1) := by decide +kernel
theorem dL_law_27 : decode cL_law 27 = .ok (.aload_n 0, 1) := by decide +kernel
theorem dL_law_28 : decode cL_law 28 = .ok (.iconst 1, 1) := by decide +kernel
theorem dL_law_29 : decode cL_law 29 = .ok (.invokestatic 126, 3) := by decide +kernel
theorem dL_law_32 : decode cL_law 32 = .ok (.bipush 16, 2) := by decide +kernel
theorem dL_law_34 : decode cL_law 34 = .ok (.irem, 1) := by decide +kernel
theorem dL_law_35 : decode cL_law 35 = .ok (.iadd, 1) := by decide +kernel
theorem dL_law_36 : decode cL_law 36 = .ok (.invokestatic 129, 3) := by decide +kernel
theorem dL_law_39 : decode cL_law 39 = .ok (.ifCond .ne 7, 3) := by decide +kernel
theorem dL_law_42 : decode cL_law 42 = .ok (.iconst 1, 1) := by decide +kernel
theorem dL_law_43 : decode cL_law 43 = .ok (.goto 4, 3) := by decide +kernel
theorem dL_law_46 : decode cL_law 46 = .ok (.iconst 0, 1) := by decide +kernel
theorem dL_law_47 : decode cL_law 47 = .ok (.istore_n 2, 1) := by decide +kernel
theorem dL_law_48 : decode cL_law 48 = .ok (.iconst 0, 1) := by decide +kernel
theorem dL_law_49 : decode cL_law 49 = .ok (.istore_n 3, 1) := by decide +kernel
theorem dL_law_50 : decode cL_law 50 = .ok (.iload_n 3, 1) := by decide +kernel
theorem dL_law_51 : decode cL_law 51 = .ok (.bipush 9, 2) := by decide +kernel
theorem dL_law_53 : decode cL_law 53 = .ok (.if_icmp .ge 59, 3) := by decide +kernel
theorem dL_law_56 : decode cL_law 56 = .ok (.iload_n 2, 1) := by decide +kernel
theorem dL_law_57 : decode cL_law 57 = .ok (.ifCond .eq 55, 3) := by decide +kernel
theorem dL_law_60 : decode cL_law 60 = .ok (.aload_n 0, 1) := by decide +kernel
theorem dL_law_61 : decode cL_law 61 = .ok (.iconst 2, 1) := by decide +kernel
theorem dL_law_62 : decode cL_law 62 = .ok (.iload_n 3, 1) := by decide +kernel
theorem dL_law_63 : decode cL_law 63 = .ok (.iadd, 1) := by decide +kernel
theorem dL_law_64 : decode cL_law 64 = .ok (.invokestatic 126, 3) := by decide +kernel
theorem dL_law_67 : decode cL_law 67 = .ok (.istore 4, 2) := by decide +kernel
theorem dL_law_69 : decode cL_law 69 = .ok (.aload_n 1, 1) := by decide +kernel
theorem dL_law_70 : decode cL_law 70 = .ok (.iload_n 3, 1) := by decide +kernel
theorem dL_law_71 : decode cL_law 71 = .ok (.iconst 5, 1) := by decide +kernel
theorem dL_law_72 : decode cL_law 72 = .ok (.irem, 1) := by decide +kernel
theorem dL_law_73 : decode cL_law 73 = .ok (.iconst 1, 1) := by decide +kernel
theorem dL_law_74 : decode cL_law 74 = .ok (.iload 4, 2) := by decide +kernel
theorem dL_law_76 : decode cL_law 76 = .ok (.sipush 300, 3) := by decide +kernel
theorem dL_law_79 : decode cL_law 79 = .ok (.irem, 1) := by decide +kernel
theorem dL_law_80 : decode cL_law 80 = .ok (.iadd, 1) := by decide +kernel
theorem dL_law_81 : decode cL_law 81 = .ok (.ldc 132, 2) := by decide +kernel
theorem dL_law_83 : decode cL_law 83 = .ok (.iload 4, 2) := by decide +kernel
theorem dL_law_85 : decode cL_law 85 = .ok (.sipush 512, 3) := by decide +kernel
theorem dL_law_88 : decode cL_law 88 = .ok (.idiv, 1) := by decide +kernel
theorem dL_law_89 : decode cL_law 89 = .ok (.ldc 133, 2) := by decide +kernel
theorem dL_law_91 : decode cL_law 91 = .ok (.irem, 1) := by decide +kernel
theorem dL_law_92 : decode cL_law 92 = .ok (.iadd, 1) := by decide +kernel
theorem dL_law_93 : decode cL_law 93 = .ok (.invokestatic 134, 3) := by decide +kernel
theorem dL_law_96 : decode cL_law 96 = .ok (.iload_n 3, 1) := by decide +kernel
theorem dL_law_97 : decode cL_law 97 = .ok (.if_icmp .ne 7, 3) := by decide +kernel
theorem dL_law_100 : decode cL_law 100 = .ok (.iconst 1, 1) := by decide +kernel
theorem dL_law_101 : decode cL_law 101 = .ok (.goto 4, 3) := by decide +kernel
theorem dL_law_104 : decode cL_law 104 = .ok (.iconst 0, 1) := by decide +kernel
theorem dL_law_105 : decode cL_law 105 = .ok (.istore_n 2, 1) := by decide +kernel
theorem dL_law_106 : decode cL_law 106 = .ok (.iinc 3 1, 3) := by decide +kernel
theorem dL_law_109 : decode cL_law 109 = .ok (.goto (-59), 3) := by decide +kernel
theorem dL_law_112 : decode cL_law 112 = .ok (.iconst 0, 1) := by decide +kernel
theorem dL_law_113 : decode cL_law 113 = .ok (.istore_n 3, 1) := by decide +kernel
theorem dL_law_114 : decode cL_law 114 = .ok (.iload_n 3, 1) := by decide +kernel
theorem dL_law_115 : decode cL_law 115 = .ok (.bipush 36, 2) := by decide +kernel
theorem dL_law_117 : decode cL_law 117 = .ok (.if_icmp .ge 493, 3) := by decide +kernel
theorem dL_law_120 : decode cL_law 120 = .ok (.iload_n 2, 1) := by decide +kernel
theorem dL_law_121 : decode cL_law 121 = .ok (.ifCond .eq 489, 3) := by decide +kernel
theorem dL_law_124 : decode cL_law 124 = .ok (.aload_n 0, 1) := by decide +kernel
theorem dL_law_125 : decode cL_law 125 = .ok (.bipush 11, 2) := by decide +kernel
theorem dL_law_127 : decode cL_law 127 = .ok (.iload_n 3, 1) := by decide +kernel
theorem dL_law_128 : decode cL_law 128 = .ok (.iadd, 1) := by decide +kernel
theorem dL_law_129 : decode cL_law 129 = .ok (.invokestatic 126, 3) := by decide +kernel
theorem dL_law_132 : decode cL_law 132 = .ok (.istore 4, 2) := by decide +kernel
theorem dL_law_134 : decode cL_law 134 = .ok (.iload 4, 2) := by decide +kernel
theorem dL_law_136 : decode cL_law 136 = .ok (.bipush 8, 2) := by decide +kernel
theorem dL_law_138 : decode cL_law 138 = .ok (.idiv, 1) := by decide +kernel
theorem dL_law_139 : decode cL_law 139 = .ok (.istore 5, 2) := by decide +kernel
theorem dL_law_141 : decode cL_law 141 = .ok (.aload_n 1, 1) := by decide +kernel
theorem dL_law_142 : decode cL_law 142 = .ok (.iconst 0, 1) := by decide +kernel
theorem dL_law_143 : decode cL_law 143 = .ok (.invokestatic 78, 3) := by decide +kernel
theorem dL_law_146 : decode cL_law 146 = .ok (.istore 6, 2) := by decide +kernel
theorem dL_law_148 : decode cL_law 148 = .ok (.aload_n 1, 1) := by decide +kernel
theorem dL_law_149 : decode cL_law 149 = .ok (.iconst 1, 1) := by decide +kernel
theorem dL_law_150 : decode cL_law 150 = .ok (.invokestatic 78, 3) := by decide +kernel
theorem dL_law_153 : decode cL_law 153 = .ok (.istore 7, 2) := by decide +kernel
theorem dL_law_155 : decode cL_law 155 = .ok (.aload_n 1, 1) := by decide +kernel
theorem dL_law_156 : decode cL_law 156 = .ok (.iconst 2, 1) := by decide +kernel
theorem dL_law_157 : decode cL_law 157 = .ok (.invokestatic 78, 3) := by decide +kernel
theorem dL_law_160 : decode cL_law 160 = .ok (.istore 8, 2) := by decide +kernel
theorem dL_law_162 : decode cL_law 162 = .ok (.iload 4, 2) := by decide +kernel
theorem dL_law_164 : decode cL_law 164 = .ok (.bipush 8, 2) := by decide +kernel
theorem dL_law_166 : decode cL_law 166 = .ok (.irem, 1) := by decide +kernel
theorem dL_law_167 : decode cL_law 167 = .ok (.tableswitch 370 0 5 #[37, 37, 134, 173, 243, 330], 37) := by decide +kernel
theorem dL_law_204 : decode cL_law 204 = .ok (.iload 5, 2) := by decide +kernel
theorem dL_law_206 : decode cL_law 206 = .ok (.iload 6, 2) := by decide +kernel
theorem dL_law_208 : decode cL_law 208 = .ok (.irem, 1) := by decide +kernel
theorem dL_law_209 : decode cL_law 209 = .ok (.istore 9, 2) := by decide +kernel
theorem dL_law_211 : decode cL_law 211 = .ok (.iload 5, 2) := by decide +kernel
theorem dL_law_213 : decode cL_law 213 = .ok (.bipush 32, 2) := by decide +kernel
theorem dL_law_215 : decode cL_law 215 = .ok (.idiv, 1) := by decide +kernel
theorem dL_law_216 : decode cL_law 216 = .ok (.iload 7, 2) := by decide +kernel
theorem dL_law_218 : decode cL_law 218 = .ok (.irem, 1) := by decide +kernel
theorem dL_law_219 : decode cL_law 219 = .ok (.istore 10, 2) := by decide +kernel
theorem dL_law_221 : decode cL_law 221 = .ok (.aload_n 1, 1) := by decide +kernel
theorem dL_law_222 : decode cL_law 222 = .ok (.iload 9, 2) := by decide +kernel
theorem dL_law_224 : decode cL_law 224 = .ok (.iload 10, 2) := by decide +kernel
theorem dL_law_226 : decode cL_law 226 = .ok (.iload 9, 2) := by decide +kernel
theorem dL_law_228 : decode cL_law 228 = .ok (.iload 5, 2) := by decide +kernel
theorem dL_law_230 : decode cL_law 230 = .ok (.sipush 512, 3) := by decide +kernel
theorem dL_law_233 : decode cL_law 233 = .ok (.idiv, 1) := by decide +kernel
theorem dL_law_234 : decode cL_law 234 = .ok (.iload 6, 2) := by decide +kernel
theorem dL_law_236 : decode cL_law 236 = .ok (.iload 9, 2) := by decide +kernel
theorem dL_law_238 : decode cL_law 238 = .ok (.isub, 1) := by decide +kernel
theorem dL_law_239 : decode cL_law 239 = .ok (.irem, 1) := by decide +kernel
theorem dL_law_240 : decode cL_law 240 = .ok (.iadd, 1) := by decide +kernel
theorem dL_law_241 : decode cL_law 241 = .ok (.iload 10, 2) := by decide +kernel
theorem dL_law_243 : decode cL_law 243 = .ok (.iload 5, 2) := by decide +kernel
theorem dL_law_245 : decode cL_law 245 = .ok (.sipush 4096, 3) := by decide +kernel
theorem dL_law_248 : decode cL_law 248 = .ok (.idiv, 1) := by decide +kernel
theorem dL_law_249 : decode cL_law 249 = .ok (.iload 7, 2) := by decide +kernel
theorem dL_law_251 : decode cL_law 251 = .ok (.iload 10, 2) := by decide +kernel
theorem dL_law_253 : decode cL_law 253 = .ok (.isub, 1) := by decide +kernel
theorem dL_law_254 : decode cL_law 254 = .ok (.irem, 1) := by decide +kernel
theorem dL_law_255 : decode cL_law 255 = .ok (.iadd, 1) := by decide +kernel
theorem dL_law_256 : decode cL_law 256 = .ok (.iload 5, 2) := by decide +kernel
theorem dL_law_258 : decode cL_law 258 = .ok (.ldc 137, 2) := by decide +kernel
theorem dL_law_260 : decode cL_law 260 = .ok (.idiv, 1) := by decide +kernel
theorem dL_law_261 : decode cL_law 261 = .ok (.iconst 5, 1) := by decide +kernel
theorem dL_law_262 : decode cL_law 262 = .ok (.irem, 1) := by decide +kernel
theorem dL_law_263 : decode cL_law 263 = .ok (.invokestatic 138, 3) := by decide +kernel
theorem dL_law_266 : decode cL_law 266 = .ok (.istore 11, 2) := by decide +kernel
theorem dL_law_268 : decode cL_law 268 = .ok (.iload 11, 2) := by decide +kernel
theorem dL_law_270 : decode cL_law 270 = .ok (.ifCond .lt 26, 3) := by decide +kernel
theorem dL_law_273 : decode cL_law 273 = .ok (.aload_n 1, 1) := by decide +kernel
theorem dL_law_274 : decode cL_law 274 = .ok (.iload 9, 2) := by decide +kernel
theorem dL_law_276 : decode cL_law 276 = .ok (.iload 10, 2) := by decide +kernel
theorem dL_law_278 : decode cL_law 278 = .ok (.iconst 0, 1) := by decide +kernel
theorem dL_law_279 : decode cL_law 279 = .ok (.invokestatic 87, 3) := by decide +kernel
theorem dL_law_282 : decode cL_law 282 = .ok (.iload 5, 2) := by decide +kernel
theorem dL_law_284 : decode cL_law 284 = .ok (.ldc 137, 2) := by decide +kernel
theorem dL_law_286 : decode cL_law 286 = .ok (.idiv, 1) := by decide +kernel
theorem dL_law_287 : decode cL_law 287 = .ok (.iconst 5, 1) := by decide +kernel
theorem dL_law_288 : decode cL_law 288 = .ok (.irem, 1) := by decide +kernel
theorem dL_law_289 : decode cL_law 289 = .ok (.if_icmp .ne 7, 3) := by decide +kernel
theorem dL_law_292 : decode cL_law 292 = .ok (.iconst 1, 1) := by decide +kernel
theorem dL_law_293 : decode cL_law 293 = .ok (.goto 4, 3) := by decide +kernel
theorem dL_law_296 : decode cL_law 296 = .ok (.iconst 0, 1) := by decide +kernel
theorem dL_law_297 : decode cL_law 297 = .ok (.istore_n 2, 1) := by decide +kernel
theorem dL_law_298 : decode cL_law 298 = .ok (.goto 289, 3) := by decide +kernel
theorem dL_law_301 : decode cL_law 301 = .ok (.aload_n 1, 1) := by decide +kernel
theorem dL_law_302 : decode cL_law 302 = .ok (.iload 5, 2) := by decide +kernel
theorem dL_law_304 : decode cL_law 304 = .ok (.iload 6, 2) := by decide +kernel
theorem dL_law_306 : decode cL_law 306 = .ok (.irem, 1) := by decide +kernel
theorem dL_law_307 : decode cL_law 307 = .ok (.iload 5, 2) := by decide +kernel
theorem dL_law_309 : decode cL_law 309 = .ok (.bipush 32, 2) := by decide +kernel
theorem dL_law_311 : decode cL_law 311 = .ok (.idiv, 1) := by decide +kernel
theorem dL_law_312 : decode cL_law 312 = .ok (.bipush 6, 2) := by decide +kernel
theorem dL_law_314 : decode cL_law 314 = .ok (.irem, 1) := by decide +kernel
theorem dL_law_315 : decode cL_law 315 = .ok (.invokestatic 142, 3) := by decide +kernel
theorem dL_law_318 : decode cL_law 318 = .ok (.iconst 1, 1) := by decide +kernel
theorem dL_law_319 : decode cL_law 319 = .ok (.if_icmp .lt 16, 3) := by decide +kernel
theorem dL_law_322 : decode cL_law 322 = .ok (.aload_n 1, 1) := by decide +kernel
theorem dL_law_323 : decode cL_law 323 = .ok (.iconst 4, 1) := by decide +kernel
theorem dL_law_324 : decode cL_law 324 = .ok (.invokestatic 78, 3) := by decide +kernel
theorem dL_law_327 : decode cL_law 327 = .ok (.iconst 1, 1) := by decide +kernel
theorem dL_law_328 : decode cL_law 328 = .ok (.if_icmp .lt 7, 3) := by decide +kernel
theorem dL_law_331 : decode cL_law 331 = .ok (.iconst 1, 1) := by decide +kernel
theorem dL_law_332 : decode cL_law 332 = .ok (.goto 4, 3) := by decide +kernel
theorem dL_law_335 : decode cL_law 335 = .ok (.iconst 0, 1) := by decide +kernel
theorem dL_law_336 : decode cL_law 336 = .ok (.istore_n 2, 1) := by decide +kernel
theorem dL_law_337 : decode cL_law 337 = .ok (.goto 250, 3) := by decide +kernel
theorem dL_law_340 : decode cL_law 340 = .ok (.iconst 1, 1) := by decide +kernel
theorem dL_law_341 : decode cL_law 341 = .ok (.iload 5, 2) := by decide +kernel
theorem dL_law_343 : decode cL_law 343 = .ok (.iconst 4, 1) := by decide +kernel
theorem dL_law_344 : decode cL_law 344 = .ok (.irem, 1) := by decide +kernel
theorem dL_law_345 : decode cL_law 345 = .ok (.iadd, 1) := by decide +kernel
theorem dL_law_346 : decode cL_law 346 = .ok (.istore 12, 2) := by decide +kernel
theorem dL_law_348 : decode cL_law 348 = .ok (.aload_n 1, 1) := by decide +kernel
theorem dL_law_349 : decode cL_law 349 = .ok (.iload 12, 2) := by decide +kernel
theorem dL_law_351 : decode cL_law 351 = .ok (.invokestatic 145, 3) := by decide +kernel
theorem dL_law_354 : decode cL_law 354 = .ok (.istore 13, 2) := by decide +kernel
theorem dL_law_356 : decode cL_law 356 = .ok (.iload 12, 2) := by decide +kernel
theorem dL_law_358 : decode cL_law 358 = .ok (.iload 8, 2) := by decide +kernel
theorem dL_law_360 : decode cL_law 360 = .ok (.if_icmp .le 18, 3) := by decide +kernel
theorem dL_law_363 : decode cL_law 363 = .ok (.iload 13, 2) := by decide +kernel
theorem dL_law_365 : decode cL_law 365 = .ok (.ldc 24, 2) := by decide +kernel
theorem dL_law_367 : decode cL_law 367 = .ok (.if_icmp .ne 7, 3) := by decide +kernel
theorem dL_law_370 : decode cL_law 370 = .ok (.iconst 1, 1) := by decide +kernel
theorem dL_law_371 : decode cL_law 371 = .ok (.goto 35, 3) := by decide +kernel
theorem dL_law_374 : decode cL_law 374 = .ok (.iconst 0, 1) := by decide +kernel
theorem dL_law_375 : decode cL_law 375 = .ok (.goto 31, 3) := by decide +kernel
theorem dL_law_378 : decode cL_law 378 = .ok (.iload 13, 2) := by decide +kernel
theorem dL_law_380 : decode cL_law 380 = .ok (.iload 12, 2) := by decide +kernel
theorem dL_law_382 : decode cL_law 382 = .ok (.iload 6, 2) := by decide +kernel
theorem dL_law_384 : decode cL_law 384 = .ok (.imul, 1) := by decide +kernel
theorem dL_law_385 : decode cL_law 385 = .ok (.if_icmp .ne 20, 3) := by decide +kernel
theorem dL_law_388 : decode cL_law 388 = .ok (.aload_n 1, 1) := by decide +kernel
theorem dL_law_389 : decode cL_law 389 = .ok (.iconst 2, 1) := by decide +kernel
theorem dL_law_390 : decode cL_law 390 = .ok (.invokestatic 78, 3) := by decide +kernel
theorem dL_law_393 : decode cL_law 393 = .ok (.iload 8, 2) := by decide +kernel
theorem dL_law_395 : decode cL_law 395 = .ok (.iload 12, 2) := by decide +kernel
theorem dL_law_397 : decode cL_law 397 = .ok (.isub, 1) := by decide +kernel
theorem dL_law_398 : decode cL_law 398 = .ok (.if_icmp .ne 7, 3) := by decide +kernel
theorem dL_law_401 : decode cL_law 401 = .ok (.iconst 1, 1) := by decide +kernel
theorem dL_law_402 : decode cL_law 402 = .ok (.goto 4, 3) := by decide +kernel
theorem dL_law_405 : decode cL_law 405 = .ok (.iconst 0, 1) := by decide +kernel
theorem dL_law_406 : decode cL_law 406 = .ok (.istore_n 2, 1) := by decide +kernel
theorem dL_law_407 : decode cL_law 407 = .ok (.goto 180, 3) := by decide +kernel
theorem dL_law_410 : decode cL_law 410 = .ok (.aload_n 1, 1) := by decide +kernel
theorem dL_law_411 : decode cL_law 411 = .ok (.bipush 6, 2) := by decide +kernel
theorem dL_law_413 : decode cL_law 413 = .ok (.invokestatic 78, 3) := by decide +kernel
theorem dL_law_416 : decode cL_law 416 = .ok (.istore 14, 2) := by decide +kernel
theorem dL_law_418 : decode cL_law 418 = .ok (.aload_n 1, 1) := by decide +kernel
theorem dL_law_419 : decode cL_law 419 = .ok (.bipush 7, 2) := by decide +kernel
theorem dL_law_421 : decode cL_law 421 = .ok (.invokestatic 78, 3) := by decide +kernel
theorem dL_law_424 : decode cL_law 424 = .ok (.istore 15, 2) := by decide +kernel
theorem dL_law_426 : decode cL_law 426 = .ok (.aload_n 1, 1) := by decide +kernel
theorem dL_law_427 : decode cL_law 427 = .ok (.iload 5, 2) := by decide +kernel
theorem dL_law_429 : decode cL_law 429 = .ok (.iload 14, 2) := by decide +kernel
theorem dL_law_431 : decode cL_law 431 = .ok (.iconst 1, 1) := by decide +kernel
theorem dL_law_432 : decode cL_law 432 = .ok (.iadd, 1) := by decide +kernel
theorem dL_law_433 : decode cL_law 433 = .ok (.irem, 1) := by decide +kernel
theorem dL_law_434 : decode cL_law 434 = .ok (.invokestatic 148, 3) := by decide +kernel
theorem dL_law_437 : decode cL_law 437 = .ok (.istore 16, 2) := by decide +kernel
theorem dL_law_439 : decode cL_law 439 = .ok (.iload 16, 2) := by decide +kernel
theorem dL_law_441 : decode cL_law 441 = .ok (.ifCond .ge 22, 3) := by decide +kernel
theorem dL_law_444 : decode cL_law 444 = .ok (.aload_n 1, 1) := by decide +kernel
theorem dL_law_445 : decode cL_law 445 = .ok (.bipush 7, 2) := by decide +kernel
theorem dL_law_447 : decode cL_law 447 = .ok (.invokestatic 78, 3) := by decide +kernel
theorem dL_law_450 : decode cL_law 450 = .ok (.iload 15, 2) := by decide +kernel
theorem dL_law_452 : decode cL_law 452 = .ok (.if_icmp .ne 7, 3) := by decide +kernel
theorem dL_law_455 : decode cL_law 455 = .ok (.iconst 1, 1) := by decide +kernel
theorem dL_law_456 : decode cL_law 456 = .ok (.goto 37, 3) := by decide +kernel
theorem dL_law_459 : decode cL_law 459 = .ok (.iconst 0, 1) := by decide +kernel
theorem dL_law_460 : decode cL_law 460 = .ok (.goto 33, 3) := by decide +kernel
theorem dL_law_463 : decode cL_law 463 = .ok (.aload_n 1, 1) := by decide +kernel
theorem dL_law_464 : decode cL_law 464 = .ok (.bipush 7, 2) := by decide +kernel
theorem dL_law_466 : decode cL_law 466 = .ok (.invokestatic 78, 3) := by decide +kernel
theorem dL_law_469 : decode cL_law 469 = .ok (.iload 15, 2) := by decide +kernel
theorem dL_law_471 : decode cL_law 471 = .ok (.iconst 1, 1) := by decide +kernel
theorem dL_law_472 : decode cL_law 472 = .ok (.iadd, 1) := by decide +kernel
theorem dL_law_473 : decode cL_law 473 = .ok (.if_icmp .ne 19, 3) := by decide +kernel
theorem dL_law_476 : decode cL_law 476 = .ok (.iload 16, 2) := by decide +kernel
theorem dL_law_478 : decode cL_law 478 = .ok (.iload 14, 2) := by decide +kernel
theorem dL_law_480 : decode cL_law 480 = .ok (.iload 15, 2) := by decide +kernel
theorem dL_law_482 : decode cL_law 482 = .ok (.isub, 1) := by decide +kernel
theorem dL_law_483 : decode cL_law 483 = .ok (.iconst 1, 1) := by decide +kernel
theorem dL_law_484 : decode cL_law 484 = .ok (.isub, 1) := by decide +kernel
theorem dL_law_485 : decode cL_law 485 = .ok (.if_icmp .ne 7, 3) := by decide +kernel
theorem dL_law_488 : decode cL_law 488 = .ok (.iconst 1, 1) := by decide +kernel
theorem dL_law_489 : decode cL_law 489 = .ok (.goto 4, 3) := by decide +kernel
theorem dL_law_492 : decode cL_law 492 = .ok (.iconst 0, 1) := by decide +kernel
theorem dL_law_493 : decode cL_law 493 = .ok (.istore_n 2, 1) := by decide +kernel
theorem dL_law_494 : decode cL_law 494 = .ok (.goto 93, 3) := by decide +kernel
theorem dL_law_497 : decode cL_law 497 = .ok (.aload_n 1, 1) := by decide +kernel
theorem dL_law_498 : decode cL_law 498 = .ok (.iconst 1, 1) := by decide +kernel
theorem dL_law_499 : decode cL_law 499 = .ok (.iload 5, 2) := by decide +kernel
theorem dL_law_501 : decode cL_law 501 = .ok (.bipush 6, 2) := by decide +kernel
theorem dL_law_503 : decode cL_law 503 = .ok (.irem, 1) := by decide +kernel
theorem dL_law_504 : decode cL_law 504 = .ok (.iadd, 1) := by decide +kernel
theorem dL_law_505 : decode cL_law 505 = .ok (.invokestatic 151, 3) := by decide +kernel
theorem dL_law_508 : decode cL_law 508 = .ok (.iconst 1, 1) := by decide +kernel
theorem dL_law_509 : decode cL_law 509 = .ok (.if_icmp .lt 23, 3) := by decide +kernel
theorem dL_law_512 : decode cL_law 512 = .ok (.aload_n 1, 1) := by decide +kernel
theorem dL_law_513 : decode cL_law 513 = .ok (.bipush 13, 2) := by decide +kernel
theorem dL_law_515 : decode cL_law 515 = .ok (.invokestatic 78, 3) := by decide +kernel
theorem dL_law_518 : decode cL_law 518 = .ok (.iconst 1, 1) := by decide +kernel
theorem dL_law_519 : decode cL_law 519 = .ok (.iload 5, 2) := by decide +kernel
theorem dL_law_521 : decode cL_law 521 = .ok (.bipush 6, 2) := by decide +kernel
theorem dL_law_523 : decode cL_law 523 = .ok (.irem, 1) := by decide +kernel
theorem dL_law_524 : decode cL_law 524 = .ok (.iadd, 1) := by decide +kernel
theorem dL_law_525 : decode cL_law 525 = .ok (.if_icmp .ne 7, 3) := by decide +kernel
theorem dL_law_528 : decode cL_law 528 = .ok (.iconst 1, 1) := by decide +kernel
theorem dL_law_529 : decode cL_law 529 = .ok (.goto 4, 3) := by decide +kernel
theorem dL_law_532 : decode cL_law 532 = .ok (.iconst 0, 1) := by decide +kernel
theorem dL_law_533 : decode cL_law 533 = .ok (.istore_n 2, 1) := by decide +kernel
theorem dL_law_534 : decode cL_law 534 = .ok (.goto 53, 3) := by decide +kernel
theorem dL_law_537 : decode cL_law 537 = .ok (.aload_n 1, 1) := by decide +kernel
theorem dL_law_538 : decode cL_law 538 = .ok (.iconst 1, 1) := by decide +kernel
theorem dL_law_539 : decode cL_law 539 = .ok (.iload 5, 2) := by decide +kernel
theorem dL_law_541 : decode cL_law 541 = .ok (.bipush 6, 2) := by decide +kernel
theorem dL_law_543 : decode cL_law 543 = .ok (.irem, 1) := by decide +kernel
theorem dL_law_544 : decode cL_law 544 = .ok (.iadd, 1) := by decide +kernel
theorem dL_law_545 : decode cL_law 545 = .ok (.invokestatic 154, 3) := by decide +kernel
theorem dL_law_548 : decode cL_law 548 = .ok (.istore 17, 2) := by decide +kernel
theorem dL_law_550 : decode cL_law 550 = .ok (.iload 17, 2) := by decide +kernel
theorem dL_law_552 : decode cL_law 552 = .ok (.ifCond .lt 33, 3) := by decide +kernel
theorem dL_law_555 : decode cL_law 555 = .ok (.aload_n 1, 1) := by decide +kernel
theorem dL_law_556 : decode cL_law 556 = .ok (.iconst 2, 1) := by decide +kernel
theorem dL_law_557 : decode cL_law 557 = .ok (.invokestatic 78, 3) := by decide +kernel
theorem dL_law_560 : decode cL_law 560 = .ok (.iload 8, 2) := by decide +kernel
theorem dL_law_562 : decode cL_law 562 = .ok (.iload 17, 2) := by decide +kernel
theorem dL_law_564 : decode cL_law 564 = .ok (.iadd, 1) := by decide +kernel
theorem dL_law_565 : decode cL_law 565 = .ok (.if_icmp .ne 20, 3) := by decide +kernel
theorem dL_law_568 : decode cL_law 568 = .ok (.iload 17, 2) := by decide +kernel
theorem dL_law_570 : decode cL_law 570 = .ok (.ifCond .eq 11, 3) := by decide +kernel
theorem dL_law_573 : decode cL_law 573 = .ok (.aload_n 1, 1) := by decide +kernel
theorem dL_law_574 : decode cL_law 574 = .ok (.iconst 4, 1) := by decide +kernel
theorem dL_law_575 : decode cL_law 575 = .ok (.invokestatic 78, 3) := by decide +kernel
theorem dL_law_578 : decode cL_law 578 = .ok (.ifCond .ne 7, 3) := by decide +kernel
theorem dL_law_581 : decode cL_law 581 = .ok (.iconst 1, 1) := by decide +kernel
theorem dL_law_582 : decode cL_law 582 = .ok (.goto 4, 3) := by decide +kernel
theorem dL_law_585 : decode cL_law 585 = .ok (.iconst 0, 1) := by decide +kernel
theorem dL_law_586 : decode cL_law 586 = .ok (.istore_n 2, 1) := by decide +kernel
theorem dL_law_587 : decode cL_law 587 = .ok (.iload_n 2, 1) := by decide +kernel
theorem dL_law_588 : decode cL_law 588 = .ok (.ifCond .eq 14, 3) := by decide +kernel
theorem dL_law_591 : decode cL_law 591 = .ok (.aload_n 1, 1) := by decide +kernel
theorem dL_law_592 : decode cL_law 592 = .ok (.invokestatic 123, 3) := by decide +kernel
theorem dL_law_595 : decode cL_law 595 = .ok (.ifCond .eq 7, 3) := by decide +kernel
theorem dL_law_598 : decode cL_law 598 = .ok (.iconst 1, 1) := by decide +kernel
theorem dL_law_599 : decode cL_law 599 = .ok (.goto 4, 3) := by decide +kernel
theorem dL_law_602 : decode cL_law 602 = .ok (.iconst 0, 1) := by decide +kernel
theorem dL_law_603 : decode cL_law 603 = .ok (.istore_n 2, 1) := by decide +kernel
theorem dL_law_604 : decode cL_law 604 = .ok (.iinc 3 1, 3) := by decide +kernel
theorem dL_law_607 : decode cL_law 607 = .ok (.goto (-493), 3) := by decide +kernel
theorem dL_law_610 : decode cL_law 610 = .ok (.aload_n 1, 1) := by decide +kernel
theorem dL_law_611 : decode cL_law 611 = .ok (.iconst 2, 1) := by decide +kernel
theorem dL_law_612 : decode cL_law 612 = .ok (.invokestatic 78, 3) := by decide +kernel
theorem dL_law_615 : decode cL_law 615 = .ok (.istore_n 3, 1) := by decide +kernel
theorem dL_law_616 : decode cL_law 616 = .ok (.aload_n 1, 1) := by decide +kernel
theorem dL_law_617 : decode cL_law 617 = .ok (.bipush 9, 2) := by decide +kernel
theorem dL_law_619 : decode cL_law 619 = .ok (.invokestatic 78, 3) := by decide +kernel
theorem dL_law_622 : decode cL_law 622 = .ok (.istore 4, 2) := by decide +kernel
theorem dL_law_624 : decode cL_law 624 = .ok (.aload_n 1, 1) := by decide +kernel
theorem dL_law_625 : decode cL_law 625 = .ok (.invokevirtual 157, 3) := by decide +kernel
theorem dL_law_628 : decode cL_law 628 = .ok (.lstore 5, 2) := by decide +kernel
theorem dL_law_630 : decode cL_law 630 = .ok (.iload_n 2, 1) := by decide +kernel
theorem dL_law_631 : decode cL_law 631 = .ok (.ifCond .eq 54, 3) := by decide +kernel
theorem dL_law_634 : decode cL_law 634 = .ok (.aload_n 1, 1) := by decide +kernel
theorem dL_law_635 : decode cL_law 635 = .ok (.bipush 20, 2) := by decide +kernel
theorem dL_law_637 : decode cL_law 637 = .ok (.iconst 0, 1) := by decide +kernel
theorem dL_law_638 : decode cL_law 638 = .ok (.bipush 20, 2) := by decide +kernel
theorem dL_law_640 : decode cL_law 640 = .ok (.iconst 0, 1) := by decide +kernel
theorem dL_law_641 : decode cL_law 641 = .ok (.iconst 0, 1) := by decide +kernel
theorem dL_law_642 : decode cL_law 642 = .ok (.invokestatic 138, 3) := by decide +kernel
theorem dL_law_645 : decode cL_law 645 = .ok (.ldc 17, 2) := by decide +kernel
theorem dL_law_647 : decode cL_law 647 = .ok (.if_icmp .ne 38, 3) := by decide +kernel
theorem dL_law_650 : decode cL_law 650 = .ok (.aload_n 1, 1) := by decide +kernel
theorem dL_law_651 : decode cL_law 651 = .ok (.iconst 0, 1) := by decide +kernel
theorem dL_law_652 : decode cL_law 652 = .ok (.invokestatic 154, 3) := by decide +kernel
theorem dL_law_655 : decode cL_law 655 = .ok (.ldc 17, 2) := by decide +kernel
theorem dL_law_657 : decode cL_law 657 = .ok (.if_icmp .ne 28, 3) := by decide +kernel
theorem dL_law_660 : decode cL_law 660 = .ok (.aload_n 1, 1) := by decide +kernel
theorem dL_law_661 : decode cL_law 661 = .ok (.bipush 17, 2) := by decide +kernel
theorem dL_law_663 : decode cL_law 663 = .ok (.invokestatic 151, 3) := by decide +kernel
theorem dL_law_666 : decode cL_law 666 = .ok (.ldc 17, 2) := by decide +kernel
theorem dL_law_668 : decode cL_law 668 = .ok (.if_icmp .ne 17, 3) := by decide +kernel
theorem dL_law_671 : decode cL_law 671 = .ok (.aload_n 1, 1) := by decide +kernel
theorem dL_law_672 : decode cL_law 672 = .ok (.invokevirtual 157, 3) := by decide +kernel
theorem dL_law_675 : decode cL_law 675 = .ok (.lload 5, 2) := by decide +kernel
theorem dL_law_677 : decode cL_law 677 = .ok (.lcmp, 1) := by decide +kernel
theorem dL_law_678 : decode cL_law 678 = .ok (.ifCond .ne 7, 3) := by decide +kernel
theorem dL_law_681 : decode cL_law 681 = .ok (.iconst 1, 1) := by decide +kernel
theorem dL_law_682 : decode cL_law 682 = .ok (.goto 4, 3) := by decide +kernel
theorem dL_law_685 : decode cL_law 685 = .ok (.iconst 0, 1) := by decide +kernel
theorem dL_law_686 : decode cL_law 686 = .ok (.istore_n 2, 1) := by decide +kernel
theorem dL_law_687 : decode cL_law 687 = .ok (.iload_n 2, 1) := by decide +kernel
theorem dL_law_688 : decode cL_law 688 = .ok (.ifCond .eq 51, 3) := by decide +kernel
theorem dL_law_691 : decode cL_law 691 = .ok (.aload_n 1, 1) := by decide +kernel
theorem dL_law_692 : decode cL_law 692 = .ok (.bipush 16, 2) := by decide +kernel
theorem dL_law_694 : decode cL_law 694 = .ok (.invokestatic 151, 3) := by decide +kernel
theorem dL_law_697 : decode cL_law 697 = .ok (.iconst 1, 1) := by decide +kernel
theorem dL_law_698 : decode cL_law 698 = .ok (.if_icmp .lt 41, 3) := by decide +kernel
theorem dL_law_701 : decode cL_law 701 = .ok (.aload_n 1, 1) := by decide +kernel
theorem dL_law_702 : decode cL_law 702 = .ok (.invokestatic 161, 3) := by decide +kernel
theorem dL_law_705 : decode cL_law 705 = .ok (.ifCond .lt 34, 3) := by decide +kernel
theorem dL_law_708 : decode cL_law 708 = .ok (.aload_n 1, 1) := by decide +kernel
theorem dL_law_709 : decode cL_law 709 = .ok (.iconst 2, 1) := by decide +kernel
theorem dL_law_710 : decode cL_law 710 = .ok (.invokestatic 78, 3) := by decide +kernel
theorem dL_law_713 : decode cL_law 713 = .ok (.iload_n 3, 1) := by decide +kernel
theorem dL_law_714 : decode cL_law 714 = .ok (.if_icmp .ne 25, 3) := by decide +kernel
theorem dL_law_717 : decode cL_law 717 = .ok (.aload_n 1, 1) := by decide +kernel
theorem dL_law_718 : decode cL_law 718 = .ok (.bipush 9, 2) := by decide +kernel
theorem dL_law_720 : decode cL_law 720 = .ok (.invokestatic 78, 3) := by decide +kernel
theorem dL_law_723 : decode cL_law 723 = .ok (.iload 4, 2) := by decide +kernel
theorem dL_law_725 : decode cL_law 725 = .ok (.if_icmp .ne 14, 3) := by decide +kernel
theorem dL_law_728 : decode cL_law 728 = .ok (.aload_n 1, 1) := by decide +kernel
theorem dL_law_729 : decode cL_law 729 = .ok (.invokestatic 123, 3) := by decide +kernel
theorem dL_law_732 : decode cL_law 732 = .ok (.ifCond .eq 7, 3) := by decide +kernel
theorem dL_law_735 : decode cL_law 735 = .ok (.iconst 1, 1) := by decide +kernel
theorem dL_law_736 : decode cL_law 736 = .ok (.goto 4, 3) := by decide +kernel
theorem dL_law_739 : decode cL_law 739 = .ok (.iconst 0, 1) := by decide +kernel
theorem dL_law_740 : decode cL_law 740 = .ok (.ireturn, 1) := by decide +kernel
abbrev vwCl : List vw_C := [(RX0, TX0, 5), (RX1, TX1, 2), (RX2, TX2, 1), (RX3, TX3, 3), (RX4, TX4, 11), (RX5, TX5, 6), (RX6, TX6, 1), (RX9, TX9, 4)]
/-! ===== END printed: names ===== -/
