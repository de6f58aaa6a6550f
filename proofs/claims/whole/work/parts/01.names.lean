/-! ===== BEGIN words of one list among another's, by their places ===== -/
theorem goodIn_r {big : List Cond} (ws : List Cond) (ps : List Nat) (hp : ws = ps.filterMap (fun i => big[i]?)) (h : ws.all goodWord = true) : GoodIn big ws := by
  intro w hw
  have h1 := List.all_eq_true.mp h w hw
  rw [hp] at hw
  obtain ⟨i, -, hi⟩ := List.mem_filterMap.mp hw
  have hm : w ∈ big := by first | exact List.mem_of_getElem? hi | exact List.getElem?_mem hi
  exact ⟨hm, good_of_word h1⟩
theorem goodIn_app {big a b : List Cond} (ha : GoodIn big a) (hb : GoodIn big b) : GoodIn big (a ++ b) := fun w h => (List.mem_append.mp h).elim (ha w) (hb w)
theorem goodIn_ca {big a b : List Cond} {c : Cond} (ha : GoodIn big (c :: a)) (hb : GoodIn big b) : GoodIn big (c :: (a ++ b)) := fun w h => (List.mem_cons.mp h).elim (fun e => ha w (List.mem_cons.mpr (Or.inl e))) (fun h => (List.mem_append.mp h).elim (fun h => ha w (List.mem_cons.mpr (Or.inr h))) (hb w))
theorem goodIn_sub {big ws : List Cond} (hm : ∀ w ∈ ws, w ∈ big) (h : ws.all goodWord = true) : GoodIn big ws := fun w hw => ⟨hm w hw, good_of_word (List.all_eq_true.mp h w hw)⟩
/-! ===== END ===== -/

/-! ===== BEGIN exceptions that leave a method, and their catching by the caller (launches without stack traces) ===== -/
section VXA
/-! The laws vx_back, vx_callV, vx_callS, vx_callSW, vx_throw0, vx_throwS follow proofs of the library, with one case more: JvmDerived/Free/Laws.lean (Back.of_free), Shelf42/LK1.lean (callV, callS), Shelf/KitTraced.lean (throwNew0V, throwNewS). -/
/-- where a method has thrown q: the class by its name, the cell, what was written, the world -/
def vx_T (XC : String → State → State → Prop) (st : State) (q : Addr) (t : State) (mc ms : Nat) (free : Addr → Prop) : Prop :=
  ∃ (E : String) (ce : Cell) (L : List Loc), XC E st t ∧ t.heap[q]? = some ce ∧ ce.vm = .none ∧ st.vm.findClass E = some ce.cls ∧ st.WarmedH t.vm ∧ st.sameButNew ({ t with vm := st.vm } : State) L mc ms ∧ ∀ z ∈ L, free z.base
def vx_Q (Qc : Array Value → State → Outcome → State → Prop) (XC : String → State → State → Prop) (mc ms : Nat) (free : Addr → Prop) : Array Value → State → Outcome → State → Prop := fun a st o t =>
  (Qc a st o t ∧ ∃ L, FrameEnd st o t L mc ms ∧ ∀ q ∈ L, free q.base) ∨ ∃ q, o = .threw q ∧ vx_T XC st q t mc ms free
/-- a callee that returns or throws -/
def vx_Met (l : Launch) (y : MethodName) (ws : List Cond) (rm : Room) (Pc : Array Value → State → Prop) (Qc : Array Value → State → Outcome → State → Prop) (XC : String → State → State → Prop) (mc ms : Nat) (free : Addr → Prop) : Prop :=
  MetFree l y (headSpec ws rm) Pc (fun _ _ _ _ _ => True) (vx_Q Qc XC mc ms free)
def vx_Post (XC : String → State → State → Prop) (mc ms : Nat) (free : Addr → Prop) : Pt → Array Value → Addr → Pt → Prop := fun A a q B =>
  ∃ (g : JFrame) (mk : MethodId) (t : State) (L : List Loc) (E : String) (ce : Cell), B.U.heap = t.heap ∧ B.U.vm = t.vm ∧ XC E (A.U.calling g mk a) t ∧ t.heap[q]? = some ce ∧ ce.vm = .none ∧ A.U.vm.findClass E = some ce.cls ∧ B.locs = A.locs ++ L ∧ (∀ z ∈ L, free z.base) ∧ B.cells = A.cells + mc ∧ B.slots = A.slots + ms
def vx_Back (l : Launch) (R : Room) (p : Program) (e : Env) (below : List Frame) (s : State) (sargs : Array Value) (y : MethodName) (len W9 : Nat)
    (Pre : Pt → Array Value → Prop) (Post : Pt → Array Value → Option Value → Pt → Prop) (PostX : Pt → Array Value → Addr → Pt → Prop) : Prop :=
  ∀ (m : MethodId) (meth : Method) (c : Code) (A : Pt) (g : JFrame) (ig : Instr) (mk : MethodId) (a : Array Value),
    Stand p l e R s m sargs below meth c A.U A.locs A.cells A.slots → g.method = m → g.locals.size = c.maxLocals → decode c.code g.pc = .ok (ig, len) →
    2 * g.monitorRoom + (g.stack.map fun v => v.category).sum ≤ W9 → A.U.methodNamed? y = some mk → Pre A a →
    (∃ (v : Option Value) (B : Pt), Stand p l e R s m sargs below meth c B.U B.locs B.cells B.slots ∧ Post A a v B ∧
      Steps p.tables e below (doInvoke e (A.U.setTop g) [] mk a).1 (B.U.setTop { g with pc := g.pc + len, stack := v.toList ++ g.stack })) ∨
    (∃ (q : Addr) (B : Pt), Stand p l e R s m sargs below meth c B.U B.locs B.cells B.slots ∧ PostX A a q B ∧
      Steps p.tables e below (doInvoke e (A.U.setTop g) [] mk a).1 ((B.U.setTop g).pushFrame (.throwing q)))
section Payer
variable {l : Launch} {R : Room} {p : Program} {e : Env} {below : List Frame} {s : State} {sargs : Array Value} {y : MethodName} {len W9 : Nat}
theorem vx_back {ws : List Cond} {rm : Room} {Pc : Array Value → State → Prop} {Qc : Array Value → State → Outcome → State → Prop} {XC : String → State → State → Prop} {mc ms : Nat} {free : Addr → Prop} {bytes : ByteArray} {maxL : Nat} {ret : Option FieldType}
    (hM : vx_Met l y ws rm Pc Qc XC mc ms free) (hblind : FrameBlind Pc) (hrc : rm.cells = mc) (hrs : rm.slots = ms)
    (hframes : rm.frames + 1 ≤ R.frames) (hlocals : W9 + (maxL + 11) + rm.locals ≤ R.locals)
    (hws : ∀ w ∈ ws, ∀ a' U, s.WarmedH U.vm → w.before a' U = true) (hcode : Cond.code y bytes maxL ret ∈ ws) (hinit : ∀ a' U, s.WarmedH U.vm → (Cond.initialized y.cls).before a' U = true) :
    vx_Back l R p e below s sargs y len W9 (PreOf R mc ms Pc) (PostOf Qc mc ms free) (vx_Post XC mc ms free) := by
  intro m meth c A g ig mk a X hg hsize hdg hW hn hp
  have h1 : (headSpec ws rm).pre.before a A.U = true := atoms_intro fun w hw => hws w hw _ _ X.warmed
  have h2 : (Cond.code y bytes maxL ret).before a A.U = true := hws _ hcode _ _ X.warmed
  have h3 : (Cond.initialized y.cls).before a A.U = true := hinit _ _ X.warmed
  have h4 : A.cells + (headSpec ws rm).room.cells ≤ R.cells := by rw [show (headSpec ws rm).room.cells = mc from hrc]; exact hp.1
  have h5 : A.slots + (headSpec ws rm).room.slots ≤ R.slots := by rw [show (headSpec ws rm).room.slots = ms from hrs]; exact hp.2.1
  have hPc : Pc a (A.U.calling g mk a) := hblind _ _ _ _ hp.2.2
  obtain ⟨U, Ls, c0, s0⟩ := A
  dsimp only [Pt.U, Pt.locs, Pt.cells, Pt.slots] at h1 h2 h3 h4 h5 X hn hPc ⊢
  obtain ⟨methY, cY, hmY, hcY, -, hlY, -, -, -, -⟩ := Cond.code_spec hn h2
  obtain ⟨kY, hkY, -⟩ := className_of_methodNamed hn
  have hinitY : kY.init = .initialized := Cond.initialized_spec (findClass_of_methodNamed hn) hkY h3
  have h : At U g.method c below := by rw [hg]; exact X.here
  have hlocals9 : W9 + (maxL + 11) + (headSpec ws rm).room.locals ≤ R.locals := hlocals
  have happ : (headSpec ws rm).appliesLoose y e.platform (U.calling g mk a) = true :=
    Spec.appliesLoose_calling (g := g) h hdg hn hkY hinitY
      (X.room_calling (g := g) (R' := (headSpec ws rm).room) hsize hmY hcY hframes (by rw [hlY]; omega) h4 h5) h1
  obtain ⟨mid, hmid⟩ := h.above
  have hfr : (U.setTop g).frames = (.java g :: mid) ++ below := by rw [State.frames_setTop' g h.top, hmid]; rfl
  obtain ⟨o, s₂, hsteps, -, hend, hq⟩ := Steps.callFree hM p X.admits X.cas X.clock (acts := []) hfr happ hPc trivial
  have hq' : vx_Q Qc XC mc ms free a (U.calling g mk a) o s₂ := hq
  rw [State.frames_setTop' g h.top] at hend
  obtain ⟨g₀, hg0⟩ := Option.isSome_iff_exists.mp h.top
  obtain ⟨r, hr⟩ := State.topJava?_eq_some.mp hg0
  have hr' : (({ U with heap := s₂.heap, slotsUsed := s₂.slotsUsed } : State).setVm s₂.vm).frames = .java g₀ :: r := hr
  rcases hq' with ⟨hqc, L, hfe, hL⟩ | ⟨q, rfl, E, ce, L, hx, hce, hcv, hcl, hW₂, hsm, hL⟩
  · obtain ⟨⟨v, rfl⟩, hW₂, e2, q2, q3, q4, q5, q6⟩ := id hfe
    have e3 : s₂ = ({ (U.calling g mk a).setFrames s₂.frames with heap := s₂.heap, slotsUsed := s₂.slotsUsed } : State).setVm s₂.vm := by
      have : s₂ = ({ s₂ with vm := (U.calling g mk a).vm } : State).setVm s₂.vm := rfl
      rw [e2] at this
      exact this
    obtain ⟨c₂, i₂, len₂, hc₂, hd₂, hf₂⟩ := hend
    have hW' : U.WarmedH s₂.vm := hW₂
    have hcc : c₂ = c := by
      have h1 : s₂.code? g.method = U.code? g.method := by
        rw [State.code?_eq, State.code?_eq, hW'.alike.method?]
      exact Option.some.inj (hc₂.symm.trans (h1.trans h.code))
    subst hcc
    have hlen : len₂ = len := by rw [hdg] at hd₂; cases hd₂; rfl
    subst hlen
    have hs₂ : s₂ = (({ U with heap := s₂.heap, slotsUsed := s₂.slotsUsed } : State).setVm s₂.vm).setTop { g with pc := g.pc + len₂, stack := v.toList ++ g.stack } := by
      refine e3.trans ?_
      rw [hf₂, State.calling_eq h.top, State.setFrames_setFrames, State.setTop_of_frames _ hr', hr]
      rfl
    have hsame : U.sameButNew ({ U with heap := s₂.heap, slotsUsed := s₂.slotsUsed } : State) L mc ms := by
      refine ⟨?_, q2, q3, q4, q5, q6⟩
      obtain ⟨t, ht, -⟩ := State.frames_cons hr
      show ({ U with heap := s₂.heap, slotsUsed := s₂.slotsUsed } : State) = { U.setFrames U.frames with heap := s₂.heap, slotsUsed := s₂.slotsUsed }
      rw [State.setFrames_self ht]
    subst hg
    refine Or.inl ⟨v, ⟨(({ U with heap := s₂.heap, slotsUsed := s₂.slotsUsed } : State).setVm s₂.vm), Ls ++ L, c0 + mc, s0 + ms⟩,
      ⟨X.admits, X.cas, X.clock, X.frames, X.room, X.hears, X.method, X.code, (X.here.setHeapUsed s₂.heap s₂.slotsUsed).setVm hW'.alike, X.tail, State.WarmedH.trans X.warmed hW', X.limits, X.bytes, X.same.trans (hsame.setVm s.vm)⟩,
      ⟨g, mk, s₂, L, rfl, rfl, hqc, rfl, hL, rfl, rfl⟩, ?_⟩
    show Steps p.tables e below _ ((({ U with heap := s₂.heap, slotsUsed := s₂.slotsUsed } : State).setVm s₂.vm).setTop { g with pc := g.pc + len₂, stack := v.toList ++ g.stack })
    rw [← hs₂]
    exact hsteps
  · obtain ⟨e2, q2, q3, q4, q5, q6⟩ := id hsm
    have e3 : s₂ = ({ (U.calling g mk a).setFrames s₂.frames with heap := s₂.heap, slotsUsed := s₂.slotsUsed } : State).setVm s₂.vm := by
      have : s₂ = ({ s₂ with vm := (U.calling g mk a).vm } : State).setVm s₂.vm := rfl
      rw [e2] at this
      exact this
    have hf₂ : s₂.frames = .throwing q :: .java g :: U.frames.tail := hend
    have hW' : U.WarmedH s₂.vm := hW₂
    have hs₂ : s₂ = ((({ U with heap := s₂.heap, slotsUsed := s₂.slotsUsed } : State).setVm s₂.vm).setTop g).pushFrame (.throwing q) := by
      refine e3.trans ?_
      rw [hf₂, State.calling_eq h.top, State.setFrames_setFrames, State.pushFrame, State.frames_setTop _ hr', State.setTop_of_frames _ hr', State.setFrames_setFrames, hr]
      rfl
    have hsame : U.sameButNew ({ U with heap := s₂.heap, slotsUsed := s₂.slotsUsed } : State) L mc ms := by
      refine ⟨?_, q2, q3, q4, q5, q6⟩
      obtain ⟨t, ht, -⟩ := State.frames_cons hr
      show ({ U with heap := s₂.heap, slotsUsed := s₂.slotsUsed } : State) = { U.setFrames U.frames with heap := s₂.heap, slotsUsed := s₂.slotsUsed }
      rw [State.setFrames_self ht]
    subst hg
    refine Or.inr ⟨q, ⟨(({ U with heap := s₂.heap, slotsUsed := s₂.slotsUsed } : State).setVm s₂.vm), Ls ++ L, c0 + mc, s0 + ms⟩,
      ⟨X.admits, X.cas, X.clock, X.frames, X.room, X.hears, X.method, X.code, (X.here.setHeapUsed s₂.heap s₂.slotsUsed).setVm hW'.alike, X.tail, State.WarmedH.trans X.warmed hW', X.limits, X.bytes, X.same.trans (hsame.setVm s.vm)⟩,
      ⟨g, mk, s₂, L, E, ce, rfl, rfl, hx, hce, hcv, hcl, rfl, hL, rfl, rfl⟩, ?_⟩
    show Steps p.tables e below _ (((({ U with heap := s₂.heap, slotsUsed := s₂.slotsUsed } : State).setVm s₂.vm).setTop g).pushFrame (.throwing q))
    rw [← hs₂]
    exact hsteps
end Payer
section Calls
variable {p : Program} {l : Launch} {e : Env} {R : Room} {s : State} {m : MethodId} {args : Array Value} {below : List Frame} {meth : Method} {c : Code} {T : State} {locs : List Loc} {cells slots : Nat}
theorem vx_callV (X : Stand p l e R s m args below meth c T locs cells slots) (hexec : p.tables.exec = Jvm.exec) {own C : String} {index : Nat} {y : MethodName} {bytes : ByteArray} {maxL : Nat} {ret : Option FieldType}
    (hown : s.vm.findClass own = some m.cls) (hlink : (Cond.methodLink own index y).before args s = true) (hinst : (Cond.instanceMethod y).before args s = true) (hsel : (Cond.selects C y y).before args s = true)
    (hcode : (Cond.code y bytes maxL ret).before args s = true) (hy : y.cls ≠ "java/lang/invoke/MethodHandle" ∧ y.cls ≠ "java/lang/invoke/VarHandle")
    {W9 : Nat} {Pre : Pt → Array Value → Prop} {Post : Pt → Array Value → Option Value → Pt → Prop} {PostX : Pt → Array Value → Addr → Pt → Prop} (hK : vx_Back l R p e below s args y 3 W9 Pre Post PostX)
    {b : Addr} {cellB : Cell} (hcell : T.heap[b]? = some cellB) (hobj : cellB.vm.isStatics = false) (hcls : s.vm.findClass C = some cellB.cls)
    {g : JFrame} (hg : g.method = m) (hsize : g.locals.size = c.maxLocals) {argsL rest : List Value} (hlen : ∀ sig, parseMethodDescriptor y.desc = some sig → argsL.length = sig.parameters.length)
    (hstack : g.stack = argsL.reverse ++ .ref b :: rest) (hW : 2 * g.monitorRoom + (rest.map fun v => v.category).sum ≤ W9) (hdg : decode c.code g.pc = .ok (.invokevirtual index, 3))
    (hpre : ∀ vm₁, s.WarmedH vm₁ → Pre ⟨T.setVm vm₁, locs, cells, slots⟩ (Value.ref b :: argsL).toArray) :
    (∃ (v : Option Value) (vm₁ : Vm) (B : Pt), s.WarmedH vm₁ ∧ Stand p l e R s m args below meth c B.U B.locs B.cells B.slots ∧ Post ⟨T.setVm vm₁, locs, cells, slots⟩ (Value.ref b :: argsL).toArray v B ∧
      ∀ target, Steps p.tables e below (B.U.setTop { g with pc := g.pc + 3, stack := v.toList ++ rest }) target → Steps p.tables e below (T.setTop g) target) ∨
    (∃ (q : Addr) (vm₁ : Vm) (B : Pt), s.WarmedH vm₁ ∧ Stand p l e R s m args below meth c B.U B.locs B.cells B.slots ∧ PostX ⟨T.setVm vm₁, locs, cells, slots⟩ (Value.ref b :: argsL).toArray q B ∧
      Steps p.tables e below (T.setTop g) ((B.U.setTop { g with stack := rest }).pushFrame (.throwing q))) := by
  obtain ⟨mk, methM, hnamed, hmethM, hstM, habM⟩ := Cond.instanceMethod_spec hinst
  obtain ⟨methM', cM, hmethM', -, -, -, -, -, -, hsigM⟩ := Cond.code_spec hnamed hcode
  cases hmethM.symm.trans hmethM'
  obtain ⟨c2, r2, m2, q1, q2, q3, q4, kP, hkP, hkPi⟩ := Cond.selects_spec hsel
  cases hcls.symm.trans q1
  cases (State.methodFound?_of_named hnamed hy).symm.trans q2
  cases hnamed.symm.trans q3
  have hselP : selectMethod e.platform s.vm cellB.cls mk = .method mk := by rw [Launch.admits_selectMethod X.admits]; exact q4
  obtain ⟨vm₁, X₁, hstep₁⟩ := X.invokevirtual hexec hown hlink hnamed hmethM hstM hkP hkPi hy (a := b) (cell := cellB) hcell
    (fun z h => by rw [h] at hobj; cases hobj) hselP hmethM habM hkP hkPi (g := g) hg (argsL := argsL) (rest := rest) (hlen _ hsigM) hstack hdg
  rcases hK m meth c ⟨T.setVm vm₁, locs, cells, slots⟩ { g with stack := rest } (.invokevirtual index) mk (Value.ref b :: argsL).toArray X₁ hg hsize hdg hW (X₁.named hnamed) (hpre vm₁ X₁.warmed) with ⟨v, B, X', hpost, hsteps⟩ | ⟨q, B, X', hpost, hsteps⟩
  · exact Or.inl ⟨v, vm₁, B, X₁.warmed, X', hpost, fun target h => hstep₁ _ fun acts => by rw [doInvoke_state]; exact hsteps.trans h⟩
  · exact Or.inr ⟨q, vm₁, B, X₁.warmed, X', hpost, hstep₁ _ fun acts => by rw [doInvoke_state]; exact hsteps⟩
theorem vx_callS (X : Stand p l e R s m args below meth c T locs cells slots) (hexec : p.tables.exec = Jvm.exec) {own : String} {index : Nat} {y : MethodName} {bytes : ByteArray} {maxL : Nat} {ret : Option FieldType}
    (hown : s.vm.findClass own = some m.cls) (hlink : (Cond.methodLink own index y).before args s = true) (hstat : (Cond.static y).before args s = true) (hinit : (Cond.initialized y.cls).before args s = true)
    (hcode : (Cond.code y bytes maxL ret).before args s = true) (hy : y.cls ≠ "java/lang/invoke/MethodHandle" ∧ y.cls ≠ "java/lang/invoke/VarHandle")
    {W9 : Nat} {Pre : Pt → Array Value → Prop} {Post : Pt → Array Value → Option Value → Pt → Prop} {PostX : Pt → Array Value → Addr → Pt → Prop} (hK : vx_Back l R p e below s args y 3 W9 Pre Post PostX)
    {g : JFrame} (hg : g.method = m) (hsize : g.locals.size = c.maxLocals) {argsL rest : List Value} (hlen : ∀ sig, parseMethodDescriptor y.desc = some sig → argsL.length = sig.parameters.length)
    (hstack : g.stack = argsL.reverse ++ rest) (hW : 2 * g.monitorRoom + (rest.map fun v => v.category).sum ≤ W9) (hdg : decode c.code g.pc = .ok (.invokestatic index, 3))
    (hpre : ∀ vm₁, s.WarmedH vm₁ → Pre ⟨T.setVm vm₁, locs, cells, slots⟩ argsL.toArray) :
    (∃ (v : Option Value) (vm₁ : Vm) (B : Pt), s.WarmedH vm₁ ∧ Stand p l e R s m args below meth c B.U B.locs B.cells B.slots ∧ Post ⟨T.setVm vm₁, locs, cells, slots⟩ argsL.toArray v B ∧
      ∀ target, Steps p.tables e below (B.U.setTop { g with pc := g.pc + 3, stack := v.toList ++ rest }) target → Steps p.tables e below (T.setTop g) target) ∨
    (∃ (q : Addr) (vm₁ : Vm) (B : Pt), s.WarmedH vm₁ ∧ Stand p l e R s m args below meth c B.U B.locs B.cells B.slots ∧ PostX ⟨T.setVm vm₁, locs, cells, slots⟩ argsL.toArray q B ∧
      Steps p.tables e below (T.setTop g) ((B.U.setTop { g with stack := rest }).pushFrame (.throwing q))) := by
  obtain ⟨mk, hnamed⟩ := Cond.code_named hcode
  obtain ⟨methM, cM, hmethM, -, -, -, -, -, -, hsigM⟩ := Cond.code_spec hnamed hcode
  have hstatic : methM.isStatic = true := Cond.static_spec hnamed hmethM hstat
  obtain ⟨kP, hkP, -⟩ := className_of_methodNamed hnamed
  have hinitP : kP.init = .initialized := Cond.initialized_spec (findClass_of_methodNamed hnamed) hkP hinit
  obtain ⟨vm₁, X₁, hstep₁⟩ := X.invokestatic hexec hown hlink hnamed hmethM hstatic hkP hinitP hy (g := g) hg (argsL := argsL) (rest := rest) (hlen _ hsigM) hstack hdg
  rcases hK m meth c ⟨T.setVm vm₁, locs, cells, slots⟩ { g with stack := rest } (.invokestatic index) mk argsL.toArray X₁ hg hsize hdg hW (X₁.named hnamed) (hpre vm₁ X₁.warmed) with ⟨v, B, X', hpost, hsteps⟩ | ⟨q, B, X', hpost, hsteps⟩
  · exact Or.inl ⟨v, vm₁, B, X₁.warmed, X', hpost, fun target h => hstep₁ _ fun acts => by rw [doInvoke_state]; exact hsteps.trans h⟩
  · exact Or.inr ⟨q, vm₁, B, X₁.warmed, X', hpost, hstep₁ _ fun acts => by rw [doInvoke_state]; exact hsteps⟩
end Calls
theorem vx_cls {s : State} {T : State} {vm₁ : Vm} {E : String} {k : ClassId} (hW : s.WarmedH vm₁) (h : (T.setVm vm₁).vm.findClass E = some k) : s.vm.findClass E = some k := by
  have h1 : vm₁.findClass E = some k := h
  rw [hW.alike.findClass] at h1
  exact h1
/-- the method's frame g, with q thrown over it -/
def vx_W (p : Program) (l : Launch) (e : Env) (R : Room) (s : State) (m : MethodId) (args : Array Value) (below : List Frame) (meth : Method) (c : Code) (H : Heap) (locs : List Loc) (cells slots : Nat) (Q : State → Prop) (g : JFrame) (q : Addr) : Prop :=
  ∀ T : State, T.heap = H → Stand p l e R s m args below meth c T locs cells slots → ∃ t, Steps p.tables e below ((T.setTop g).pushFrame (.throwing q)) t ∧ Q t
def vx_Run (p : Program) (l : Launch) (e : Env) (R : Room) (s : State) (m : MethodId) (args : Array Value) (below : List Frame) (meth : Method) (c : Code) (H : Heap) (locs : List Loc) (cells slots mc ms : Nat) (g : JFrame) (rest : List Value) (Qa : State → Outcome → State → Prop) (XC : String → State → State → Prop) (free : Addr → Prop) : Prop :=
  ∀ T : State, T.heap = H → Stand p l e R s m args below meth c T locs cells slots →
    (∃ (v : Option Value) (st₀ t T' : State) (L : List Loc), st₀.heap = H ∧ Stand p l e R s m args below meth c T' (locs ++ L) (cells + mc) (slots + ms) ∧ (∀ q ∈ L, free q.base) ∧ T'.heap = t.heap ∧ T'.vm = t.vm ∧ Qa st₀ (.returned v) t ∧
      Goes p e below T g T' { g with pc := g.pc + 3, stack := v.toList ++ rest }) ∨
    (∃ (q : Addr) (st₀ t T' : State) (L : List Loc) (E : String) (ce : Cell), st₀.heap = H ∧ Stand p l e R s m args below meth c T' (locs ++ L) (cells + mc) (slots + ms) ∧ (∀ z ∈ L, free z.base) ∧ T'.heap = t.heap ∧ T'.vm = t.vm ∧ XC E st₀ t ∧ t.heap[q]? = some ce ∧ ce.vm = .none ∧ s.vm.findClass E = some ce.cls ∧
      Steps p.tables e below (T.setTop g) ((T'.setTop { g with stack := rest }).pushFrame (.throwing q)))
def vx_X {S : Type} (px : S → Prop) (B : String → S → State → Prop) (A : Nat → Prop) : String → State → State → Prop := fun E st t => ∃ u : S, px u ∧ B E u t ∧ va_F A st t
section Runs
variable {p : Program} {l : Launch} {e : Env} {R : Room} {s : State} {m : MethodId} {args : Array Value} {below : List Frame} {meth : Method} {c : Code} {H : Heap} {locs : List Loc} {cells slots : Nat}
variable {y : MethodName} {bytes cc : ByteArray} {maxL nL mc ms n index : Nat} {ret : Option FieldType} {ws : List Cond} {rm : Room} {Pc : Array Value → State → Prop} {Qc : Array Value → State → Outcome → State → Prop} {XC : String → State → State → Prop} {free : Addr → Prop} {Ts : List Cond} {own C : String} {b : Addr} {As rest : List Value} {g : JFrame}
theorem vx_callBack (cb : CallB R s args own index y bytes maxL ret ws rm mc ms n) (hM : vx_Met l y ws rm Pc Qc XC mc ms free) (hbl : FrameBlind Pc) : vx_Back l R p e below s args y 3 8 (PreOf R mc ms Pc) (PostOf Qc mc ms free) (vx_Post XC mc ms free) := by
  obtain ⟨hrc, hrs, hfr, hlo, hws, hcw, -, hini, -⟩ := cb
  exact vx_back (bytes := bytes) (maxL := maxL) (ret := ret) hM hbl hrc hrs hfr hlo hws hcw (fun a' U hW => word_at hW (Or.inl (by first | rfl | simp [Cond.onTables, Cond.keeps, Cond.steady])) hini)
theorem vx_runV (S : CallFix p m c cc nL s args Ts own) (hM : vx_Met l y ws rm Pc Qc XC mc ms free) (cw : CallW R s args own C index y bytes maxL ret ws rm mc ms n) (hp : PreV s H C b Pc As)
    (hg : g.method = m) (hn : As.length = n) (hsize : g.locals.size = nL) (hstack : g.stack = As.reverse ++ .ref b :: rest) (hW : 2 * g.monitorRoom + (rest.map fun v => v.category).sum ≤ 8) (hdg : decode cc g.pc = .ok (.invokevirtual index, 3)) (hf : cells + mc ≤ R.cells ∧ slots + ms ≤ R.slots) :
    vx_Run p l e R s m args below meth c H locs cells slots mc ms g rest (Qc (Value.ref b :: As).toArray) XC free := by
  have hK : vx_Back l R p e below s args y 3 8 (PreOf R mc ms Pc) (PostOf Qc mc ms free) (vx_Post XC mc ms free) := vx_callBack cw.1 hM hp.1
  obtain ⟨⟨-, -, -, -, -, -, hcode, -, hy, hlen, hl⟩, hin, hse⟩ := cw
  obtain ⟨hx, hb, hml, ho, -⟩ := S
  obtain ⟨-, ⟨cellB, hcB, hoB, hclB⟩, hPc⟩ := hp
  intro T hT X
  rcases vx_callV X hx (C := C) (bytes := bytes) (maxL := maxL) (ret := ret) ho hl hin hse hcode hy hK (by rw [hT]; exact hcB) hoB hclB hg (hsize.trans hml.symm) (argsL := As) (rest := rest) (fun sig h => hn.trans (hlen sig h)) hstack hW (by rw [hb]; exact hdg)
    (fun vm₁ hW₁ => ⟨hf.1, hf.2, hPc (T.setVm vm₁) hT hW₁⟩) with ⟨v, vm₁, ⟨U', l2, c2, s2⟩, hW₁, X', ⟨g', mk, t, L, e1, e2, hq, h1, hL, h2, h3⟩, st⟩ | ⟨q, vm₁, ⟨U', l2, c2, s2⟩, hW₁, X', ⟨g', mk, t, L, E, ce, e1, e2, hq, hce, hcv, hcl, h1, hL, h2, h3⟩, st⟩
  · dsimp only [Pt.U, Pt.locs, Pt.cells, Pt.slots] at X' e1 e2 h1 h2 h3 st
    subst h1; subst h2; subst h3
    exact Or.inl ⟨v, (T.setVm vm₁).calling g' mk (Value.ref b :: As).toArray, t, U', L, hT, X', hL, e1, e2, hq, st⟩
  · dsimp only [Pt.U, Pt.locs, Pt.cells, Pt.slots] at X' e1 e2 h1 h2 h3 st hcl
    subst h1; subst h2; subst h3
    exact Or.inr ⟨q, (T.setVm vm₁).calling g' mk (Value.ref b :: As).toArray, t, U', L, E, ce, hT, X', hL, e1, e2, hq, hce, hcv, vx_cls hW₁ hcl, st⟩
theorem vx_runS (S : CallFix p m c cc nL s args Ts own) (hM : vx_Met l y ws rm Pc Qc XC mc ms free) (cw : CallB R s args own index y bytes maxL ret ws rm mc ms n ∧ (Cond.static y).before args s = true) (hp : PreS s H Pc As)
    (hg : g.method = m) (hn : As.length = n) (hsize : g.locals.size = nL) (hstack : g.stack = As.reverse ++ rest) (hW : 2 * g.monitorRoom + (rest.map fun v => v.category).sum ≤ 8) (hdg : decode cc g.pc = .ok (.invokestatic index, 3)) (hf : cells + mc ≤ R.cells ∧ slots + ms ≤ R.slots) :
    vx_Run p l e R s m args below meth c H locs cells slots mc ms g rest (Qc As.toArray) XC free := by
  have hK : vx_Back l R p e below s args y 3 8 (PreOf R mc ms Pc) (PostOf Qc mc ms free) (vx_Post XC mc ms free) := vx_callBack cw.1 hM hp.1
  obtain ⟨⟨-, -, -, -, -, -, hcode, hini, hy, hlen, hl⟩, hstt⟩ := cw
  obtain ⟨hx, hb, hml, ho, -⟩ := S
  intro T hT X
  rcases vx_callS X hx (bytes := bytes) (maxL := maxL) (ret := ret) ho hl hstt hini hcode hy hK hg (hsize.trans hml.symm) (argsL := As) (rest := rest) (fun sig h => hn.trans (hlen sig h)) hstack hW (by rw [hb]; exact hdg)
    (fun vm₁ hW₁ => ⟨hf.1, hf.2, hp.2 (T.setVm vm₁) hT hW₁⟩) with ⟨v, vm₁, ⟨U', l2, c2, s2⟩, hW₁, X', ⟨g', mk, t, L, e1, e2, hq, h1, hL, h2, h3⟩, st⟩ | ⟨q, vm₁, ⟨U', l2, c2, s2⟩, hW₁, X', ⟨g', mk, t, L, E, ce, e1, e2, hq, hce, hcv, hcl, h1, hL, h2, h3⟩, st⟩
  · dsimp only [Pt.U, Pt.locs, Pt.cells, Pt.slots] at X' e1 e2 h1 h2 h3 st
    subst h1; subst h2; subst h3
    exact Or.inl ⟨v, (T.setVm vm₁).calling g' mk As.toArray, t, U', L, hT, X', hL, e1, e2, hq, st⟩
  · dsimp only [Pt.U, Pt.locs, Pt.cells, Pt.slots] at X' e1 e2 h1 h2 h3 st hcl
    subst h1; subst h2; subst h3
    exact Or.inr ⟨q, (T.setVm vm₁).calling g' mk As.toArray, t, U', L, E, ce, hT, X', hL, e1, e2, hq, hce, hcv, vx_cls hW₁ hcl, st⟩
end Runs
section Rows
variable {p : Program} {l : Launch} {e : Env} {R : Room} {s : State} {m : MethodId} {args : Array Value} {below : List Frame} {meth : Method} {c : Code} {H : Heap} {locs : List Loc} {cells slots : Nat} {Q : State → Prop}
variable {mc ms : Nat} {free : Addr → Prop} {A0 A1 : Nat → Prop} {H0 : Heap} {a : Array Value} {pc : Nat} {ls : Array Slot} {st0 rest : List Value}
theorem vx_keep {st₀ t T' : State} {L : List Loc} (h0 : st₀.heap = H) (e1 : T'.heap = t.heap) (hS : va_S A0 H0 H locs) (hA : ∀ q, q < H.size → A1 q → A0 q) (hf : ∀ q, free q → A0 q) (hL : ∀ q ∈ L, free q.base) (hF : va_F A1 st₀ t) :
    H.size ≤ T'.heap.size ∧ (∀ q : Nat, q < H.size → ¬ A1 q → T'.heap[q]? = H[q]?) ∧ va_S A0 H0 T'.heap (locs ++ L) := by
  obtain ⟨hz, hk⟩ := hF
  rw [h0] at hz hk
  exact ⟨by rw [e1]; exact hz, fun q h1 h2 => by rw [e1]; exact hk q h1 h2,
    ⟨Nat.le_trans hS.1 (by rw [e1]; exact hz), fun q h1 h2 => by rw [e1, hk q (Nat.lt_of_lt_of_le h1 hS.1) (fun z => h2 (hA q (Nat.lt_of_lt_of_le h1 hS.1) z))]; exact hS.2.1 q h1 h2, fun q hq => by
      rcases List.mem_append.mp hq with h | h
      · exact hS.2.2 q h
      · exact hf _ (hL q h)⟩⟩
theorem vx_calli {S SX : Type} {post : Int32 → S → Prop} {px : SX → Prop} {B : S → State → Prop} {BX : String → SX → State → Prop} {AX : Nat → Prop} (hr : vx_Run p l e R s m args below meth c H locs cells slots mc ms (F0 m pc ls st0) rest (va_Qi post B A1 a) (vx_X px BX AX) free) (hS : va_S A0 H0 H locs) (hA : ∀ q, q < H.size → A1 q → A0 q) (hf : ∀ q, free q → A0 q) (hAX : ∀ q, q < H.size → AX q → A0 q)
    (kx : ∀ (E : String) (ce : Cell) (q9 : Addr) (u : SX) (t : State) (H1 : Heap) (locs1 : List Loc), t.heap = H1 → s.vm.Alike t.vm → px u → BX E u t → H.size ≤ H1.size → (∀ q : Nat, q < H.size → ¬ AX q → H1[q]? = H[q]?) → va_S A0 H0 H1 locs1 → H1[q9]? = some ce → ce.vm = .none → s.vm.findClass E = some ce.cls → vx_W p l e R s m args below meth c H1 locs1 (cells + mc) (slots + ms) Q (F0 m pc ls rest) q9)
    (kk : ∀ (r : Int32) (u : S) (t : State) (H1 : Heap) (locs1 : List Loc), t.heap = H1 → s.vm.Alike t.vm → post r u → B u t → H.size ≤ H1.size → (∀ q : Nat, q < H.size → ¬ A1 q → H1[q]? = H[q]?) → va_S A0 H0 H1 locs1 → W p l e R s m args below meth c H1 locs1 (cells + mc) (slots + ms) Q (F0 m (pc + 3) ls (.int r :: rest))) : W p l e R s m args below meth c H locs cells slots Q (F0 m pc ls st0) := by
  intro T hT X
  rcases hr T hT X with ⟨v, st₀, t, T', L, h0, X', hL, e1, e2, ⟨⟨r, u, hv, hp, hb⟩, hF⟩, st⟩ | ⟨q, st₀, t, T', L, E, ce, h0, X', hL, e1, e2, ⟨u, hp, hb, hF⟩, hce, hcv, hcl, st⟩
  · cases hv
    obtain ⟨k1, k2, k3⟩ := vx_keep h0 e1 hS hA hf hL hF
    obtain ⟨t2, a1, b1⟩ := kk r u t T'.heap (locs ++ L) e1.symm (by rw [← e2]; exact X'.warmed.alike) hp hb k1 k2 k3 T' rfl X'
    exact ⟨t2, st t2 a1, b1⟩
  · obtain ⟨k1, k2, k3⟩ := vx_keep h0 e1 hS hAX hf hL hF
    obtain ⟨t2, a1, b1⟩ := kx E ce q u t T'.heap (locs ++ L) e1.symm (by rw [← e2]; exact X'.warmed.alike) hp hb k1 k2 k3 (by rw [e1]; exact hce) hcv hcl T' rfl X'
    exact ⟨t2, st.trans a1, b1⟩
theorem vx_calll {S SX : Type} {post : Int64 → S → Prop} {px : SX → Prop} {B : S → State → Prop} {BX : String → SX → State → Prop} {AX : Nat → Prop} (hr : vx_Run p l e R s m args below meth c H locs cells slots mc ms (F0 m pc ls st0) rest (va_Ql post B A1 a) (vx_X px BX AX) free) (hS : va_S A0 H0 H locs) (hA : ∀ q, q < H.size → A1 q → A0 q) (hf : ∀ q, free q → A0 q) (hAX : ∀ q, q < H.size → AX q → A0 q)
    (kx : ∀ (E : String) (ce : Cell) (q9 : Addr) (u : SX) (t : State) (H1 : Heap) (locs1 : List Loc), t.heap = H1 → s.vm.Alike t.vm → px u → BX E u t → H.size ≤ H1.size → (∀ q : Nat, q < H.size → ¬ AX q → H1[q]? = H[q]?) → va_S A0 H0 H1 locs1 → H1[q9]? = some ce → ce.vm = .none → s.vm.findClass E = some ce.cls → vx_W p l e R s m args below meth c H1 locs1 (cells + mc) (slots + ms) Q (F0 m pc ls rest) q9)
    (kk : ∀ (r : Int64) (u : S) (t : State) (H1 : Heap) (locs1 : List Loc), t.heap = H1 → s.vm.Alike t.vm → post r u → B u t → H.size ≤ H1.size → (∀ q : Nat, q < H.size → ¬ A1 q → H1[q]? = H[q]?) → va_S A0 H0 H1 locs1 → W p l e R s m args below meth c H1 locs1 (cells + mc) (slots + ms) Q (F0 m (pc + 3) ls (.long r :: rest))) : W p l e R s m args below meth c H locs cells slots Q (F0 m pc ls st0) := by
  intro T hT X
  rcases hr T hT X with ⟨v, st₀, t, T', L, h0, X', hL, e1, e2, ⟨⟨r, u, hv, hp, hb⟩, hF⟩, st⟩ | ⟨q, st₀, t, T', L, E, ce, h0, X', hL, e1, e2, ⟨u, hp, hb, hF⟩, hce, hcv, hcl, st⟩
  · cases hv
    obtain ⟨k1, k2, k3⟩ := vx_keep h0 e1 hS hA hf hL hF
    obtain ⟨t2, a1, b1⟩ := kk r u t T'.heap (locs ++ L) e1.symm (by rw [← e2]; exact X'.warmed.alike) hp hb k1 k2 k3 T' rfl X'
    exact ⟨t2, st t2 a1, b1⟩
  · obtain ⟨k1, k2, k3⟩ := vx_keep h0 e1 hS hAX hf hL hF
    obtain ⟨t2, a1, b1⟩ := kx E ce q u t T'.heap (locs ++ L) e1.symm (by rw [← e2]; exact X'.warmed.alike) hp hb k1 k2 k3 (by rw [e1]; exact hce) hcv hcl T' rfl X'
    exact ⟨t2, st.trans a1, b1⟩
theorem vx_callf {S SX : Type} {post : UInt32 → S → Prop} {px : SX → Prop} {B : S → State → Prop} {BX : String → SX → State → Prop} {AX : Nat → Prop} (hr : vx_Run p l e R s m args below meth c H locs cells slots mc ms (F0 m pc ls st0) rest (va_Qf post B A1 a) (vx_X px BX AX) free) (hS : va_S A0 H0 H locs) (hA : ∀ q, q < H.size → A1 q → A0 q) (hf : ∀ q, free q → A0 q) (hAX : ∀ q, q < H.size → AX q → A0 q)
    (kx : ∀ (E : String) (ce : Cell) (q9 : Addr) (u : SX) (t : State) (H1 : Heap) (locs1 : List Loc), t.heap = H1 → s.vm.Alike t.vm → px u → BX E u t → H.size ≤ H1.size → (∀ q : Nat, q < H.size → ¬ AX q → H1[q]? = H[q]?) → va_S A0 H0 H1 locs1 → H1[q9]? = some ce → ce.vm = .none → s.vm.findClass E = some ce.cls → vx_W p l e R s m args below meth c H1 locs1 (cells + mc) (slots + ms) Q (F0 m pc ls rest) q9)
    (kk : ∀ (r : UInt32) (u : S) (t : State) (H1 : Heap) (locs1 : List Loc), t.heap = H1 → s.vm.Alike t.vm → post r u → B u t → H.size ≤ H1.size → (∀ q : Nat, q < H.size → ¬ A1 q → H1[q]? = H[q]?) → va_S A0 H0 H1 locs1 → W p l e R s m args below meth c H1 locs1 (cells + mc) (slots + ms) Q (F0 m (pc + 3) ls (.float r :: rest))) : W p l e R s m args below meth c H locs cells slots Q (F0 m pc ls st0) := by
  intro T hT X
  rcases hr T hT X with ⟨v, st₀, t, T', L, h0, X', hL, e1, e2, ⟨⟨r, u, hv, hp, hb⟩, hF⟩, st⟩ | ⟨q, st₀, t, T', L, E, ce, h0, X', hL, e1, e2, ⟨u, hp, hb, hF⟩, hce, hcv, hcl, st⟩
  · cases hv
    obtain ⟨k1, k2, k3⟩ := vx_keep h0 e1 hS hA hf hL hF
    obtain ⟨t2, a1, b1⟩ := kk r u t T'.heap (locs ++ L) e1.symm (by rw [← e2]; exact X'.warmed.alike) hp hb k1 k2 k3 T' rfl X'
    exact ⟨t2, st t2 a1, b1⟩
  · obtain ⟨k1, k2, k3⟩ := vx_keep h0 e1 hS hAX hf hL hF
    obtain ⟨t2, a1, b1⟩ := kx E ce q u t T'.heap (locs ++ L) e1.symm (by rw [← e2]; exact X'.warmed.alike) hp hb k1 k2 k3 (by rw [e1]; exact hce) hcv hcl T' rfl X'
    exact ⟨t2, st.trans a1, b1⟩
theorem vx_calld {S SX : Type} {post : UInt64 → S → Prop} {px : SX → Prop} {B : S → State → Prop} {BX : String → SX → State → Prop} {AX : Nat → Prop} (hr : vx_Run p l e R s m args below meth c H locs cells slots mc ms (F0 m pc ls st0) rest (va_Qd post B A1 a) (vx_X px BX AX) free) (hS : va_S A0 H0 H locs) (hA : ∀ q, q < H.size → A1 q → A0 q) (hf : ∀ q, free q → A0 q) (hAX : ∀ q, q < H.size → AX q → A0 q)
    (kx : ∀ (E : String) (ce : Cell) (q9 : Addr) (u : SX) (t : State) (H1 : Heap) (locs1 : List Loc), t.heap = H1 → s.vm.Alike t.vm → px u → BX E u t → H.size ≤ H1.size → (∀ q : Nat, q < H.size → ¬ AX q → H1[q]? = H[q]?) → va_S A0 H0 H1 locs1 → H1[q9]? = some ce → ce.vm = .none → s.vm.findClass E = some ce.cls → vx_W p l e R s m args below meth c H1 locs1 (cells + mc) (slots + ms) Q (F0 m pc ls rest) q9)
    (kk : ∀ (r : UInt64) (u : S) (t : State) (H1 : Heap) (locs1 : List Loc), t.heap = H1 → s.vm.Alike t.vm → post r u → B u t → H.size ≤ H1.size → (∀ q : Nat, q < H.size → ¬ A1 q → H1[q]? = H[q]?) → va_S A0 H0 H1 locs1 → W p l e R s m args below meth c H1 locs1 (cells + mc) (slots + ms) Q (F0 m (pc + 3) ls (.double r :: rest))) : W p l e R s m args below meth c H locs cells slots Q (F0 m pc ls st0) := by
  intro T hT X
  rcases hr T hT X with ⟨v, st₀, t, T', L, h0, X', hL, e1, e2, ⟨⟨r, u, hv, hp, hb⟩, hF⟩, st⟩ | ⟨q, st₀, t, T', L, E, ce, h0, X', hL, e1, e2, ⟨u, hp, hb, hF⟩, hce, hcv, hcl, st⟩
  · cases hv
    obtain ⟨k1, k2, k3⟩ := vx_keep h0 e1 hS hA hf hL hF
    obtain ⟨t2, a1, b1⟩ := kk r u t T'.heap (locs ++ L) e1.symm (by rw [← e2]; exact X'.warmed.alike) hp hb k1 k2 k3 T' rfl X'
    exact ⟨t2, st t2 a1, b1⟩
  · obtain ⟨k1, k2, k3⟩ := vx_keep h0 e1 hS hAX hf hL hF
    obtain ⟨t2, a1, b1⟩ := kx E ce q u t T'.heap (locs ++ L) e1.symm (by rw [← e2]; exact X'.warmed.alike) hp hb k1 k2 k3 (by rw [e1]; exact hce) hcv hcl T' rfl X'
    exact ⟨t2, st.trans a1, b1⟩
theorem vx_callv {S SX : Type} {post : S → Prop} {px : SX → Prop} {B : S → State → Prop} {BX : String → SX → State → Prop} {AX : Nat → Prop} (hr : vx_Run p l e R s m args below meth c H locs cells slots mc ms (F0 m pc ls st0) rest (va_Qv post B A1 a) (vx_X px BX AX) free) (hS : va_S A0 H0 H locs) (hA : ∀ q, q < H.size → A1 q → A0 q) (hf : ∀ q, free q → A0 q) (hAX : ∀ q, q < H.size → AX q → A0 q)
    (kx : ∀ (E : String) (ce : Cell) (q9 : Addr) (u : SX) (t : State) (H1 : Heap) (locs1 : List Loc), t.heap = H1 → s.vm.Alike t.vm → px u → BX E u t → H.size ≤ H1.size → (∀ q : Nat, q < H.size → ¬ AX q → H1[q]? = H[q]?) → va_S A0 H0 H1 locs1 → H1[q9]? = some ce → ce.vm = .none → s.vm.findClass E = some ce.cls → vx_W p l e R s m args below meth c H1 locs1 (cells + mc) (slots + ms) Q (F0 m pc ls rest) q9)
    (kk : ∀ (u : S) (t : State) (H1 : Heap) (locs1 : List Loc), t.heap = H1 → s.vm.Alike t.vm → post u → B u t → H.size ≤ H1.size → (∀ q : Nat, q < H.size → ¬ A1 q → H1[q]? = H[q]?) → va_S A0 H0 H1 locs1 → W p l e R s m args below meth c H1 locs1 (cells + mc) (slots + ms) Q (F0 m (pc + 3) ls (rest))) : W p l e R s m args below meth c H locs cells slots Q (F0 m pc ls st0) := by
  intro T hT X
  rcases hr T hT X with ⟨v, st₀, t, T', L, h0, X', hL, e1, e2, ⟨⟨u, hv, hp, hb⟩, hF⟩, st⟩ | ⟨q, st₀, t, T', L, E, ce, h0, X', hL, e1, e2, ⟨u, hp, hb, hF⟩, hce, hcv, hcl, st⟩
  · cases hv
    obtain ⟨k1, k2, k3⟩ := vx_keep h0 e1 hS hA hf hL hF
    obtain ⟨t2, a1, b1⟩ := kk u t T'.heap (locs ++ L) e1.symm (by rw [← e2]; exact X'.warmed.alike) hp hb k1 k2 k3 T' rfl X'
    exact ⟨t2, st t2 a1, b1⟩
  · obtain ⟨k1, k2, k3⟩ := vx_keep h0 e1 hS hAX hf hL hF
    obtain ⟨t2, a1, b1⟩ := kx E ce q u t T'.heap (locs ++ L) e1.symm (by rw [← e2]; exact X'.warmed.alike) hp hb k1 k2 k3 (by rw [e1]; exact hce) hcv hcl T' rfl X'
    exact ⟨t2, st.trans a1, b1⟩
/-- caught by the row x of this method's table; the rows ahead don't take it -/
theorem vx_catch {own name : String} {E : String} {ce : Cell} {q : Addr} (hown : s.vm.findClass own = some m.cls) (pre : List ExceptionTableEntry) (x : ExceptionTableEntry) (suf : List ExceptionTableEntry) (hsplit : c.exceptionTable.toList = pre ++ x :: suf)
    (hpass : ∀ z ∈ pre, covers z pc = false ∨ (z.catchType ≠ 0 ∧ ∃ nm : String, (Cond.classLink own z.catchType nm).before args s = true ∧ va_Nc E nm s)) (hx : covers x pc = true) (h0 : x.catchType ≠ 0)
    (hlink : (Cond.classLink own x.catchType name).before args s = true) (hcast : (Cond.castable E name).before args s = true) (hcell : H[q]? = some ce) (hv : ce.vm = .none) (hcl : s.vm.findClass E = some ce.cls)
    (kk : W p l e R s m args below meth c H locs cells slots Q (F0 m x.handlerPc ls [.ref q])) : vx_W p l e R s m args below meth c H locs cells slots Q (F0 m pc ls rest) q := by
  intro T hT X
  have hpl : e.platform.magicAccessors = ({} : Platform).magicAccessors := by rw [X.admits.platform]
  obtain ⟨c3, c4, hc3, hc4, hasg⟩ := Cond.castable_spec hcast
  cases Option.some.inj (hc3.symm.trans hcl)
  obtain ⟨c5, hc5, hcl5⟩ := Cond.classLink_spec hown hlink e.platform hpl
  cases Option.some.inj (hc4.symm.trans hc5)
  obtain ⟨vm', X', st⟩ := X.thenCaughtThrough q (g := F0 m pc ls rest) rfl (Steps.refl _) (by rw [hT]; exact hcell) (by rw [hv]; rfl) (by obtain ⟨k9, h9, -⟩ := Vm.findClass_spec hcl; exact ⟨k9, h9⟩) pre x suf hsplit
    (fun z hz => by
      rcases hpass z hz with h | ⟨hz0, nm, hl1, hn1⟩
      · exact Or.inl h
      · obtain ⟨c6, hc6, hcl6⟩ := Cond.classLink_spec hown hl1 e.platform hpl
        obtain ⟨a8, b8, h1, h2, h3⟩ := hn1
        cases Option.some.inj (h1.symm.trans hcl)
        cases Option.some.inj (h2.symm.trans hc6)
        exact Or.inr ⟨hz0, _, hcl6, h3⟩) hx (Or.inr ⟨h0, c4, hcl5, hasg⟩)
  obtain ⟨t, a1, b1⟩ := kk (T.setVm vm') hT X'
  exact ⟨t, st.trans a1, b1⟩
end Rows
section Ends
variable {p : Program} {l : Launch} {e : Env} {R : Room} {s : State} {m : MethodId} {args : Array Value} {below : List Frame} {meth : Method} {c : Code} {H : Heap} {locs : List Loc} {cells slots : Nat} {Q : State → Prop}
variable {mc ms : Nat} {free : Addr → Prop} {A0 A1 : Nat → Prop} {H0 : Heap} {a : Array Value} {ls : Array Slot} {st0 rest : List Value}
variable {Qc : Array Value → State → Outcome → State → Prop} {XC : String → State → State → Prop}
/-- what a body that may throw owes at its end -/
def vx_MQ (below : List Frame) (Qc : Array Value → State → Outcome → State → Prop) (XC : String → State → State → Prop) (a : Array Value) (s : State) (mc ms : Nat) (free : Addr → Prop) : State → Prop := fun t =>
  ∃ o, t.status = .running ∧ Ended t below o ∧ vx_Q Qc XC mc ms free a s o t
theorem vx_ret {g : JFrame} {mc ms : Nat} (k : W p l e R s m args below meth c H locs cells slots (MQ below Qc args s mc ms free) g) : W p l e R s m args below meth c H locs cells slots (vx_MQ below Qc XC args s mc ms free) g := by
  intro T hT X
  obtain ⟨t, a1, o, b1, b2, b3, b4⟩ := k T hT X
  exact ⟨t, a1, o, b1, b2, Or.inl ⟨b3, b4⟩⟩
/-- not caught here: it goes on to the caller -/
theorem vx_widen {g : JFrame} {q : Addr} {k n : Nat} (h1 : cells ≤ k) (h2 : slots ≤ n) (kk : vx_W p l e R s m args below meth c H locs k n Q g q) : vx_W p l e R s m args below meth c H locs cells slots Q g q := fun T hT X => kk T hT (stand_widen X h1 h2)
theorem vx_out {pc : Nat} {E : String} {ce : Cell} {q : Addr} {mc ms : Nat} (hout : ∀ x ∈ c.exceptionTable.toList, covers x pc = false) (hlocks : meth.locks = false) (hcell : H[q]? = some ce) (hv : ce.vm = .none) (hcl : s.vm.findClass E = some ce.cls)
    (hx : ∀ t : State, t.heap = H → s.vm.Alike t.vm → XC E s t) (hf : ∀ z ∈ locs, free z.base) (hc : cells ≤ mc) (hs : slots ≤ ms) :
    vx_W p l e R s m args below meth c H locs cells slots (vx_MQ below Qc XC args s mc ms free) (F0 m pc ls rest) q := by
  intro T hT X
  obtain ⟨st1, hrun, hend, hW, hsm⟩ := X.leaveThrown q (g := F0 m pc ls rest) rfl rfl rfl hout hlocks
  have hcell9 : (T.setFrames (.throwing q :: below)).heap[q]? = some ce := by
    show T.heap[q]? = some ce
    rw [hT]; exact hcell
  exact ⟨_, st1, .threw q, hrun, hend, Or.inr ⟨q, rfl, E, ce, locs, hx _ hT hW.alike, hcell9, hv, hcl, hW, hsm.mono hc hs, hf⟩⟩
theorem vx_frame {U : State} {k n : Nat} (h : s.sameButNew ({ U with vm := s.vm } : State) locs k n) : s.heap.size ≤ U.heap.size ∧ ∀ q : Nat, q < s.heap.size → (∀ z ∈ locs, z.base ≠ q) → U.heap[q]? = s.heap[q]? := by
  obtain ⟨-, h2, -, -, -, h6⟩ := h
  refine ⟨h2, fun q hq hz => ?_⟩
  obtain ⟨c9, e1, e2, e3, e4⟩ := h6 q _ (Array.getElem?_eq_getElem hq)
  have hs : c9.slots = (s.heap[q]).slots := Array.ext_getElem? fun i => e4 i fun hm => hz _ hm rfl
  have h9 : c9 = s.heap[q] := by
    rw [hs] at e2
    exact e2
  have e5 : U.heap[q]? = some c9 := e1
  rw [e5, h9, Array.getElem?_eq_getElem hq]
/-- the words of a throw but the four that speak of the heap -/
def vx_no (w : Cond) : Bool := decide (w ≠ .isRef (.static Bundle.tN "UNASSIGNED_STACK" Bundle.steD)) && decide (w ≠ .isRef (.static Bundle.tN "SUPPRESSED_SENTINEL" Bundle.listD)) && decide (w ≠ .laysStatic Bundle.tN "UNASSIGNED_STACK" Bundle.steD) && decide (w ≠ .laysStatic Bundle.tN "SUPPRESSED_SENTINEL" Bundle.listD)
def vx_at0 (own : String) (ic : Nat) (X : String) (names : List String) : List Cond := (Bundle.ownAtoms0 own ic X names).filter vx_no
def vx_atS (own : String) (ic : Nat) (X : String) (names : List String) : List Cond := (Bundle.ownAtoms own ic X names).filter vx_no
/-- a word that the tables alone decide, or a good one -/
def vx_ot (w : Cond) : Bool := w.onTables || goodWord w
theorem vx_ot_at {args a' : Array Value} {s U : State} {w : Cond} (hW : s.WarmedH U.vm) (hvm : s.vm = U.vm) (hg : vx_ot w = true) (h : w.before args s = true) : w.before a' U = true := by
  simp only [vx_ot, Bool.or_eq_true] at hg
  rcases hg with hg | hg
  · exact va_tabs hg hvm h
  · exact word_at hW (good_of_word hg) h
/-- a list's words: the good ones out of the method's own list, the others by premises of their own -/
theorem vx_hat {args : Array Value} {s : State} {L B : List Cond} (h1 : ∀ w ∈ L.filter goodWord, w.before args s = true) (h2 : ∀ w ∈ L.filter (fun w => !goodWord w), w ∈ B) (h3 : ∀ w ∈ B, w.before args s = true) : ∀ w ∈ L, w.before args s = true := by
  intro w hw
  by_cases g : goodWord w = true
  · exact h1 w (List.mem_filter.mpr ⟨hw, g⟩)
  · refine h3 w (h2 w (List.mem_filter.mpr ⟨hw, ?_⟩))
    show (!goodWord w) = true
    cases hgw : goodWord w
    · rfl
    · exact absurd hgw g
theorem vx_c {args : Array Value} {s : State} {w : Cond} {B : List Cond} (h : w.before args s = true) (t : ∀ w ∈ B, w.before args s = true) : ∀ w' ∈ w :: B, w'.before args s = true := fun w' h' => (List.mem_cons.mp h').elim (fun e => by rw [e]; exact h) (t w')
theorem vx_n {args : Array Value} {s : State} : ∀ w ∈ ([] : List Cond), w.before args s = true := fun _ h => nomatch h
theorem vx_own {args : Array Value} {s : State} {L : List Cond} (h1 : ∀ w ∈ L.filter vx_no, w.before args s = true)
    (hU : (Cond.isRef (.static Bundle.tN "UNASSIGNED_STACK" Bundle.steD)).before args s = true) (hN : (Cond.isRef (.static Bundle.tN "SUPPRESSED_SENTINEL" Bundle.listD)).before args s = true)
    (lU : (Cond.laysStatic Bundle.tN "UNASSIGNED_STACK" Bundle.steD).before args s = true) (lN : (Cond.laysStatic Bundle.tN "SUPPRESSED_SENTINEL" Bundle.listD).before args s = true) : ∀ w ∈ L, w.before args s = true := by
  intro w hw
  by_cases e1 : w = .isRef (.static Bundle.tN "UNASSIGNED_STACK" Bundle.steD)
  · rw [e1]; exact hU
  · by_cases e2 : w = .isRef (.static Bundle.tN "SUPPRESSED_SENTINEL" Bundle.listD)
    · rw [e2]; exact hN
    · by_cases e3 : w = .laysStatic Bundle.tN "UNASSIGNED_STACK" Bundle.steD
      · rw [e3]; exact lU
      · by_cases e4 : w = .laysStatic Bundle.tN "SUPPRESSED_SENTINEL" Bundle.listD
        · rw [e4]; exact lN
        · exact h1 w (List.mem_filter.mpr ⟨hw, by unfold vx_no; rw [decide_eq_true e1, decide_eq_true e2, decide_eq_true e3, decide_eq_true e4]; rfl⟩)
/-- where a static field lies, its class's statics cell in H -/
def vx_L (C n d : String) (A : Nat → Prop) (U : State) (H : Heap) : Prop := ∃ (c : ClassId) (k : Class) (i : Nat) (f : Field) (a : Nat) (cell : Cell), U.vm.findClass C = some c ∧ U.fieldFound? C n d = some (c, k, i, f) ∧ f.isStatic = true ∧ k.statics = some a ∧ H[a]? = some cell ∧ cell.vm.isStatics = true ∧ cell.cls = c ∧ f.slot < cell.slots.size ∧ k.staticTypes[f.slot]? = some f.type ∧ ¬ A a
theorem vx_L.moved {C n d : String} {A : Nat → Prop} {u U : State} {H : Heap} (hvm : u.vm.Alike U.vm) (h : vx_L C n d A u H) : vx_L C n d A U H := by
  obtain ⟨c, k, i, f, a, cell, h1, h2, h3, h4, h5, h6, h7, h8, h9, h10⟩ := h
  obtain ⟨k', hi', he⟩ := State.fieldFound?_setVm hvm h2
  exact ⟨c, k', i, f, a, cell, by rw [hvm.findClass]; exact h1, hi', h3, by rw [he]; exact h4, h5, h6, h7, h8, by rw [he]; exact h9, h10⟩
theorem vx_L.kept {C n d : String} {A : Nat → Prop} {U : State} {H H1 : Heap} (h : vx_L C n d A U H) (hq : ∀ a : Nat, a < H.size → ¬ A a → H1[a]? = H[a]?) : vx_L C n d A U H1 := by
  obtain ⟨c, k, i, f, a, cell, h1, h2, h3, h4, h5, h6, h7, h8, h9, h10⟩ := h
  exact ⟨c, k, i, f, a, cell, h1, h2, h3, h4, by rw [hq a (Array.getElem?_eq_some_iff.mp h5).1 h10]; exact h5, h6, h7, h8, h9, h10⟩
theorem vx_L.narrow {C n d : String} {A B : Nat → Prop} {U : State} {H : Heap} (h : vx_L C n d A U H) (hAB : ∀ q, B q → A q) : vx_L C n d B U H := by
  obtain ⟨c, k, i, f, a, cell, h1, h2, h3, h4, h5, h6, h7, h8, h9, h10⟩ := h
  exact ⟨c, k, i, f, a, cell, h1, h2, h3, h4, h5, h6, h7, h8, h9, fun z => h10 (hAB _ z)⟩
theorem vx_L.word {C n d : String} {A : Nat → Prop} {s : State} {args : Array Value} (h : vx_L C n d A s s.heap) : (Cond.laysStatic C n d).before args s = true := by
  obtain ⟨c, k, i, f, a, cell, h1, h2, h3, h4, h5, h6, h7, h8, h9, -⟩ := h
  show (Cond.laysStatic C n d).holds args s none s [] = true
  exact Cond.laysStatic_of h1 h2 h3 h4 h5 h6 h7 h8 h9
/-- .. and what it holds: null or some reference -/
def vx_Zq (C n d : String) (A : Nat → Prop) (U : State) (H : Heap) : Prop := va_Zq C n d A U H ∧ vx_L C n d A U H
theorem vx_Zq.moved {C n d : String} {A : Nat → Prop} {u U : State} {H : Heap} (hvm : u.vm.Alike U.vm) (h : vx_Zq C n d A u H) : vx_Zq C n d A U H := ⟨va_Zq.moved hvm h.1, vx_L.moved hvm h.2⟩
theorem vx_Zq.kept {C n d : String} {A : Nat → Prop} {U : State} {H H1 : Heap} (h : vx_Zq C n d A U H) (hq : ∀ a : Nat, a < H.size → ¬ A a → H1[a]? = H[a]?) : vx_Zq C n d A U H1 := ⟨va_Zq.kept h.1 hq, vx_L.kept h.2 hq⟩
theorem vx_Zq.narrow {C n d : String} {A B : Nat → Prop} {U : State} {H : Heap} (h : vx_Zq C n d A U H) (hAB : ∀ q, B q → A q) : vx_Zq C n d B U H := ⟨va_Zq.narrow h.1 hAB, vx_L.narrow h.2 hAB⟩
theorem vx_Zqof {args : Array Value} {s : State} {C n d : String} {A : Nat → Prop} (hl : (Cond.laysStatic C n d).before args s = true) (hini : (Cond.initialized C).before args s = true) (h : (Cond.isRef (.static C n d)).before args s = true) (hA : ∀ a : Nat, a < s.heap.size → ¬ A a) : vx_Zq C n d A s s.heap := by
  refine ⟨va_Zqof hl hini h hA, ?_⟩
  obtain ⟨c, k, i, f, a, cell, h1, h2, h3, h4, h5, h6, h7, h8, h9⟩ := Cond.laysStatic_spec hl
  exact ⟨c, k, i, f, a, cell, h1, h2, h3, h4, h5, h6, h7, h8, h9, hA a (Array.getElem?_eq_some_iff.mp h5).1⟩
theorem vx_isRef {C n d : String} {v : Value} {A : Nat → Prop} {s : State} {args : Array Value} (h : va_Z C n d v A s s.heap) (hv : v.isRef = true) : (Cond.isRef (.static C n d)).before args s = true := by
  obtain ⟨cf, kf, fi, f, a, cell, h1, h2, h3, h4, h5, h6, h7, -⟩ := h
  have he : (Term.static C n d).eval args s none [] s = some v := by
    simp [Term.eval, State.fieldNamed?, h1, h2, h4, h5, h6, h7]
  simp only [Cond.before, Cond.holds, Cond.value, he]
  cases v <;> simp_all [Value.isRef]
theorem vx_isRefq {C n d : String} {A : Nat → Prop} {s : State} {args : Array Value} (h : va_Zq C n d A s s.heap) : (Cond.isRef (.static C n d)).before args s = true := by
  rcases h with h | ⟨t, h⟩
  · exact vx_isRef h rfl
  · exact vx_isRef h rfl
/-- the same frame, seen from here: as if the method were called anew in this heap -/
theorem vx_rebase {T : State} (X : Stand p l e R s m args below meth c T locs cells slots) {R' : Room} (hf : R'.frames ≤ R.frames) (hl : R'.locals ≤ R.locals) (hc : cells + R'.cells ≤ R.cells) (hs : slots + R'.slots ≤ R.slots) :
    Stand p l e R' ((T.setVm s.vm).setFrames (.invoking m args :: below)) m args below meth c T [] 0 0 := by
  have htop : (T.setVm s.vm).topJava?.isSome := X.here.top
  have hF : ((T.setVm s.vm).setFrames (.invoking m args :: below)).frames = .invoking m args :: below := State.frames_setFrames _ (State.cur_lt_of_top htop)
  obtain ⟨g₀, hg0⟩ := Option.isSome_iff_exists.mp htop
  obtain ⟨r, hr⟩ := State.topJava?_eq_some.mp hg0
  have hl9 : e.platform.stackLimits (T.setVm s.vm).me = e.platform.stackLimits s.me := X.limits
  have hb9 : (T.setVm s.vm).me.stackBytes = s.me.stackBytes := X.bytes
  refine ⟨X.admits, X.cas, X.clock, hF, ?_, X.hears, X.method, X.code, X.here, X.tail, X.warmed, ?_, ?_, ?_⟩
  · have h := X.room
    have hU : ((T.setVm s.vm).setFrames (.invoking m args :: below)).localsInUse = s.localsInUse := by
      rw [State.localsInUse_invoking hF (meth := meth) (c := c) X.method X.code, State.localsInUse_invoking X.frames X.method X.code]
    simp only [State.hasRoom, Bool.and_eq_true, decide_eq_true_eq] at h ⊢
    obtain ⟨⟨⟨⟨h1, h2, h3, h4, h5, h6⟩, h7⟩, h8⟩, h9⟩ := h
    rw [X.frames, List.length_cons] at h2 h3
    have q1 := X.heapSize
    have q2 := X.used
    simp only [hF, hU, List.length_cons, State.stackLimits_setFrames, State.stackBytes_setFrames, hl9, hb9]
    refine ⟨⟨⟨⟨by omega, by omega, by omega, by omega, by omega, h6⟩, ?_⟩, ?_⟩, X.book⟩
    · show T.heap.size + R'.cells ≤ e.platform.maxCells
      omega
    · show T.slotsUsed + R'.slots ≤ e.platform.maxSlots
      omega
  · rw [State.stackLimits_setFrames]; rfl
  · rw [State.stackBytes_setFrames]; rfl
  · refine ⟨?_, Nat.le_refl _, Nat.le_refl _, ?_, ?_, fun a c9 h9 => ⟨c9, h9, rfl, rfl, fun _ _ => rfl⟩⟩
    · obtain ⟨t, ht, -⟩ := State.frames_cons hr
      show T.setVm s.vm = { ((T.setVm s.vm).setFrames (.invoking m args :: below)).setFrames (T.setVm s.vm).frames with heap := T.heap, slotsUsed := T.slotsUsed }
      rw [State.setFrames_setFrames, State.setFrames_self ht]
      rfl
    · show T.slotsUsed = T.slotsUsed + ((T.heap.toList.drop T.heap.size).map (·.slots.size)).sum
      rw [List.drop_eq_nil_of_le (Nat.le_of_eq Array.length_toList)]
      rfl
    · show ((T.heap.toList.drop T.heap.size).map (·.slots.size)).sum ≤ 0
      rw [List.drop_eq_nil_of_le (Nat.le_of_eq Array.length_toList)]
      exact Nat.le_refl _
/-- 'throw new E()': new; dup; invokespecial; athrow -/
theorem vx_throw0 {cc : ByteArray} {pc : Nat} (hexec : p.tables.exec = Jvm.exec) (hb : c.code = cc) (hl : l.stackTraces = false) {own cls : String} {names : List String} {ik ic mc ms : Nat} {A : Nat → Prop}
    (hown : s.vm.findClass own = some m.cls) (hcls : Bundle.fit cls = true) (hnames : ∀ n ∈ names, Bundle.fit n = true)
    (hk : (Cond.classLink own ik cls).before args s = true) (hini : (Cond.initialized cls).before args s = true) (hat : ∀ w ∈ vx_at0 own ic cls names, w.before args s = true)
    (hgood : ∀ w ∈ Cond.classLink own ik cls :: Cond.initialized cls :: vx_at0 own ic cls names, vx_ot w = true)
    (hU : vx_Zq Bundle.tN "UNASSIGNED_STACK" Bundle.steD A s s.heap) (hN : vx_Zq Bundle.tN "SUPPRESSED_SENTINEL" Bundle.listD A s s.heap) (hS : va_S A s.heap H locs) (hsize : ls.size = c.maxLocals)
    (d0 : decode cc pc = .ok (.new ik, 3)) (d3 : decode cc (pc + 3) = .ok (.dup, 1)) (d4 : decode cc (pc + 4) = .ok (.invokespecial ic, 3)) (d7 : decode cc (pc + 7) = .ok (.athrow, 1))
    (hout : ∀ x ∈ c.exceptionTable.toList, covers x (pc + 7) = false)
    (hRframes : names.length + 3 < R.frames) (hRlocals : (rest.map fun v => v.category).sum + (13 * (names.length + 1) + 42) ≤ R.locals) (hRcells : cells + 1 ≤ R.cells) (hRslots : slots + 6 ≤ R.slots) (hlocks : meth.locks = false)
    (hx : ∀ t : State, s.vm.Alike t.vm → H.size ≤ t.heap.size → (∀ q : Nat, q < H.size → t.heap[q]? = H[q]?) → XC cls s t)
    (hf : ∀ z ∈ locs, free z.base) (hc : cells + 1 ≤ mc) (hs : slots + 6 ≤ ms) :
    W p l e R s m args below meth c H locs cells slots (vx_MQ below Qc XC args s mc ms free) (F0 m pc ls rest) := by
  intro T hT X
  have htr : e.platform.stackTraces = false := (show e.platform.stackTraces = l.stackTraces by rw [X.admits.platform]).trans hl
  have Y := vx_rebase X (R' := { frames := R.frames, locals := R.locals, cells := 1, slots := 6 }) (Nat.le_refl _) (Nat.le_refl _) hRcells hRslots
  obtain ⟨s', hA⟩ : ∃ z, z = (T.setVm s.vm).setFrames (.invoking m args :: below) := ⟨_, rfl⟩
  rw [← hA] at Y
  have hvm : s'.vm = s.vm := by rw [hA]; rfl
  have hhp : s'.heap = H := by rw [hA]; exact hT
  have hW0 : s.WarmedH s'.vm := by rw [hvm]; exact State.WarmedH.refl s
  have hat' : ∀ w ∈ vx_at0 own ic cls names, w.before args s' = true := fun w hw => vx_ot_at hW0 hvm.symm (hgood w (List.mem_cons_of_mem _ (List.mem_cons_of_mem _ hw))) (hat w hw)
  have hk' : (Cond.classLink own ik cls).before args s' = true := vx_ot_at hW0 hvm.symm (hgood _ List.mem_cons_self) hk
  have hini' : (Cond.initialized cls).before args s' = true := vx_ot_at hW0 hvm.symm (hgood _ (List.mem_cons_of_mem _ List.mem_cons_self)) hini
  have hU' : vx_Zq Bundle.tN "UNASSIGNED_STACK" Bundle.steD A s' s'.heap := by rw [hhp]; exact vx_Zq.moved hW0.alike (hU.kept hS.2.1)
  have hN' : vx_Zq Bundle.tN "SUPPRESSED_SENTINEL" Bundle.listD A s' s'.heap := by rw [hhp]; exact vx_Zq.moved hW0.alike (hN.kept hS.2.1)
  have h : ∀ w ∈ Bundle.ownAtoms0 own ic cls names, w.before args s' = true := vx_own hat' (vx_isRefq hU'.1) (vx_isRefq hN'.1) hU'.2.word hN'.2.word
  have hown' : s'.vm.findClass own = some m.cls := by rw [hvm]; exact hown
  have hins : (Cond.instantiable cls 6).before args s' = true := h _ (by simp [Bundle.ownAtoms0])
  obtain ⟨vm₁, cX, kX, hfX, hkX, -, -, X₁, st1⟩ := Y.newCold hexec (own := own) (C := cls) (index := ik) (n := 6) hown' hk' hins hini'
    (g := F0 m pc ls rest) rfl (by rw [hb]; exact d0) (Nat.le_refl _) (Nat.le_refl _)
  generalize hT1 : (T.setVm vm₁).pushCell { cls := cX, slots := kX.instanceTypes.map defaultValue, vm := .none } = T1 at X₁ st1
  have hcat : (Value.ref T.heap.size).category = 1 := rfl
  have hcellA : T1.heap[T.heap.size]? = some (freshCell cX kX) := by rw [← hT1]; exact State.heap_pushCell_size _ _
  have d3' : decode c.code (pc + 3) = .ok (.dup, 1) := by rw [hb]; exact d3
  obtain ⟨U, hsteps, hrun, hend, hW, hsame, ce, hce, hO⟩ := X₁.ctorThrow0 hexec htr (own := own) (cls := cls) (names := names) (ic := ic) hown' hcls hnames h (fun x hx => nomatch hx) hfX hkX hcellA (by rw [hhp, hT]; exact Nat.le_refl _)
    (g := { method := m, pc := pc + 4, locals := ls, stack := .ref T.heap.size :: .ref T.heap.size :: rest, locked := none }) rfl hsize rfl rfl (rest := rest) rfl
    (by rw [hb]; exact d4) (by rw [hb]; exact d7) hout hRframes (by simp only [List.map_cons, List.sum_cons, hcat]; omega) hlocks
  obtain ⟨f1, f2⟩ := vx_frame hsame
  rw [hhp] at f1 f2
  have hWs : s.WarmedH U.vm := State.WarmedH.trans hW0 hW
  have hcl : s.vm.findClass cls = some ce.cls := by
    have h9 := hO.cls
    rw [hvm] at h9
    exact h9
  have hall : s.sameButNew ({ U with vm := s.vm } : State) locs mc ms := by
    subst hA
    obtain ⟨e1, e2⟩ := hsame
    rw [State.setFrames_setFrames] at e1
    have h2 : (T.setVm s.vm).sameButNew ({ U with vm := s.vm } : State) [] (0 + 1) (0 + 6) := ⟨e1, e2⟩
    have h3 := X.same.trans h2
    rw [List.append_nil] at h3
    exact h3.mono hc hs
  refine ⟨U, ?_, .threw T.heap.size, hrun, hend, Or.inr ⟨T.heap.size, rfl, cls, ce, locs, hx U hWs.alike f1 (fun q hq => f2 q hq (fun z hz => nomatch hz)), hce, hO.vm, hcl, hWs, hall, hf⟩⟩
  refine st1 _ ?_
  show Steps p.tables e below (T1.setTop { method := m, pc := pc + 3, locals := ls, stack := .ref T.heap.size :: rest, locked := none }) _
  jvm_step X₁.here [X₁.here.top, hexec, d3', Value.category]
  exact hsteps
/-- 'throw new E("text")': new; dup; ldc; invokespecial; athrow -/
theorem vx_throwS {cc : ByteArray} {pc : Nat} (hexec : p.tables.exec = Jvm.exec) (hb : c.code = cc) (hl : l.stackTraces = false) {own cls text : String} {names : List String} {ik is ic mc ms sa : Nat} {A : Nat → Prop}
    (hown : s.vm.findClass own = some m.cls) (hcls : Bundle.fit cls = true) (hnames : ∀ n ∈ names, Bundle.fit n = true)
    (hk : (Cond.classLink own ik cls).before args s = true) (hini : (Cond.initialized cls).before args s = true) (hstr : vk_R own is text sa s) (hat : ∀ w ∈ vx_atS own ic cls names, w.before args s = true)
    (hgood : ∀ w ∈ Cond.classLink own ik cls :: Cond.initialized cls :: vx_atS own ic cls names, vx_ot w = true)
    (hU : vx_Zq Bundle.tN "UNASSIGNED_STACK" Bundle.steD A s s.heap) (hN : vx_Zq Bundle.tN "SUPPRESSED_SENTINEL" Bundle.listD A s s.heap) (hS : va_S A s.heap H locs) (hsize : ls.size = c.maxLocals)
    (d0 : decode cc pc = .ok (.new ik, 3)) (d3 : decode cc (pc + 3) = .ok (.dup, 1)) (d4 : decode cc (pc + 4) = .ok (.ldc is, 2)) (d6 : decode cc (pc + 6) = .ok (.invokespecial ic, 3)) (d9 : decode cc (pc + 9) = .ok (.athrow, 1))
    (hout : ∀ x ∈ c.exceptionTable.toList, covers x (pc + 9) = false)
    (hRframes : names.length + 3 < R.frames) (hRlocals : (rest.map fun v => v.category).sum + (13 * (names.length + 1) + 43) ≤ R.locals) (hRcells : cells + 1 ≤ R.cells) (hRslots : slots + 6 ≤ R.slots) (hlocks : meth.locks = false)
    (hx : ∀ t : State, s.vm.Alike t.vm → H.size ≤ t.heap.size → (∀ q : Nat, q < H.size → t.heap[q]? = H[q]?) → XC cls s t)
    (hf : ∀ z ∈ locs, free z.base) (hc : cells + 1 ≤ mc) (hs : slots + 6 ≤ ms) :
    W p l e R s m args below meth c H locs cells slots (vx_MQ below Qc XC args s mc ms free) (F0 m pc ls rest) := by
  intro T hT X
  have htr : e.platform.stackTraces = false := (show e.platform.stackTraces = l.stackTraces by rw [X.admits.platform]).trans hl
  have Y := vx_rebase X (R' := { frames := R.frames, locals := R.locals, cells := 1, slots := 6 }) (Nat.le_refl _) (Nat.le_refl _) hRcells hRslots
  obtain ⟨s', hA⟩ : ∃ z, z = (T.setVm s.vm).setFrames (.invoking m args :: below) := ⟨_, rfl⟩
  rw [← hA] at Y
  have hvm : s'.vm = s.vm := by rw [hA]; rfl
  have hhp : s'.heap = H := by rw [hA]; exact hT
  have hW0 : s.WarmedH s'.vm := by rw [hvm]; exact State.WarmedH.refl s
  have hat' : ∀ w ∈ vx_atS own ic cls names, w.before args s' = true := fun w hw => vx_ot_at hW0 hvm.symm (hgood w (List.mem_cons_of_mem _ (List.mem_cons_of_mem _ hw))) (hat w hw)
  have hk' : (Cond.classLink own ik cls).before args s' = true := vx_ot_at hW0 hvm.symm (hgood _ List.mem_cons_self) hk
  have hini' : (Cond.initialized cls).before args s' = true := vx_ot_at hW0 hvm.symm (hgood _ (List.mem_cons_of_mem _ List.mem_cons_self)) hini
  have hU' : vx_Zq Bundle.tN "UNASSIGNED_STACK" Bundle.steD A s' s'.heap := by rw [hhp]; exact vx_Zq.moved hW0.alike (hU.kept hS.2.1)
  have hN' : vx_Zq Bundle.tN "SUPPRESSED_SENTINEL" Bundle.listD A s' s'.heap := by rw [hhp]; exact vx_Zq.moved hW0.alike (hN.kept hS.2.1)
  have h : ∀ w ∈ Bundle.ownAtoms own ic cls names, w.before args s' = true := vx_own hat' (vx_isRefq hU'.1) (vx_isRefq hN'.1) hU'.2.word hN'.2.word
  have hown' : s'.vm.findClass own = some m.cls := by rw [hvm]; exact hown
  have hins : (Cond.instantiable cls 6).before args s' = true := h _ (by simp [Bundle.ownAtoms])
  obtain ⟨vm₁, cX, kX, hfX, hkX, -, -, X₁, st1⟩ := Y.newCold hexec (own := own) (C := cls) (index := ik) (n := 6) hown' hk' hins hini'
    (g := F0 m pc ls rest) rfl (by rw [hb]; exact d0) (Nat.le_refl _) (Nat.le_refl _)
  generalize hT1 : (T.setVm vm₁).pushCell { cls := cX, slots := kX.instanceTypes.map defaultValue, vm := .none } = T1 at X₁ st1
  have hcat : (Value.ref T.heap.size).category = 1 := rfl
  have hcellA : T1.heap[T.heap.size]? = some (freshCell cX kX) := by rw [← hT1]; exact State.heap_pushCell_size _ _
  have d3' : decode c.code (pc + 3) = .ok (.dup, 1) := by rw [hb]; exact d3
  have d4' : decode c.code (pc + 4) = .ok (.ldc is, 2) := by rw [hb]; exact d4
  have hstr' : vk_R own is text sa s' := vk_R.warm hW0 hstr
  obtain ⟨U, hsteps, hrun, hend, hW, hsame, ce, hce, hO⟩ := X₁.ctorThrowS hexec htr (own := own) (cls := cls) (names := names) (ic := ic) hown' hcls hnames h (fun x hx => nomatch hx) hfX hkX hcellA (by rw [hhp, hT]; exact Nat.le_refl _) (msg := .ref sa) rfl
    (g := { method := m, pc := pc + 6, locals := ls, stack := .ref sa :: .ref T.heap.size :: .ref T.heap.size :: rest, locked := none }) rfl hsize rfl rfl (rest := rest) rfl
    (by rw [hb]; exact d6) (by rw [hb]; exact d9) hout hRframes (by simp only [List.map_cons, List.sum_cons, hcat]; omega) hlocks
  obtain ⟨f1, f2⟩ := vx_frame hsame
  rw [hhp] at f1 f2
  have hWs : s.WarmedH U.vm := State.WarmedH.trans hW0 hW
  have hcl : s.vm.findClass cls = some ce.cls := by
    have h9 := hO.cls
    rw [hvm] at h9
    exact h9
  have hall : s.sameButNew ({ U with vm := s.vm } : State) locs mc ms := by
    subst hA
    obtain ⟨e1, e2⟩ := hsame
    rw [State.setFrames_setFrames] at e1
    have h2 : (T.setVm s.vm).sameButNew ({ U with vm := s.vm } : State) [] (0 + 1) (0 + 6) := ⟨e1, e2⟩
    have h3 := X.same.trans h2
    rw [List.append_nil] at h3
    exact h3.mono hc hs
  refine ⟨U, ?_, .threw T.heap.size, hrun, hend, Or.inr ⟨T.heap.size, rfl, cls, ce, locs, hx U hWs.alike f1 (fun q hq => f2 q hq (fun z hz => nomatch hz)), hce, hO.vm, hcl, hWs, hall, hf⟩⟩
  refine st1 _ ?_
  show Steps p.tables e below (T1.setTop { method := m, pc := pc + 3, locals := ls, stack := .ref T.heap.size :: rest, locked := none }) _
  jvm_step X₁.here [X₁.here.top, hexec, d3', Value.category]
  exact X₁.ldcString hexec (own := own) (text := text) (index := is) (a := sa) hown' hstr'.1 hstr'.2
    (g := { method := m, pc := pc + 4, locals := ls, stack := .ref T.heap.size :: .ref T.heap.size :: rest, locked := none }) rfl d4' _ hsteps
/-- 'throw new E("text")', the text by a wide index -/
theorem vx_throwSW {cc : ByteArray} {pc : Nat} (hexec : p.tables.exec = Jvm.exec) (hb : c.code = cc) (hl : l.stackTraces = false) {own cls text : String} {names : List String} {ik is ic mc ms sa : Nat} {A : Nat → Prop}
    (hown : s.vm.findClass own = some m.cls) (hcls : Bundle.fit cls = true) (hnames : ∀ n ∈ names, Bundle.fit n = true)
    (hk : (Cond.classLink own ik cls).before args s = true) (hini : (Cond.initialized cls).before args s = true) (hstr : vk_R own is text sa s) (hat : ∀ w ∈ vx_atS own ic cls names, w.before args s = true)
    (hgood : ∀ w ∈ Cond.classLink own ik cls :: Cond.initialized cls :: vx_atS own ic cls names, vx_ot w = true)
    (hU : vx_Zq Bundle.tN "UNASSIGNED_STACK" Bundle.steD A s s.heap) (hN : vx_Zq Bundle.tN "SUPPRESSED_SENTINEL" Bundle.listD A s s.heap) (hS : va_S A s.heap H locs) (hsize : ls.size = c.maxLocals)
    (d0 : decode cc pc = .ok (.new ik, 3)) (d3 : decode cc (pc + 3) = .ok (.dup, 1)) (d4 : decode cc (pc + 4) = .ok (.ldc_w is, 3)) (d7 : decode cc (pc + 7) = .ok (.invokespecial ic, 3)) (d10 : decode cc (pc + 10) = .ok (.athrow, 1))
    (hout : ∀ x ∈ c.exceptionTable.toList, covers x (pc + 10) = false)
    (hRframes : names.length + 3 < R.frames) (hRlocals : (rest.map fun v => v.category).sum + (13 * (names.length + 1) + 43) ≤ R.locals) (hRcells : cells + 1 ≤ R.cells) (hRslots : slots + 6 ≤ R.slots) (hlocks : meth.locks = false)
    (hx : ∀ t : State, s.vm.Alike t.vm → H.size ≤ t.heap.size → (∀ q : Nat, q < H.size → t.heap[q]? = H[q]?) → XC cls s t)
    (hf : ∀ z ∈ locs, free z.base) (hc : cells + 1 ≤ mc) (hs : slots + 6 ≤ ms) :
    W p l e R s m args below meth c H locs cells slots (vx_MQ below Qc XC args s mc ms free) (F0 m pc ls rest) := by
  intro T hT X
  have htr : e.platform.stackTraces = false := (show e.platform.stackTraces = l.stackTraces by rw [X.admits.platform]).trans hl
  have Y := vx_rebase X (R' := { frames := R.frames, locals := R.locals, cells := 1, slots := 6 }) (Nat.le_refl _) (Nat.le_refl _) hRcells hRslots
  obtain ⟨s', hA⟩ : ∃ z, z = (T.setVm s.vm).setFrames (.invoking m args :: below) := ⟨_, rfl⟩
  rw [← hA] at Y
  have hvm : s'.vm = s.vm := by rw [hA]; rfl
  have hhp : s'.heap = H := by rw [hA]; exact hT
  have hW0 : s.WarmedH s'.vm := by rw [hvm]; exact State.WarmedH.refl s
  have hat' : ∀ w ∈ vx_atS own ic cls names, w.before args s' = true := fun w hw => vx_ot_at hW0 hvm.symm (hgood w (List.mem_cons_of_mem _ (List.mem_cons_of_mem _ hw))) (hat w hw)
  have hk' : (Cond.classLink own ik cls).before args s' = true := vx_ot_at hW0 hvm.symm (hgood _ List.mem_cons_self) hk
  have hini' : (Cond.initialized cls).before args s' = true := vx_ot_at hW0 hvm.symm (hgood _ (List.mem_cons_of_mem _ List.mem_cons_self)) hini
  have hU' : vx_Zq Bundle.tN "UNASSIGNED_STACK" Bundle.steD A s' s'.heap := by rw [hhp]; exact vx_Zq.moved hW0.alike (hU.kept hS.2.1)
  have hN' : vx_Zq Bundle.tN "SUPPRESSED_SENTINEL" Bundle.listD A s' s'.heap := by rw [hhp]; exact vx_Zq.moved hW0.alike (hN.kept hS.2.1)
  have h : ∀ w ∈ Bundle.ownAtoms own ic cls names, w.before args s' = true := vx_own hat' (vx_isRefq hU'.1) (vx_isRefq hN'.1) hU'.2.word hN'.2.word
  have hown' : s'.vm.findClass own = some m.cls := by rw [hvm]; exact hown
  have hins : (Cond.instantiable cls 6).before args s' = true := h _ (by simp [Bundle.ownAtoms])
  obtain ⟨vm₁, cX, kX, hfX, hkX, -, -, X₁, st1⟩ := Y.newCold hexec (own := own) (C := cls) (index := ik) (n := 6) hown' hk' hins hini'
    (g := F0 m pc ls rest) rfl (by rw [hb]; exact d0) (Nat.le_refl _) (Nat.le_refl _)
  generalize hT1 : (T.setVm vm₁).pushCell { cls := cX, slots := kX.instanceTypes.map defaultValue, vm := .none } = T1 at X₁ st1
  have hcat : (Value.ref T.heap.size).category = 1 := rfl
  have hcellA : T1.heap[T.heap.size]? = some (freshCell cX kX) := by rw [← hT1]; exact State.heap_pushCell_size _ _
  have d3' : decode c.code (pc + 3) = .ok (.dup, 1) := by rw [hb]; exact d3
  have d4' : decode c.code (pc + 4) = .ok (.ldc_w is, 3) := by rw [hb]; exact d4
  have hstr' : vk_R own is text sa s' := vk_R.warm hW0 hstr
  obtain ⟨U, hsteps, hrun, hend, hW, hsame, ce, hce, hO⟩ := X₁.ctorThrowS hexec htr (own := own) (cls := cls) (names := names) (ic := ic) hown' hcls hnames h (fun x hx => nomatch hx) hfX hkX hcellA (by rw [hhp, hT]; exact Nat.le_refl _) (msg := .ref sa) rfl
    (g := { method := m, pc := pc + 7, locals := ls, stack := .ref sa :: .ref T.heap.size :: .ref T.heap.size :: rest, locked := none }) rfl hsize rfl rfl (rest := rest) rfl
    (by rw [hb]; exact d7) (by rw [hb]; exact d10) hout hRframes (by simp only [List.map_cons, List.sum_cons, hcat]; omega) hlocks
  obtain ⟨f1, f2⟩ := vx_frame hsame
  rw [hhp] at f1 f2
  have hWs : s.WarmedH U.vm := State.WarmedH.trans hW0 hW
  have hcl : s.vm.findClass cls = some ce.cls := by
    have h9 := hO.cls
    rw [hvm] at h9
    exact h9
  have hall : s.sameButNew ({ U with vm := s.vm } : State) locs mc ms := by
    subst hA
    obtain ⟨e1, e2⟩ := hsame
    rw [State.setFrames_setFrames] at e1
    have h2 : (T.setVm s.vm).sameButNew ({ U with vm := s.vm } : State) [] (0 + 1) (0 + 6) := ⟨e1, e2⟩
    have h3 := X.same.trans h2
    rw [List.append_nil] at h3
    exact h3.mono hc hs
  refine ⟨U, ?_, .threw T.heap.size, hrun, hend, Or.inr ⟨T.heap.size, rfl, cls, ce, locs, hx U hWs.alike f1 (fun q hq => f2 q hq (fun z hz => nomatch hz)), hce, hO.vm, hcl, hWs, hall, hf⟩⟩
  refine st1 _ ?_
  show Steps p.tables e below (T1.setTop { method := m, pc := pc + 3, locals := ls, stack := .ref T.heap.size :: rest, locked := none }) _
  jvm_step X₁.here [X₁.here.top, hexec, d3', Value.category]
  exact X₁.ldcStringW hexec (own := own) (text := text) (index := is) (a := sa) hown' hstr'.1 hstr'.2
    (g := { method := m, pc := pc + 4, locals := ls, stack := .ref T.heap.size :: .ref T.heap.size :: rest, locked := none }) rfl d4' _ hsteps
end Ends
section Bodies
variable {l : Launch}
theorem vx_ofW {y : MethodName} {ws ws' : List Cond} {rm : Room} {Pc : Array Value → State → Prop} {Qc : Array Value → State → Outcome → State → Prop} {XC : String → State → State → Prop} {mc ms : Nat} {free : Addr → Prop} {cc : ByteArray} {maxL : Nat} {ret : Option FieldType}
    (hy : plainName y.cls = true) (hw : ws = Cond.code y cc maxL ret :: ws')
    (body : ∀ p e s m args below meth c s₁, BodyLoose p l y (headSpec ws rm) cc maxL ret e s m args below meth c s₁ → c.maxLocals = maxL → (∀ x ∈ c.exceptionTable.toList, False) → Pc args s →
      W p l e (headSpec ws rm).room s m args below meth c s.heap [] 0 0 (vx_MQ below Qc XC args s mc ms free) (entryFrame m args maxL)) : vx_Met l y ws rm Pc Qc XC mc ms free := by
  refine MetFree.of_bodyS (code := cc) (maxLocals := maxL) (ret := ret) hy ?_ ?_
  · intro args s m h hn
    obtain ⟨meth, c, h1, h2, h3, h4, h5, h6, -, -⟩ := Cond.code_spec hn (atoms_spec (ws := ws) h _ (by rw [hw]; exact List.mem_cons_self))
    exact ⟨meth, c, h1, h2, h3, h4, h5, h6⟩
  · intro p e s m args below meth c s₁ B hml hP _
    have hh0 : s₁.heap = s.heap := by rw [B.state]; rfl
    have ht : ∀ x ∈ c.exceptionTable.toList, False := by
      obtain ⟨meth9, c9, h1, h2, -, -, -, -, h7, -⟩ := Cond.code_spec B.named (atoms_spec (ws := ws) B.pre _ (by rw [hw]; exact List.mem_cons_self))
      cases Option.some.inj (h1.symm.trans B.method)
      cases Option.some.inj (h2.symm.trans (Stand.of_body B).code)
      intro x hx
      rw [Array.isEmpty_iff.mp h7] at hx
      cases hx
    obtain ⟨t, a1, o, b1, b2, b3⟩ := body p e s m args below meth c s₁ B hml ht hP s₁ hh0 (Stand.of_body B)
    exact ⟨t, o, a1, b1, b2, b3⟩
/-- the table of a body with handlers -/
theorem vx_table {p : Program} {x y : MethodName} {S : Spec} {cc bytes : ByteArray} {maxL maxL' : Nat} {ret ret' : Option FieldType} {e : Env} {s s₁ : State} {m : MethodId} {args : Array Value} {below : List Frame} {meth : Method} {c : Code} {hh : List (Nat × Nat × Nat × Nat)}
    (B : BodyLoose p l y S cc maxL ret e s m args below meth c s₁) (h : (Cond.codeWith y bytes maxL' ret' hh).before args s = true) : c.exceptionTable.toList = tableOf hh := by
  obtain ⟨m9, meth9, c9, hn9, h1, h2, -, -, h6, -⟩ := Cond.codeWith_spec h
  cases Option.some.inj (hn9.symm.trans B.named)
  cases Option.some.inj (h1.symm.trans B.method)
  cases Option.some.inj (h2.symm.trans (Stand.of_body B).code)
  rw [← h6, table_eq]
end Bodies
end VXA
/-! ===== END ===== -/
/-! ===== BEGIN a static call of a method with an exception table ===== -/
section VXS
variable {p : Program} {l : Launch} {e : Env} {R : Room} {s : State} {m : MethodId} {args : Array Value} {below : List Frame} {meth : Method} {c : Code} {T : State} {H : Heap} {locs : List Loc} {cells slots : Nat}
abbrev vx_CSW (R : Room) (s : State) (args : Array Value) (own : String) (index : Nat) (y : MethodName) (bytes : ByteArray) (maxL : Nat) (ret : Option FieldType) (hh : List (Nat × Nat × Nat × Nat)) (ws : List Cond) (rm : Room) (mc ms n : Nat) : Prop :=
  (rm.cells = mc ∧ rm.slots = ms ∧ rm.frames + 1 ≤ R.frames ∧ 8 + (maxL + 11) + rm.locals ≤ R.locals ∧ (∀ w ∈ ws, ∀ (a' : Array Value) (U : State), s.WarmedH U.vm → w.before a' U = true) ∧ Cond.codeWith y bytes maxL ret hh ∈ ws) ∧
  (Cond.codeWith y bytes maxL ret hh).before args s = true ∧ (Cond.initialized y.cls).before args s = true ∧ (y.cls ≠ "java/lang/invoke/MethodHandle" ∧ y.cls ≠ "java/lang/invoke/VarHandle") ∧
  (∀ sig, parseMethodDescriptor y.desc = some sig → n = sig.parameters.length) ∧ (Cond.methodLink own index y).before args s = true ∧ (Cond.static y).before args s = true
theorem vx_cwSW {own : String} {index maxL mc ms : Nat} {y : MethodName} {bytes : ByteArray} {ret : Option FieldType} {hh : List (Nat × Nat × Nat × Nat)} {Ts ws ws' : List Cond} {rm : Room} (n : Nat) (ht : ∀ w ∈ Ts, w.before args s = true) (hT : GoodIn Ts (va_wsS own index y ws)) (hw : ws = Cond.codeWith y bytes maxL ret hh :: ws') (hrc : rm.cells = mc) (hrs : rm.slots = ms)
    (hd : y.cls ≠ "java/lang/invoke/MethodHandle" ∧ y.cls ≠ "java/lang/invoke/VarHandle" ∧ (parseMethodDescriptor y.desc).map (fun d => d.parameters.length) = some n) (hR : rm.frames + 1 ≤ R.frames ∧ 8 + (maxL + 11) + rm.locals ≤ R.locals) :
    vx_CSW R s args own index y bytes maxL ret hh ws rm mc ms n := by
  have ok : ∀ w ∈ va_wsS own index y ws, w.before args s = true := fun w h => ht w (hT w h).1
  have hG : GoodIn Ts ws := fun w h => hT w (by unfold va_wsS; exact List.mem_append_right _ h)
  have hc : Cond.codeWith y bytes maxL ret hh ∈ ws := by rw [hw]; exact List.mem_cons_self
  refine ⟨⟨hrc, hrs, hR.1, hR.2, pay_in ht hG, hc⟩, ht _ (hG _ hc).1, ok _ (by simp [va_wsS]), ⟨hd.1, hd.2.1⟩, fun sig h => ?_, ok _ (by simp [va_wsS]), ok _ (by simp [va_wsS])⟩
  have h2 := hd.2.2
  rw [h] at h2
  exact (Option.some.inj h2).symm
theorem vx_callSW (X : Stand p l e R s m args below meth c T locs cells slots) (hexec : p.tables.exec = Jvm.exec) {own : String} {index : Nat} {y : MethodName} {bytes : ByteArray} {maxL : Nat} {ret : Option FieldType} {hh : List (Nat × Nat × Nat × Nat)}
    (hown : s.vm.findClass own = some m.cls) (hlink : (Cond.methodLink own index y).before args s = true) (hstat : (Cond.static y).before args s = true) (hinit : (Cond.initialized y.cls).before args s = true)
    (hcode : (Cond.codeWith y bytes maxL ret hh).before args s = true) (hy : y.cls ≠ "java/lang/invoke/MethodHandle" ∧ y.cls ≠ "java/lang/invoke/VarHandle")
    {W9 : Nat} {Pre : Pt → Array Value → Prop} {Post : Pt → Array Value → Option Value → Pt → Prop} (hK : Back l R p e below s args y 3 W9 Pre Post)
    {g : JFrame} (hg : g.method = m) (hsize : g.locals.size = c.maxLocals) {argsL rest : List Value} (hlen : ∀ sig, parseMethodDescriptor y.desc = some sig → argsL.length = sig.parameters.length)
    (hstack : g.stack = argsL.reverse ++ rest) (hW : 2 * g.monitorRoom + (rest.map fun v => v.category).sum ≤ W9) (hdg : decode c.code g.pc = .ok (.invokestatic index, 3))
    (hpre : ∀ vm₁, s.WarmedH vm₁ → Pre ⟨T.setVm vm₁, locs, cells, slots⟩ argsL.toArray) :
    ∃ (v : Option Value) (vm₁ : Vm) (B : Pt), s.WarmedH vm₁ ∧ Stand p l e R s m args below meth c B.U B.locs B.cells B.slots ∧ Post ⟨T.setVm vm₁, locs, cells, slots⟩ argsL.toArray v B ∧
      ∀ target, Steps p.tables e below (B.U.setTop { g with pc := g.pc + 3, stack := v.toList ++ rest }) target → Steps p.tables e below (T.setTop g) target := by
  obtain ⟨mk, methM, cM, hnamed, hmethM, -, -, -, -, -, -, hsigM⟩ := Cond.codeWith_spec hcode
  have hstatic : methM.isStatic = true := Cond.static_spec hnamed hmethM hstat
  obtain ⟨kP, hkP, -⟩ := className_of_methodNamed hnamed
  have hinitP : kP.init = .initialized := Cond.initialized_spec (findClass_of_methodNamed hnamed) hkP hinit
  obtain ⟨vm₁, X₁, hstep₁⟩ := X.invokestatic hexec hown hlink hnamed hmethM hstatic hkP hinitP hy (g := g) hg (argsL := argsL) (rest := rest) (hlen _ hsigM) hstack hdg
  obtain ⟨v, B, X', hpost, hsteps⟩ := hK m meth c ⟨T.setVm vm₁, locs, cells, slots⟩ { g with stack := rest } (.invokestatic index) mk argsL.toArray X₁ hg hsize hdg hW (X₁.named hnamed) (hpre vm₁ X₁.warmed)
  exact ⟨v, vm₁, B, X₁.warmed, X', hpost, fun target h => hstep₁ _ fun acts => by rw [doInvoke_state]; exact hsteps.trans h⟩
theorem vx_runSW {y : MethodName} {bytes cc : ByteArray} {maxL nL mc ms n index : Nat} {ret : Option FieldType} {hh : List (Nat × Nat × Nat × Nat)} {ws : List Cond} {rm : Room} {Pc : Array Value → State → Prop} {Qc : Array Value → State → Outcome → State → Prop} {free : Addr → Prop} {Ts : List Cond} {own : String} {As rest : List Value} {g : JFrame}
    (S : CallFix p m c cc nL s args Ts own) (hM : Met l y ws rm Pc Qc mc ms free) (cw : vx_CSW R s args own index y bytes maxL ret hh ws rm mc ms n) (hp : PreS s H Pc As)
    (hg : g.method = m) (hn : As.length = n) (hsize : g.locals.size = nL) (hstack : g.stack = As.reverse ++ rest) (hW : 2 * g.monitorRoom + (rest.map fun v => v.category).sum ≤ 8) (hdg : decode cc g.pc = .ok (.invokestatic index, 3)) (hf : cells + mc ≤ R.cells ∧ slots + ms ≤ R.slots) :
    va_Run p l e R s m args below meth c H locs cells slots mc ms g rest (Qc As.toArray) (free) := by
  obtain ⟨⟨hrc, hrs, hfr, hlo, hws, hcw⟩, hcode, hini, hy, hlen, hl, hstt⟩ := cw
  have hK : Back l R p e below s args y 3 8 (PreOf R mc ms Pc) (PostOf Qc mc ms free) := va_backW (hh := hh) (bytes := bytes) (maxL := maxL) (ret := ret) hM hp.1 hrc hrs hfr hlo hws hcw (fun a' U hW => word_at hW (Or.inl (by first | rfl | simp [Cond.onTables, Cond.keeps, Cond.steady])) hini)
  obtain ⟨hx, hb, hml, ho, -⟩ := S
  intro T hT X
  obtain ⟨v, vm₁, ⟨U', l2, c2, s2⟩, hW₁, X', ⟨g', mk, t, L, e1, e2, hq, h1, hL, h2, h3⟩, st⟩ := vx_callSW X hx (hh := hh) (bytes := bytes) (maxL := maxL) (ret := ret) ho hl hstt hini hcode hy hK hg (hsize.trans hml.symm) (argsL := As) (rest := rest) (fun sig h => hn.trans (hlen sig h)) hstack hW (by rw [hb]; exact hdg)
    (fun vm₁ hW₁ => ⟨hf.1, hf.2, hp.2 (T.setVm vm₁) hT hW₁⟩)
  dsimp only [Pt.U, Pt.locs, Pt.cells, Pt.slots] at X' e1 e2 h1 h2 h3 st
  subst h1; subst h2; subst h3
  exact ⟨v, (T.setVm vm₁).calling g' mk As.toArray, t, U', L, hT, X', hL, e1, e2, hq, st⟩
/-- not caught here, past rows that name other classes: it goes on to the caller -/
theorem vx_outP {p : Program} {l : Launch} {e : Env} {R : Room} {s : State} {m : MethodId} {args : Array Value} {below : List Frame} {meth : Method} {c : Code} {H : Heap} {locs : List Loc} {cells slots : Nat} {free : Addr → Prop} {ls : Array Slot} {rest : List Value} {Qc : Array Value → State → Outcome → State → Prop} {XC : String → State → State → Prop}
    {pc : Nat} {own E : String} {ce : Cell} {q : Addr} {mc ms : Nat} (hown : s.vm.findClass own = some m.cls) (hlocks : meth.locks = false)
    (hpass : ∀ z ∈ c.exceptionTable.toList, covers z pc = false ∨ (z.catchType ≠ 0 ∧ ∃ nm : String, (Cond.classLink own z.catchType nm).before args s = true ∧ va_Nc E nm s)) (hcell : H[q]? = some ce) (hv : ce.vm = .none) (hcl : s.vm.findClass E = some ce.cls)
    (hx : ∀ t : State, t.heap = H → s.vm.Alike t.vm → XC E s t) (hf : ∀ z ∈ locs, free z.base) (hc : cells ≤ mc) (hs : slots ≤ ms) :
    vx_W p l e R s m args below meth c H locs cells slots (vx_MQ below Qc XC args s mc ms free) (F0 m pc ls rest) q := by
  intro T hT X
  have hpl : e.platform.magicAccessors = ({} : Platform).magicAccessors := by rw [X.admits.platform]
  obtain ⟨vm', hW', X', st⟩ := X.outThrough hlocks q (g := F0 m pc ls rest) rfl rfl rfl (cell := ce) (by rw [hT]; exact hcell) (by rw [hv]; rfl)
    (by obtain ⟨k9, h9, -⟩ := Vm.findClass_spec hcl; exact ⟨k9, h9⟩) (fun z hz => by
      rcases hpass z hz with h | ⟨hz0, nm, hl1, hn1⟩
      · exact Or.inl h
      · obtain ⟨c6, hc6, hcl6⟩ := Cond.classLink_spec hown hl1 e.platform hpl
        obtain ⟨a8, b8, h1, h2, h3⟩ := hn1
        cases Option.some.inj (h1.symm.trans hcl)
        cases Option.some.inj (h2.symm.trans hc6)
        exact Or.inr ⟨hz0, _, hcl6, h3⟩)
  obtain ⟨g₀, hfr⟩ := X'.frames_eq
  have hcell9 : ((T.setVm vm').setFrames (.throwing q :: below)).heap[q]? = some ce := by
    show T.heap[q]? = some ce
    rw [hT]; exact hcell
  have hend : Ended ((T.setVm vm').setFrames (.throwing q :: below)) below (.threw q) := State.frames_setFrames _ (State.cur_lt_of_frames hfr)
  refine ⟨(T.setVm vm').setFrames (.throwing q :: below), ?_, .threw q, X'.here.running, hend, Or.inr ⟨q, rfl, E, ce, locs, hx _ hT (X'.ends _).1.alike, hcell9, hv, hcl, (X'.ends _).1, (X'.ends _).2.mono hc hs, hf⟩⟩
  rw [X.pushThrowing_eq]
  exact st
/-- a thing of a world lies in the heap -/
theorem vx_lt {D : va_G} {cl : List vw_C} {ws : va_W} {H1 : Heap} (h : va_P D cl ws H1) {k : Nat} {q : Nat × va_E} (hk : ws[k]? = some q) : q.1 < H1.size := (h k q hk).lt
end VXS
/-! ===== END ===== -/
/-! ===== BEGIN methods with a table of their own: called by a name, returning or throwing ===== -/
section VXH
/-! vx_backW, vx_callVX, vx_callSX, vx_callVW, vx_runVW, vx_runVX, vx_runSX, vx_ofWH follow the same proofs as their sisters above (Free/Laws.lean, Shelf42/LK1.lean); vx_outP calls Shelf42/NT130.lean (outThrough). -/
section
variable {l : Launch} {R : Room} {p : Program} {e : Env} {below : List Frame} {s : State} {sargs : Array Value} {y : MethodName} {len W9 : Nat}
theorem vx_backW {ws : List Cond} {rm : Room} {Pc : Array Value → State → Prop} {Qc : Array Value → State → Outcome → State → Prop} {XC : String → State → State → Prop} {mc ms : Nat} {free : Addr → Prop} {bytes : ByteArray} {maxL : Nat} {ret : Option FieldType} {hh : List (Nat × Nat × Nat × Nat)}
    (hM : vx_Met l y ws rm Pc Qc XC mc ms free) (hblind : FrameBlind Pc) (hrc : rm.cells = mc) (hrs : rm.slots = ms)
    (hframes : rm.frames + 1 ≤ R.frames) (hlocals : W9 + (maxL + 11) + rm.locals ≤ R.locals)
    (hws : ∀ w ∈ ws, ∀ a' U, s.WarmedH U.vm → w.before a' U = true) (hcode : Cond.codeWith y bytes maxL ret hh ∈ ws) (hinit : ∀ a' U, s.WarmedH U.vm → (Cond.initialized y.cls).before a' U = true) :
    vx_Back l R p e below s sargs y len W9 (PreOf R mc ms Pc) (PostOf Qc mc ms free) (vx_Post XC mc ms free) := by
  intro m meth c A g ig mk a X hg hsize hdg hW hn hp
  have h1 : (headSpec ws rm).pre.before a A.U = true := atoms_intro fun w hw => hws w hw _ _ X.warmed
  have h2 : (Cond.codeWith y bytes maxL ret hh).before a A.U = true := hws _ hcode _ _ X.warmed
  have h3 : (Cond.initialized y.cls).before a A.U = true := hinit _ _ X.warmed
  have h4 : A.cells + (headSpec ws rm).room.cells ≤ R.cells := by rw [show (headSpec ws rm).room.cells = mc from hrc]; exact hp.1
  have h5 : A.slots + (headSpec ws rm).room.slots ≤ R.slots := by rw [show (headSpec ws rm).room.slots = ms from hrs]; exact hp.2.1
  have hPc : Pc a (A.U.calling g mk a) := hblind _ _ _ _ hp.2.2
  obtain ⟨U, Ls, c0, s0⟩ := A
  dsimp only [Pt.U, Pt.locs, Pt.cells, Pt.slots] at h1 h2 h3 h4 h5 X hn hPc ⊢
  obtain ⟨m9, methY, cY, hn9, hmY, hcY, -, hlY, -⟩ := Cond.codeWith_spec h2
  cases Option.some.inj (hn9.symm.trans hn)
  obtain ⟨kY, hkY, -⟩ := className_of_methodNamed hn
  have hinitY : kY.init = .initialized := Cond.initialized_spec (findClass_of_methodNamed hn) hkY h3
  have h : At U g.method c below := by rw [hg]; exact X.here
  have hlocals9 : W9 + (maxL + 11) + (headSpec ws rm).room.locals ≤ R.locals := hlocals
  have happ : (headSpec ws rm).appliesLoose y e.platform (U.calling g mk a) = true :=
    Spec.appliesLoose_calling (g := g) h hdg hn hkY hinitY
      (X.room_calling (g := g) (R' := (headSpec ws rm).room) hsize hmY hcY hframes (by rw [hlY]; omega) h4 h5) h1
  obtain ⟨mid, hmid⟩ := h.above
  have hfr : (U.setTop g).frames = (.java g :: mid) ++ below := by rw [State.frames_setTop' g h.top, hmid]; rfl
  obtain ⟨o, s₂, hsteps, -, hend, hq⟩ := Steps.callFree hM p X.admits X.cas X.clock (acts := []) hfr happ hPc trivial
  have hq' : vx_Q Qc XC mc ms free a (U.calling g mk a) o s₂ := hq
  rw [State.frames_setTop' g h.top] at hend
  obtain ⟨g₀, hg0⟩ := Option.isSome_iff_exists.mp h.top
  obtain ⟨r, hr⟩ := State.topJava?_eq_some.mp hg0
  have hr' : (({ U with heap := s₂.heap, slotsUsed := s₂.slotsUsed } : State).setVm s₂.vm).frames = .java g₀ :: r := hr
  rcases hq' with ⟨hqc, L, hfe, hL⟩ | ⟨q, rfl, E, ce, L, hx, hce, hcv, hcl, hW₂, hsm, hL⟩
  · obtain ⟨⟨v, rfl⟩, hW₂, e2, q2, q3, q4, q5, q6⟩ := id hfe
    have e3 : s₂ = ({ (U.calling g mk a).setFrames s₂.frames with heap := s₂.heap, slotsUsed := s₂.slotsUsed } : State).setVm s₂.vm := by
      have : s₂ = ({ s₂ with vm := (U.calling g mk a).vm } : State).setVm s₂.vm := rfl
      rw [e2] at this
      exact this
    obtain ⟨c₂, i₂, len₂, hc₂, hd₂, hf₂⟩ := hend
    have hW' : U.WarmedH s₂.vm := hW₂
    have hcc : c₂ = c := by
      have h1 : s₂.code? g.method = U.code? g.method := by
        rw [State.code?_eq, State.code?_eq, hW'.alike.method?]
      exact Option.some.inj (hc₂.symm.trans (h1.trans h.code))
    subst hcc
    have hlen : len₂ = len := by rw [hdg] at hd₂; cases hd₂; rfl
    subst hlen
    have hs₂ : s₂ = (({ U with heap := s₂.heap, slotsUsed := s₂.slotsUsed } : State).setVm s₂.vm).setTop { g with pc := g.pc + len₂, stack := v.toList ++ g.stack } := by
      refine e3.trans ?_
      rw [hf₂, State.calling_eq h.top, State.setFrames_setFrames, State.setTop_of_frames _ hr', hr]
      rfl
    have hsame : U.sameButNew ({ U with heap := s₂.heap, slotsUsed := s₂.slotsUsed } : State) L mc ms := by
      refine ⟨?_, q2, q3, q4, q5, q6⟩
      obtain ⟨t, ht, -⟩ := State.frames_cons hr
      show ({ U with heap := s₂.heap, slotsUsed := s₂.slotsUsed } : State) = { U.setFrames U.frames with heap := s₂.heap, slotsUsed := s₂.slotsUsed }
      rw [State.setFrames_self ht]
    subst hg
    refine Or.inl ⟨v, ⟨(({ U with heap := s₂.heap, slotsUsed := s₂.slotsUsed } : State).setVm s₂.vm), Ls ++ L, c0 + mc, s0 + ms⟩,
      ⟨X.admits, X.cas, X.clock, X.frames, X.room, X.hears, X.method, X.code, (X.here.setHeapUsed s₂.heap s₂.slotsUsed).setVm hW'.alike, X.tail, State.WarmedH.trans X.warmed hW', X.limits, X.bytes, X.same.trans (hsame.setVm s.vm)⟩,
      ⟨g, mk, s₂, L, rfl, rfl, hqc, rfl, hL, rfl, rfl⟩, ?_⟩
    show Steps p.tables e below _ ((({ U with heap := s₂.heap, slotsUsed := s₂.slotsUsed } : State).setVm s₂.vm).setTop { g with pc := g.pc + len₂, stack := v.toList ++ g.stack })
    rw [← hs₂]
    exact hsteps
  · obtain ⟨e2, q2, q3, q4, q5, q6⟩ := id hsm
    have e3 : s₂ = ({ (U.calling g mk a).setFrames s₂.frames with heap := s₂.heap, slotsUsed := s₂.slotsUsed } : State).setVm s₂.vm := by
      have : s₂ = ({ s₂ with vm := (U.calling g mk a).vm } : State).setVm s₂.vm := rfl
      rw [e2] at this
      exact this
    have hf₂ : s₂.frames = .throwing q :: .java g :: U.frames.tail := hend
    have hW' : U.WarmedH s₂.vm := hW₂
    have hs₂ : s₂ = ((({ U with heap := s₂.heap, slotsUsed := s₂.slotsUsed } : State).setVm s₂.vm).setTop g).pushFrame (.throwing q) := by
      refine e3.trans ?_
      rw [hf₂, State.calling_eq h.top, State.setFrames_setFrames, State.pushFrame, State.frames_setTop _ hr', State.setTop_of_frames _ hr', State.setFrames_setFrames, hr]
      rfl
    have hsame : U.sameButNew ({ U with heap := s₂.heap, slotsUsed := s₂.slotsUsed } : State) L mc ms := by
      refine ⟨?_, q2, q3, q4, q5, q6⟩
      obtain ⟨t, ht, -⟩ := State.frames_cons hr
      show ({ U with heap := s₂.heap, slotsUsed := s₂.slotsUsed } : State) = { U.setFrames U.frames with heap := s₂.heap, slotsUsed := s₂.slotsUsed }
      rw [State.setFrames_self ht]
    subst hg
    refine Or.inr ⟨q, ⟨(({ U with heap := s₂.heap, slotsUsed := s₂.slotsUsed } : State).setVm s₂.vm), Ls ++ L, c0 + mc, s0 + ms⟩,
      ⟨X.admits, X.cas, X.clock, X.frames, X.room, X.hears, X.method, X.code, (X.here.setHeapUsed s₂.heap s₂.slotsUsed).setVm hW'.alike, X.tail, State.WarmedH.trans X.warmed hW', X.limits, X.bytes, X.same.trans (hsame.setVm s.vm)⟩,
      ⟨g, mk, s₂, L, E, ce, rfl, rfl, hx, hce, hcv, hcl, rfl, hL, rfl, rfl⟩, ?_⟩
    show Steps p.tables e below _ (((({ U with heap := s₂.heap, slotsUsed := s₂.slotsUsed } : State).setVm s₂.vm).setTop g).pushFrame (.throwing q))
    rw [← hs₂]
    exact hsteps
end
variable {p : Program} {l : Launch} {e : Env} {R : Room} {s : State} {m : MethodId} {args : Array Value} {below : List Frame} {meth : Method} {c : Code} {T : State} {H : Heap} {locs : List Loc} {cells slots : Nat}
theorem vx_callVX (X : Stand p l e R s m args below meth c T locs cells slots) (hexec : p.tables.exec = Jvm.exec) {own C : String} {index : Nat} {y : MethodName} {bytes : ByteArray} {maxL : Nat} {ret : Option FieldType} {hh : List (Nat × Nat × Nat × Nat)}
    (hown : s.vm.findClass own = some m.cls) (hlink : (Cond.methodLink own index y).before args s = true) (hinst : (Cond.instanceMethod y).before args s = true) (hsel : (Cond.selects C y y).before args s = true)
    (hcode : (Cond.codeWith y bytes maxL ret hh).before args s = true) (hy : y.cls ≠ "java/lang/invoke/MethodHandle" ∧ y.cls ≠ "java/lang/invoke/VarHandle")
    {W9 : Nat} {Pre : Pt → Array Value → Prop} {Post : Pt → Array Value → Option Value → Pt → Prop} {PostX : Pt → Array Value → Addr → Pt → Prop} (hK : vx_Back l R p e below s args y 3 W9 Pre Post PostX)
    {b : Addr} {cellB : Cell} (hcell : T.heap[b]? = some cellB) (hobj : cellB.vm.isStatics = false) (hcls : s.vm.findClass C = some cellB.cls)
    {g : JFrame} (hg : g.method = m) (hsize : g.locals.size = c.maxLocals) {argsL rest : List Value} (hlen : ∀ sig, parseMethodDescriptor y.desc = some sig → argsL.length = sig.parameters.length)
    (hstack : g.stack = argsL.reverse ++ .ref b :: rest) (hW : 2 * g.monitorRoom + (rest.map fun v => v.category).sum ≤ W9) (hdg : decode c.code g.pc = .ok (.invokevirtual index, 3))
    (hpre : ∀ vm₁, s.WarmedH vm₁ → Pre ⟨T.setVm vm₁, locs, cells, slots⟩ (Value.ref b :: argsL).toArray) :
    (∃ (v : Option Value) (vm₁ : Vm) (B : Pt), s.WarmedH vm₁ ∧ Stand p l e R s m args below meth c B.U B.locs B.cells B.slots ∧ Post ⟨T.setVm vm₁, locs, cells, slots⟩ (Value.ref b :: argsL).toArray v B ∧
      ∀ target, Steps p.tables e below (B.U.setTop { g with pc := g.pc + 3, stack := v.toList ++ rest }) target → Steps p.tables e below (T.setTop g) target) ∨
    (∃ (q : Addr) (vm₁ : Vm) (B : Pt), s.WarmedH vm₁ ∧ Stand p l e R s m args below meth c B.U B.locs B.cells B.slots ∧ PostX ⟨T.setVm vm₁, locs, cells, slots⟩ (Value.ref b :: argsL).toArray q B ∧
      Steps p.tables e below (T.setTop g) ((B.U.setTop { g with stack := rest }).pushFrame (.throwing q))) := by
  obtain ⟨mk, methM, hnamed, hmethM, hstM, habM⟩ := Cond.instanceMethod_spec hinst
  obtain ⟨m8, methM', cM, hn8, hmethM', -, -, -, -, -, -, hsigM⟩ := Cond.codeWith_spec hcode
  cases Option.some.inj (hn8.symm.trans hnamed)
  cases hmethM.symm.trans hmethM'
  obtain ⟨c2, r2, m2, q1, q2, q3, q4, kP, hkP, hkPi⟩ := Cond.selects_spec hsel
  cases hcls.symm.trans q1
  cases (State.methodFound?_of_named hnamed hy).symm.trans q2
  cases hnamed.symm.trans q3
  have hselP : selectMethod e.platform s.vm cellB.cls mk = .method mk := by rw [Launch.admits_selectMethod X.admits]; exact q4
  obtain ⟨vm₁, X₁, hstep₁⟩ := X.invokevirtual hexec hown hlink hnamed hmethM hstM hkP hkPi hy (a := b) (cell := cellB) hcell
    (fun z h => by rw [h] at hobj; cases hobj) hselP hmethM habM hkP hkPi (g := g) hg (argsL := argsL) (rest := rest) (hlen _ hsigM) hstack hdg
  rcases hK m meth c ⟨T.setVm vm₁, locs, cells, slots⟩ { g with stack := rest } (.invokevirtual index) mk (Value.ref b :: argsL).toArray X₁ hg hsize hdg hW (X₁.named hnamed) (hpre vm₁ X₁.warmed) with ⟨v, B, X', hpost, hsteps⟩ | ⟨q, B, X', hpost, hsteps⟩
  · exact Or.inl ⟨v, vm₁, B, X₁.warmed, X', hpost, fun target h => hstep₁ _ fun acts => by rw [doInvoke_state]; exact hsteps.trans h⟩
  · exact Or.inr ⟨q, vm₁, B, X₁.warmed, X', hpost, hstep₁ _ fun acts => by rw [doInvoke_state]; exact hsteps⟩
theorem vx_callSX (X : Stand p l e R s m args below meth c T locs cells slots) (hexec : p.tables.exec = Jvm.exec) {own : String} {index : Nat} {y : MethodName} {bytes : ByteArray} {maxL : Nat} {ret : Option FieldType} {hh : List (Nat × Nat × Nat × Nat)}
    (hown : s.vm.findClass own = some m.cls) (hlink : (Cond.methodLink own index y).before args s = true) (hstat : (Cond.static y).before args s = true) (hinit : (Cond.initialized y.cls).before args s = true)
    (hcode : (Cond.codeWith y bytes maxL ret hh).before args s = true) (hy : y.cls ≠ "java/lang/invoke/MethodHandle" ∧ y.cls ≠ "java/lang/invoke/VarHandle")
    {W9 : Nat} {Pre : Pt → Array Value → Prop} {Post : Pt → Array Value → Option Value → Pt → Prop} {PostX : Pt → Array Value → Addr → Pt → Prop} (hK : vx_Back l R p e below s args y 3 W9 Pre Post PostX)
    {g : JFrame} (hg : g.method = m) (hsize : g.locals.size = c.maxLocals) {argsL rest : List Value} (hlen : ∀ sig, parseMethodDescriptor y.desc = some sig → argsL.length = sig.parameters.length)
    (hstack : g.stack = argsL.reverse ++ rest) (hW : 2 * g.monitorRoom + (rest.map fun v => v.category).sum ≤ W9) (hdg : decode c.code g.pc = .ok (.invokestatic index, 3))
    (hpre : ∀ vm₁, s.WarmedH vm₁ → Pre ⟨T.setVm vm₁, locs, cells, slots⟩ argsL.toArray) :
    (∃ (v : Option Value) (vm₁ : Vm) (B : Pt), s.WarmedH vm₁ ∧ Stand p l e R s m args below meth c B.U B.locs B.cells B.slots ∧ Post ⟨T.setVm vm₁, locs, cells, slots⟩ argsL.toArray v B ∧
      ∀ target, Steps p.tables e below (B.U.setTop { g with pc := g.pc + 3, stack := v.toList ++ rest }) target → Steps p.tables e below (T.setTop g) target) ∨
    (∃ (q : Addr) (vm₁ : Vm) (B : Pt), s.WarmedH vm₁ ∧ Stand p l e R s m args below meth c B.U B.locs B.cells B.slots ∧ PostX ⟨T.setVm vm₁, locs, cells, slots⟩ argsL.toArray q B ∧
      Steps p.tables e below (T.setTop g) ((B.U.setTop { g with stack := rest }).pushFrame (.throwing q))) := by
  obtain ⟨mk, methM, cM, hnamed, hmethM, -, -, -, -, -, -, hsigM⟩ := Cond.codeWith_spec hcode
  have hstatic : methM.isStatic = true := Cond.static_spec hnamed hmethM hstat
  obtain ⟨kP, hkP, -⟩ := className_of_methodNamed hnamed
  have hinitP : kP.init = .initialized := Cond.initialized_spec (findClass_of_methodNamed hnamed) hkP hinit
  obtain ⟨vm₁, X₁, hstep₁⟩ := X.invokestatic hexec hown hlink hnamed hmethM hstatic hkP hinitP hy (g := g) hg (argsL := argsL) (rest := rest) (hlen _ hsigM) hstack hdg
  rcases hK m meth c ⟨T.setVm vm₁, locs, cells, slots⟩ { g with stack := rest } (.invokestatic index) mk argsL.toArray X₁ hg hsize hdg hW (X₁.named hnamed) (hpre vm₁ X₁.warmed) with ⟨v, B, X', hpost, hsteps⟩ | ⟨q, B, X', hpost, hsteps⟩
  · exact Or.inl ⟨v, vm₁, B, X₁.warmed, X', hpost, fun target h => hstep₁ _ fun acts => by rw [doInvoke_state]; exact hsteps.trans h⟩
  · exact Or.inr ⟨q, vm₁, B, X₁.warmed, X', hpost, hstep₁ _ fun acts => by rw [doInvoke_state]; exact hsteps⟩
theorem vx_callVW (X : Stand p l e R s m args below meth c T locs cells slots) (hexec : p.tables.exec = Jvm.exec) {own C : String} {index : Nat} {y : MethodName} {bytes : ByteArray} {maxL : Nat} {ret : Option FieldType} {hh : List (Nat × Nat × Nat × Nat)}
    (hown : s.vm.findClass own = some m.cls) (hlink : (Cond.methodLink own index y).before args s = true) (hinst : (Cond.instanceMethod y).before args s = true) (hsel : (Cond.selects C y y).before args s = true)
    (hcode : (Cond.codeWith y bytes maxL ret hh).before args s = true) (hy : y.cls ≠ "java/lang/invoke/MethodHandle" ∧ y.cls ≠ "java/lang/invoke/VarHandle")
    {W9 : Nat} {Pre : Pt → Array Value → Prop} {Post : Pt → Array Value → Option Value → Pt → Prop} (hK : Back l R p e below s args y 3 W9 Pre Post)
    {b : Addr} {cellB : Cell} (hcell : T.heap[b]? = some cellB) (hobj : cellB.vm.isStatics = false) (hcls : s.vm.findClass C = some cellB.cls)
    {g : JFrame} (hg : g.method = m) (hsize : g.locals.size = c.maxLocals) {argsL rest : List Value} (hlen : ∀ sig, parseMethodDescriptor y.desc = some sig → argsL.length = sig.parameters.length)
    (hstack : g.stack = argsL.reverse ++ .ref b :: rest) (hW : 2 * g.monitorRoom + (rest.map fun v => v.category).sum ≤ W9) (hdg : decode c.code g.pc = .ok (.invokevirtual index, 3))
    (hpre : ∀ vm₁, s.WarmedH vm₁ → Pre ⟨T.setVm vm₁, locs, cells, slots⟩ (Value.ref b :: argsL).toArray) :
    ∃ (v : Option Value) (vm₁ : Vm) (B : Pt), s.WarmedH vm₁ ∧ Stand p l e R s m args below meth c B.U B.locs B.cells B.slots ∧ Post ⟨T.setVm vm₁, locs, cells, slots⟩ (Value.ref b :: argsL).toArray v B ∧
      ∀ target, Steps p.tables e below (B.U.setTop { g with pc := g.pc + 3, stack := v.toList ++ rest }) target → Steps p.tables e below (T.setTop g) target := by
  obtain ⟨mk, methM, hnamed, hmethM, hstM, habM⟩ := Cond.instanceMethod_spec hinst
  obtain ⟨m8, methM', cM, hn8, hmethM', -, -, -, -, -, -, hsigM⟩ := Cond.codeWith_spec hcode
  cases Option.some.inj (hn8.symm.trans hnamed)
  cases hmethM.symm.trans hmethM'
  obtain ⟨c2, r2, m2, q1, q2, q3, q4, kP, hkP, hkPi⟩ := Cond.selects_spec hsel
  cases hcls.symm.trans q1
  cases (State.methodFound?_of_named hnamed hy).symm.trans q2
  cases hnamed.symm.trans q3
  have hselP : selectMethod e.platform s.vm cellB.cls mk = .method mk := by rw [Launch.admits_selectMethod X.admits]; exact q4
  obtain ⟨vm₁, X₁, hstep₁⟩ := X.invokevirtual hexec hown hlink hnamed hmethM hstM hkP hkPi hy (a := b) (cell := cellB) hcell
    (fun z h => by rw [h] at hobj; cases hobj) hselP hmethM habM hkP hkPi (g := g) hg (argsL := argsL) (rest := rest) (hlen _ hsigM) hstack hdg
  obtain ⟨v, B, X', hpost, hsteps⟩ := hK m meth c ⟨T.setVm vm₁, locs, cells, slots⟩ { g with stack := rest } (.invokevirtual index) mk (Value.ref b :: argsL).toArray X₁ hg hsize hdg hW (X₁.named hnamed) (hpre vm₁ X₁.warmed)
  exact ⟨v, vm₁, B, X₁.warmed, X', hpost, fun target h => hstep₁ _ fun acts => by rw [doInvoke_state]; exact hsteps.trans h⟩
abbrev vx_CVW (R : Room) (s : State) (args : Array Value) (own C : String) (index : Nat) (y : MethodName) (bytes : ByteArray) (maxL : Nat) (ret : Option FieldType) (hh : List (Nat × Nat × Nat × Nat)) (ws : List Cond) (rm : Room) (mc ms n : Nat) : Prop :=
  (rm.cells = mc ∧ rm.slots = ms ∧ rm.frames + 1 ≤ R.frames ∧ 8 + (maxL + 11) + rm.locals ≤ R.locals ∧ (∀ w ∈ ws, ∀ (a' : Array Value) (U : State), s.WarmedH U.vm → w.before a' U = true) ∧ Cond.codeWith y bytes maxL ret hh ∈ ws) ∧
  (Cond.codeWith y bytes maxL ret hh).before args s = true ∧ (Cond.initialized y.cls).before args s = true ∧ (y.cls ≠ "java/lang/invoke/MethodHandle" ∧ y.cls ≠ "java/lang/invoke/VarHandle") ∧
  (∀ sig, parseMethodDescriptor y.desc = some sig → n = sig.parameters.length) ∧ (Cond.methodLink own index y).before args s = true ∧ (Cond.instanceMethod y).before args s = true ∧ (Cond.selects C y y).before args s = true
theorem vx_cwVW {own C : String} {index maxL mc ms : Nat} {y : MethodName} {bytes : ByteArray} {ret : Option FieldType} {hh : List (Nat × Nat × Nat × Nat)} {Ts ws ws' : List Cond} {rm : Room} (n : Nat) (ht : ∀ w ∈ Ts, w.before args s = true) (hT : GoodIn Ts (wsV own index C y ws)) (hw : ws = Cond.codeWith y bytes maxL ret hh :: ws') (hrc : rm.cells = mc) (hrs : rm.slots = ms)
    (hd : y.cls = C ∧ y.cls ≠ "java/lang/invoke/MethodHandle" ∧ y.cls ≠ "java/lang/invoke/VarHandle" ∧ (parseMethodDescriptor y.desc).map (fun d => d.parameters.length) = some n) (hR : rm.frames + 1 ≤ R.frames ∧ 8 + (maxL + 11) + rm.locals ≤ R.locals) :
    vx_CVW R s args own C index y bytes maxL ret hh ws rm mc ms n := by
  obtain ⟨hC, hd⟩ := hd
  subst hC
  have ok : ∀ w ∈ wsV own index y.cls y ws, w.before args s = true := fun w h => ht w (hT w h).1
  have hG : GoodIn Ts ws := fun w h => hT w (by unfold wsV; exact List.mem_append_right _ h)
  have hc : Cond.codeWith y bytes maxL ret hh ∈ ws := by rw [hw]; exact List.mem_cons_self
  refine ⟨⟨hrc, hrs, hR.1, hR.2, pay_in ht hG, hc⟩, ht _ (hG _ hc).1, ok _ (by simp [wsV]), ⟨hd.1, hd.2.1⟩, fun sig h => ?_, ok _ (by simp [wsV]), ok _ (by simp [wsV]), ok _ (by simp [wsV])⟩
  have h2 := hd.2.2
  rw [h] at h2
  exact (Option.some.inj h2).symm
theorem vx_runVW {y : MethodName} {bytes cc : ByteArray} {maxL nL mc ms n index : Nat} {ret : Option FieldType} {hh : List (Nat × Nat × Nat × Nat)} {ws : List Cond} {rm : Room} {Pc : Array Value → State → Prop} {Qc : Array Value → State → Outcome → State → Prop} {free : Addr → Prop} {Ts : List Cond} {own C : String} {b : Addr} {As rest : List Value} {g : JFrame}
    (S : CallFix p m c cc nL s args Ts own) (hM : Met l y ws rm Pc Qc mc ms free) (cw : vx_CVW R s args own C index y bytes maxL ret hh ws rm mc ms n) (hp : PreV s H C b Pc As)
    (hg : g.method = m) (hn : As.length = n) (hsize : g.locals.size = nL) (hstack : g.stack = As.reverse ++ .ref b :: rest) (hW : 2 * g.monitorRoom + (rest.map fun v => v.category).sum ≤ 8) (hdg : decode cc g.pc = .ok (.invokevirtual index, 3)) (hf : cells + mc ≤ R.cells ∧ slots + ms ≤ R.slots) :
    va_Run p l e R s m args below meth c H locs cells slots mc ms g rest (Qc (Value.ref b :: As).toArray) free := by
  obtain ⟨⟨hrc, hrs, hfr, hlo, hws, hcw⟩, hcode, hini, hy, hlen, hl, hin, hse⟩ := cw
  have hK : Back l R p e below s args y 3 8 (PreOf R mc ms Pc) (PostOf Qc mc ms free) := va_backW (hh := hh) (bytes := bytes) (maxL := maxL) (ret := ret) hM hp.1 hrc hrs hfr hlo hws hcw (fun a' U hW => word_at hW (Or.inl (by first | rfl | simp [Cond.onTables, Cond.keeps, Cond.steady])) hini)
  obtain ⟨hx, hb, hml, ho, -⟩ := S
  obtain ⟨-, ⟨cellB, hcB, hoB, hclB⟩, hPc⟩ := hp
  intro T hT X
  obtain ⟨v, vm₁, ⟨U', l2, c2, s2⟩, hW₁, X', ⟨g', mk, t, L, e1, e2, hq, h1, hL, h2, h3⟩, st⟩ := vx_callVW X hx (C := C) (hh := hh) (bytes := bytes) (maxL := maxL) (ret := ret) ho hl hin hse hcode hy hK (by rw [hT]; exact hcB) hoB hclB hg (hsize.trans hml.symm) (argsL := As) (rest := rest) (fun sig h => hn.trans (hlen sig h)) hstack hW (by rw [hb]; exact hdg)
    (fun vm₁ hW₁ => ⟨hf.1, hf.2, hPc (T.setVm vm₁) hT hW₁⟩)
  dsimp only [Pt.U, Pt.locs, Pt.cells, Pt.slots] at X' e1 e2 h1 h2 h3 st
  subst h1; subst h2; subst h3
  exact ⟨v, (T.setVm vm₁).calling g' mk (Value.ref b :: As).toArray, t, U', L, hT, X', hL, e1, e2, hq, st⟩
section
variable {y : MethodName} {bytes cc : ByteArray} {maxL nL mc ms n index : Nat} {ret : Option FieldType} {ws : List Cond} {rm : Room} {Pc : Array Value → State → Prop} {Qc : Array Value → State → Outcome → State → Prop} {XC : String → State → State → Prop} {free : Addr → Prop} {Ts : List Cond} {own C : String} {b : Addr} {As rest : List Value} {g : JFrame}
theorem vx_runVX {hh : List (Nat × Nat × Nat × Nat)} (S : CallFix p m c cc nL s args Ts own) (hM : vx_Met l y ws rm Pc Qc XC mc ms free) (cw : vx_CVW R s args own C index y bytes maxL ret hh ws rm mc ms n) (hp : PreV s H C b Pc As)
    (hg : g.method = m) (hn : As.length = n) (hsize : g.locals.size = nL) (hstack : g.stack = As.reverse ++ .ref b :: rest) (hW : 2 * g.monitorRoom + (rest.map fun v => v.category).sum ≤ 8) (hdg : decode cc g.pc = .ok (.invokevirtual index, 3)) (hf : cells + mc ≤ R.cells ∧ slots + ms ≤ R.slots) :
    vx_Run p l e R s m args below meth c H locs cells slots mc ms g rest (Qc (Value.ref b :: As).toArray) XC free := by
  obtain ⟨⟨hrc, hrs, hfr, hlo, hws, hcw⟩, hcode, hini, hy, hlen, hl, hin, hse⟩ := cw
  have hK : vx_Back l R p e below s args y 3 8 (PreOf R mc ms Pc) (PostOf Qc mc ms free) (vx_Post XC mc ms free) := vx_backW (hh := hh) (bytes := bytes) (maxL := maxL) (ret := ret) hM hp.1 hrc hrs hfr hlo hws hcw (fun a' U hW => word_at hW (Or.inl (by first | rfl | simp [Cond.onTables, Cond.keeps, Cond.steady])) hini)
  obtain ⟨hx, hb, hml, ho, -⟩ := S
  obtain ⟨-, ⟨cellB, hcB, hoB, hclB⟩, hPc⟩ := hp
  intro T hT X
  rcases vx_callVX X hx (C := C) (hh := hh) (bytes := bytes) (maxL := maxL) (ret := ret) ho hl hin hse hcode hy hK (by rw [hT]; exact hcB) hoB hclB hg (hsize.trans hml.symm) (argsL := As) (rest := rest) (fun sig h => hn.trans (hlen sig h)) hstack hW (by rw [hb]; exact hdg)
    (fun vm₁ hW₁ => ⟨hf.1, hf.2, hPc (T.setVm vm₁) hT hW₁⟩) with ⟨v, vm₁, ⟨U', l2, c2, s2⟩, hW₁, X', ⟨g', mk, t, L, e1, e2, hq, h1, hL, h2, h3⟩, st⟩ | ⟨q, vm₁, ⟨U', l2, c2, s2⟩, hW₁, X', ⟨g', mk, t, L, E, ce, e1, e2, hq, hce, hcv, hcl, h1, hL, h2, h3⟩, st⟩
  · dsimp only [Pt.U, Pt.locs, Pt.cells, Pt.slots] at X' e1 e2 h1 h2 h3 st
    subst h1; subst h2; subst h3
    exact Or.inl ⟨v, (T.setVm vm₁).calling g' mk (Value.ref b :: As).toArray, t, U', L, hT, X', hL, e1, e2, hq, st⟩
  · dsimp only [Pt.U, Pt.locs, Pt.cells, Pt.slots] at X' e1 e2 h1 h2 h3 st hcl
    subst h1; subst h2; subst h3
    exact Or.inr ⟨q, (T.setVm vm₁).calling g' mk (Value.ref b :: As).toArray, t, U', L, E, ce, hT, X', hL, e1, e2, hq, hce, hcv, vx_cls hW₁ hcl, st⟩
theorem vx_runSX {hh : List (Nat × Nat × Nat × Nat)} (S : CallFix p m c cc nL s args Ts own) (hM : vx_Met l y ws rm Pc Qc XC mc ms free) (cw : vx_CSW R s args own index y bytes maxL ret hh ws rm mc ms n) (hp : PreS s H Pc As)
    (hg : g.method = m) (hn : As.length = n) (hsize : g.locals.size = nL) (hstack : g.stack = As.reverse ++ rest) (hW : 2 * g.monitorRoom + (rest.map fun v => v.category).sum ≤ 8) (hdg : decode cc g.pc = .ok (.invokestatic index, 3)) (hf : cells + mc ≤ R.cells ∧ slots + ms ≤ R.slots) :
    vx_Run p l e R s m args below meth c H locs cells slots mc ms g rest (Qc As.toArray) XC free := by
  obtain ⟨⟨hrc, hrs, hfr, hlo, hws, hcw⟩, hcode, hini, hy, hlen, hl, hstt⟩ := cw
  have hK : vx_Back l R p e below s args y 3 8 (PreOf R mc ms Pc) (PostOf Qc mc ms free) (vx_Post XC mc ms free) := vx_backW (hh := hh) (bytes := bytes) (maxL := maxL) (ret := ret) hM hp.1 hrc hrs hfr hlo hws hcw (fun a' U hW => word_at hW (Or.inl (by first | rfl | simp [Cond.onTables, Cond.keeps, Cond.steady])) hini)
  obtain ⟨hx, hb, hml, ho, -⟩ := S
  intro T hT X
  rcases vx_callSX X hx (hh := hh) (bytes := bytes) (maxL := maxL) (ret := ret) ho hl hstt hini hcode hy hK hg (hsize.trans hml.symm) (argsL := As) (rest := rest) (fun sig h => hn.trans (hlen sig h)) hstack hW (by rw [hb]; exact hdg)
    (fun vm₁ hW₁ => ⟨hf.1, hf.2, hp.2 (T.setVm vm₁) hT hW₁⟩) with ⟨v, vm₁, ⟨U', l2, c2, s2⟩, hW₁, X', ⟨g', mk, t, L, e1, e2, hq, h1, hL, h2, h3⟩, st⟩ | ⟨q, vm₁, ⟨U', l2, c2, s2⟩, hW₁, X', ⟨g', mk, t, L, E, ce, e1, e2, hq, hce, hcv, hcl, h1, hL, h2, h3⟩, st⟩
  · dsimp only [Pt.U, Pt.locs, Pt.cells, Pt.slots] at X' e1 e2 h1 h2 h3 st
    subst h1; subst h2; subst h3
    exact Or.inl ⟨v, (T.setVm vm₁).calling g' mk As.toArray, t, U', L, hT, X', hL, e1, e2, hq, st⟩
  · dsimp only [Pt.U, Pt.locs, Pt.cells, Pt.slots] at X' e1 e2 h1 h2 h3 st hcl
    subst h1; subst h2; subst h3
    exact Or.inr ⟨q, (T.setVm vm₁).calling g' mk As.toArray, t, U', L, E, ce, hT, X', hL, e1, e2, hq, hce, hcv, vx_cls hW₁ hcl, st⟩
end
end VXH
theorem vx_ofWH {l : Launch} {y : MethodName} {ws ws' : List Cond} {rm : Room} {Pc : Array Value → State → Prop} {Qc : Array Value → State → Outcome → State → Prop} {XC : String → State → State → Prop} {mc ms : Nat} {free : Addr → Prop} {cc : ByteArray} {maxL : Nat} {ret : Option FieldType} {hh : List (Nat × Nat × Nat × Nat)}
    (hy : plainName y.cls = true) (hw : ws = Cond.codeWith y cc maxL ret hh :: ws')
    (body : ∀ p e s m args below meth c s₁, BodyLoose p l y (headSpec ws rm) cc maxL ret e s m args below meth c s₁ → c.maxLocals = maxL → Pc args s →
      W p l e (headSpec ws rm).room s m args below meth c s.heap [] 0 0 (vx_MQ below Qc XC args s mc ms free) (entryFrame m args maxL)) : vx_Met l y ws rm Pc Qc XC mc ms free := by
  refine MetFree.of_bodyS (code := cc) (maxLocals := maxL) (ret := ret) hy ?_ ?_
  · intro args s m h hn
    obtain ⟨m9, meth, c, hn9, h1, h2, h3, h4, -, h5, h6, -⟩ := Cond.codeWith_spec (atoms_spec (ws := ws) h _ (by rw [hw]; exact List.mem_cons_self))
    cases hn.symm.trans hn9
    exact ⟨meth, c, h1, h2, h3, h4, h5, h6⟩
  · intro p e s m args below meth c s₁ B hml hP _
    have hh0 : s₁.heap = s.heap := by rw [B.state]; rfl
    obtain ⟨t, a1, o, b1, b2, b3⟩ := body p e s m args below meth c s₁ B hml hP s₁ hh0 (Stand.of_body B)
    exact ⟨t, o, a1, b1, b2, b3⟩
/-! ===== END ===== -/

/-! ===== BEGIN printed: names, fields, word lists, decode rows ===== -/
def RX0 : String := "MirrorLoom$CommandReader"
def TX0 : u_T := fun k => match k with
  | 0 => ("MirrorLoom$CommandReader", "text", "LMirrorLoom$CommandText;", true)
  | 1 => ("MirrorLoom$CommandReader", "numbers", "LMirrorLoom$Numbers;", true)
  | 2 => ("MirrorLoom$CommandReader", "word", "LMirrorLoom$Word;", false)
  | 3 => ("MirrorLoom$CommandReader", "position", "I", false)
  | _ => ("MirrorLoom$CommandReader", "fault", "I", false)
def tyX0 : Nat → FieldType := fun k => match k with
  | 0 => .object "MirrorLoom$CommandText"
  | 1 => .object "MirrorLoom$Numbers"
  | 2 => .object "MirrorLoom$Word"
  | 3 => .int
  | _ => .int
abbrev wsX00 : List Cond := u_ws RX0 TX0 5
theorem nmX0 : ∀ a, a < 5 → ∀ b, b < 5 → a ≠ b → (TX0 a).2.1 ≠ (TX0 b).2.1 := by decide +kernel
theorem tyX0_ok : ∀ k, k < 5 → parseFieldDescriptor (TX0 k).2.2.1 = some (tyX0 k) := by decide +kernel
abbrev cX0_init : ByteArray := prog_2_method_1_code
def yX0_init : MethodName := ⟨RX0, "<init>", "(LMirrorLoom$CommandText;)V"⟩
abbrev cX0_rewind : ByteArray := prog_2_method_2_code
def yX0_rewind : MethodName := ⟨RX0, "rewind", "()V"⟩
abbrev cX0_findFault : ByteArray := prog_2_method_3_code
def yX0_findFault : MethodName := ⟨RX0, "findFault", "()I"⟩
abbrev cX0_readNext : ByteArray := prog_2_method_4_code
def yX0_readNext : MethodName := ⟨RX0, "readNext", "()Z"⟩
abbrev cX0_failAt : ByteArray := prog_2_method_5_code
def yX0_failAt : MethodName := ⟨RX0, "failAt", "(I)Z"⟩
abbrev cX0_skipSpaces : ByteArray := prog_2_method_6_code
def yX0_skipSpaces : MethodName := ⟨RX0, "skipSpaces", "()V"⟩
abbrev cX0_readWord : ByteArray := prog_2_method_7_code
def yX0_readWord : MethodName := ⟨RX0, "readWord", "()Z"⟩
abbrev cX0_isBetween : ByteArray := prog_2_method_8_code
def yX0_isBetween : MethodName := ⟨RX0, "isBetween", "(Ljava/lang/String;I)Z"⟩
abbrev cX0_readNumbers : ByteArray := prog_2_method_9_code
def yX0_readNumbers : MethodName := ⟨RX0, "readNumbers", "()Z"⟩
abbrev cX0_readNumber : ByteArray := prog_2_method_10_code
def yX0_readNumber : MethodName := ⟨RX0, "readNumber", "(I)Z"⟩
abbrev cX0_readSemicolon : ByteArray := prog_2_method_11_code
def yX0_readSemicolon : MethodName := ⟨RX0, "readSemicolon", "()Z"⟩
def RX1 : String := "MirrorLoom$CommandText"
def TX1 : u_T := fun k => match k with
  | 0 => ("MirrorLoom$CommandText", "bytes", "LMirrorLoom$Numbers;", true)
  | _ => ("MirrorLoom$CommandText", "length", "I", false)
def tyX1 : Nat → FieldType := fun k => match k with
  | 0 => .object "MirrorLoom$Numbers"
  | _ => .int
abbrev wsX10 : List Cond := u_ws RX1 TX1 2
theorem nmX1 : ∀ a, a < 2 → ∀ b, b < 2 → a ≠ b → (TX1 a).2.1 ≠ (TX1 b).2.1 := by decide +kernel
theorem tyX1_ok : ∀ k, k < 2 → parseFieldDescriptor (TX1 k).2.2.1 = some (tyX1 k) := by decide +kernel
abbrev cX1_init : ByteArray := prog_3_method_1_code
def yX1_init : MethodName := ⟨RX1, "<init>", "()V"⟩
abbrev cX1_append : ByteArray := prog_3_method_2_code
def yX1_append : MethodName := ⟨RX1, "append", "(I)I"⟩
abbrev cX1_empty : ByteArray := prog_3_method_3_code
def yX1_empty : MethodName := ⟨RX1, "empty", "()I"⟩
abbrev cX1_at : ByteArray := prog_3_method_4_code
def yX1_at : MethodName := ⟨RX1, "at", "(I)I"⟩
def RX2 : String := "MirrorLoom$Grid"
def TX2 : u_T := fun k => match k with
  | _ => ("MirrorLoom$Grid", "values", "[I", true)
def tyX2 : Nat → FieldType := fun k => match k with
  | _ => .array .int
abbrev wsX20 : List Cond := u_ws RX2 TX2 1
theorem nmX2 : ∀ a, a < 1 → ∀ b, b < 1 → a ≠ b → (TX2 a).2.1 ≠ (TX2 b).2.1 := by decide +kernel
theorem tyX2_ok : ∀ k, k < 1 → parseFieldDescriptor (TX2 k).2.2.1 = some (tyX2 k) := by decide +kernel
abbrev cX2_init : ByteArray := prog_4_method_1_code
def yX2_init : MethodName := ⟨RX2, "<init>", "()V"⟩
abbrev cX2_at : ByteArray := prog_4_method_2_code
def yX2_at : MethodName := ⟨RX2, "at", "(II)I"⟩
abbrev cX2_put : ByteArray := prog_4_method_3_code
def yX2_put : MethodName := ⟨RX2, "put", "(III)V"⟩
abbrev cX2_putAll : ByteArray := prog_4_method_4_code
def yX2_putAll : MethodName := ⟨RX2, "putAll", "(I)V"⟩
abbrev cX2_copyFrom : ByteArray := prog_4_method_5_code
def yX2_copyFrom : MethodName := ⟨RX2, "copyFrom", "(LMirrorLoom$Grid;)V"⟩
abbrev cX2_startsRun : ByteArray := prog_4_method_6_code
def yX2_startsRun : MethodName := ⟨RX2, "startsRun", "(II)Z"⟩
abbrev cX2_runs : ByteArray := prog_4_method_7_code
def yX2_runs : MethodName := ⟨RX2, "runs", "(II)I"⟩
abbrev cX2_runsOf : ByteArray := prog_4_method_8_code
def yX2_runsOf : MethodName := ⟨RX2, "runsOf", "(III)I"⟩
abbrev cX2_cellsOf : ByteArray := prog_4_method_9_code
def yX2_cellsOf : MethodName := ⟨RX2, "cellsOf", "(III)I"⟩
abbrev cX2_unitsOf : ByteArray := prog_4_method_10_code
def yX2_unitsOf : MethodName := ⟨RX2, "unitsOf", "(III)I"⟩
def RX3 : String := "MirrorLoom$History"
def TX3 : u_T := fun k => match k with
  | 0 => ("MirrorLoom$History", "saved", "[LMirrorLoom$Loom;", true)
  | 1 => ("MirrorLoom$History", "count", "I", false)
  | _ => ("MirrorLoom$History", "next", "I", false)
def tyX3 : Nat → FieldType := fun k => match k with
  | 0 => .array (.object "MirrorLoom$Loom")
  | 1 => .int
  | _ => .int
abbrev wsX30 : List Cond := u_ws RX3 TX3 3
theorem nmX3 : ∀ a, a < 3 → ∀ b, b < 3 → a ≠ b → (TX3 a).2.1 ≠ (TX3 b).2.1 := by decide +kernel
theorem tyX3_ok : ∀ k, k < 3 → parseFieldDescriptor (TX3 k).2.2.1 = some (tyX3 k) := by decide +kernel
abbrev cX3_init : ByteArray := prog_5_method_1_code
def yX3_init : MethodName := ⟨RX3, "<init>", "()V"⟩
abbrev cX3_save : ByteArray := prog_5_method_2_code
def yX3_save : MethodName := ⟨RX3, "save", "(LMirrorLoom$Loom;)V"⟩
abbrev cX3_restore : ByteArray := prog_5_method_3_code
def yX3_restore : MethodName := ⟨RX3, "restore", "(LMirrorLoom$Loom;)I"⟩
abbrev cX3_roomAt : ByteArray := prog_5_method_4_code
def yX3_roomAt : MethodName := ⟨RX3, "roomAt", "(I)LMirrorLoom$Loom;"⟩
def RX4 : String := "MirrorLoom$Loom"
def TX4 : u_T := fun k => match k with
  | 0 => ("MirrorLoom$Loom", "columns", "I", false)
  | 1 => ("MirrorLoom$Loom", "rows", "I", false)
  | 2 => ("MirrorLoom$Loom", "wovenRows", "I", false)
  | 3 => ("MirrorLoom$Loom", "limit", "I", false)
  | 4 => ("MirrorLoom$Loom", "toleranceBits", "I", false)
  | 5 => ("MirrorLoom$Loom", "cartoon", "LMirrorLoom$Grid;", true)
  | 6 => ("MirrorLoom$Loom", "woven", "LMirrorLoom$Grid;", true)
  | 7 => ("MirrorLoom$Loom", "lotOfCell", "LMirrorLoom$Grid;", true)
  | 8 => ("MirrorLoom$Loom", "sewn", "LMirrorLoom$Grid;", true)
  | 9 => ("MirrorLoom$Loom", "mistakes", "LMirrorLoom$Numbers;", true)
  | _ => ("MirrorLoom$Loom", "lots", "LMirrorLoom$Lots;", true)
def tyX4 : Nat → FieldType := fun k => match k with
  | 0 => .int
  | 1 => .int
  | 2 => .int
  | 3 => .int
  | 4 => .int
  | 5 => .object "MirrorLoom$Grid"
  | 6 => .object "MirrorLoom$Grid"
  | 7 => .object "MirrorLoom$Grid"
  | 8 => .object "MirrorLoom$Grid"
  | 9 => .object "MirrorLoom$Numbers"
  | _ => .object "MirrorLoom$Lots"
abbrev wsX40 : List Cond := u_ws RX4 TX4 11
theorem nmX4 : ∀ a, a < 11 → ∀ b, b < 11 → a ≠ b → (TX4 a).2.1 ≠ (TX4 b).2.1 := by decide +kernel
theorem tyX4_ok : ∀ k, k < 11 → parseFieldDescriptor (TX4 k).2.2.1 = some (tyX4 k) := by decide +kernel
abbrev cX4_init : ByteArray := prog_6_method_1_code
def yX4_init : MethodName := ⟨RX4, "<init>", "()V"⟩
abbrev cX4_copyFrom : ByteArray := prog_6_method_2_code
def yX4_copyFrom : MethodName := ⟨RX4, "copyFrom", "(LMirrorLoom$Loom;)V"⟩
abbrev cX4_whyNotBegin : ByteArray := prog_6_method_3_code
def yX4_whyNotBegin : MethodName := ⟨RX4, "whyNotBegin", "(II)I"⟩
abbrev cX4_whyNotFill : ByteArray := prog_6_method_4_code
def yX4_whyNotFill : MethodName := ⟨RX4, "whyNotFill", "(IIIII)I"⟩
abbrev cX4_whyNotAddLot : ByteArray := prog_6_method_5_code
def yX4_whyNotAddLot : MethodName := ⟨RX4, "whyNotAddLot", "(III)I"⟩
abbrev cX4_whyNotLimit : ByteArray := prog_6_method_6_code
def yX4_whyNotLimit : MethodName := ⟨RX4, "whyNotLimit", "(I)I"⟩
abbrev cX4_whyNotPlant : ByteArray := prog_6_method_7_code
def yX4_whyNotPlant : MethodName := ⟨RX4, "whyNotPlant", "(II)I"⟩
abbrev cX4_whyNotWeave : ByteArray := prog_6_method_8_code
def yX4_whyNotWeave : MethodName := ⟨RX4, "whyNotWeave", "(I)I"⟩
abbrev cX4_whyNotUnweave : ByteArray := prog_6_method_9_code
def yX4_whyNotUnweave : MethodName := ⟨RX4, "whyNotUnweave", "(I)I"⟩
abbrev cX4_whyNotSew : ByteArray := prog_6_method_10_code
def yX4_whyNotSew : MethodName := ⟨RX4, "whyNotSew", "(I)I"⟩
abbrev cX4_takeCartoon : ByteArray := prog_6_method_11_code
def yX4_takeCartoon : MethodName := ⟨RX4, "takeCartoon", "(II)I"⟩
abbrev cX4_paint : ByteArray := prog_6_method_12_code
def yX4_paint : MethodName := ⟨RX4, "paint", "(IIIII)I"⟩
abbrev cX4_changeTolerance : ByteArray := prog_6_method_13_code
def yX4_changeTolerance : MethodName := ⟨RX4, "changeTolerance", "(I)I"⟩
abbrev cX4_changeLimit : ByteArray := prog_6_method_14_code
def yX4_changeLimit : MethodName := ⟨RX4, "changeLimit", "(I)I"⟩
abbrev cX4_plantMistake : ByteArray := prog_6_method_15_code
def yX4_plantMistake : MethodName := ⟨RX4, "plantMistake", "(II)I"⟩
abbrev cX4_weaveRows : ByteArray := prog_6_method_16_code
def yX4_weaveRows : MethodName := ⟨RX4, "weaveRows", "(I)I"⟩
abbrev cX4_weaveNext : ByteArray := prog_6_method_17_code
def yX4_weaveNext : MethodName := ⟨RX4, "weaveNext", "()Z"⟩
abbrev cX4_layColors : ByteArray := prog_6_method_18_code
def yX4_layColors : MethodName := ⟨RX4, "layColors", "(I)V"⟩
abbrev cX4_hasYarnFor : ByteArray := prog_6_method_19_code
def yX4_hasYarnFor : MethodName := ⟨RX4, "hasYarnFor", "(I)Z"⟩
abbrev cX4_unweaveRows : ByteArray := prog_6_method_20_code
def yX4_unweaveRows : MethodName := ⟨RX4, "unweaveRows", "(I)I"⟩
abbrev cX4_sewSlit : ByteArray := prog_6_method_21_code
def yX4_sewSlit : MethodName := ⟨RX4, "sewSlit", "(I)I"⟩
abbrev cX4_forgetLostSlits : ByteArray := prog_6_method_22_code
def yX4_forgetLostSlits : MethodName := ⟨RX4, "forgetLostSlits", "()V"⟩
abbrev cX4_hasCell : ByteArray := prog_6_method_23_code
def yX4_hasCell : MethodName := ⟨RX4, "hasCell", "(II)Z"⟩
abbrev cX4_isWoven : ByteArray := prog_6_method_24_code
def yX4_isWoven : MethodName := ⟨RX4, "isWoven", "(I)Z"⟩
abbrev cX4_mirror : ByteArray := prog_6_method_25_code
def yX4_mirror : MethodName := ⟨RX4, "mirror", "(I)I"⟩
abbrev cX4_wovenColor : ByteArray := prog_6_method_26_code
def yX4_wovenColor : MethodName := ⟨RX4, "wovenColor", "(II)I"⟩
abbrev cX4_shadeAt : ByteArray := prog_6_method_27_code
def yX4_shadeAt : MethodName := ⟨RX4, "shadeAt", "(II)F"⟩
abbrev cX4_isWrong : ByteArray := prog_6_method_28_code
def yX4_isWrong : MethodName := ⟨RX4, "isWrong", "(II)Z"⟩
abbrev cX4_cellValue : ByteArray := prog_6_method_29_code
def yX4_cellValue : MethodName := ⟨RX4, "cellValue", "(III)I"⟩
abbrev cX4_rowValue : ByteArray := prog_6_method_30_code
def yX4_rowValue : MethodName := ⟨RX4, "rowValue", "(II)I"⟩
abbrev cX4_newShuttles : ByteArray := prog_6_method_31_code
def yX4_newShuttles : MethodName := ⟨RX4, "newShuttles", "(I)I"⟩
abbrev cX4_isNewRun : ByteArray := prog_6_method_32_code
def yX4_isNewRun : MethodName := ⟨RX4, "isNewRun", "(II)Z"⟩
abbrev cX4_wrongCells : ByteArray := prog_6_method_33_code
def yX4_wrongCells : MethodName := ⟨RX4, "wrongCells", "(I)I"⟩
abbrev cX4_lotsInRow : ByteArray := prog_6_method_34_code
def yX4_lotsInRow : MethodName := ⟨RX4, "lotsInRow", "(I)I"⟩
abbrev cX4_firstWrongRow : ByteArray := prog_6_method_35_code
def yX4_firstWrongRow : MethodName := ⟨RX4, "firstWrongRow", "()I"⟩
abbrev cX4_lotValue : ByteArray := prog_6_method_36_code
def yX4_lotValue : MethodName := ⟨RX4, "lotValue", "(II)I"⟩
abbrev cX4_colorValue : ByteArray := prog_6_method_37_code
def yX4_colorValue : MethodName := ⟨RX4, "colorValue", "(II)I"⟩
abbrev cX4_cellsIn : ByteArray := prog_6_method_38_code
def yX4_cellsIn : MethodName := ⟨RX4, "cellsIn", "(LMirrorLoom$Grid;II)I"⟩
abbrev cX4_wovenRuns : ByteArray := prog_6_method_39_code
def yX4_wovenRuns : MethodName := ⟨RX4, "wovenRuns", "(I)I"⟩
abbrev cX4_unitsToCome : ByteArray := prog_6_method_40_code
def yX4_unitsToCome : MethodName := ⟨RX4, "unitsToCome", "(I)I"⟩
abbrev cX4_possibleRows : ByteArray := prog_6_method_41_code
def yX4_possibleRows : MethodName := ⟨RX4, "possibleRows", "()I"⟩
abbrev cX4_rowsWithYarnOf : ByteArray := prog_6_method_42_code
def yX4_rowsWithYarnOf : MethodName := ⟨RX4, "rowsWithYarnOf", "(I)I"⟩
abbrev cX4_slitRows : ByteArray := prog_6_method_43_code
def yX4_slitRows : MethodName := ⟨RX4, "slitRows", "(II)I"⟩
abbrev cX4_parts : ByteArray := prog_6_method_44_code
def yX4_parts : MethodName := ⟨RX4, "parts", "(II)Z"⟩
abbrev cX4_slitCount : ByteArray := prog_6_method_45_code
def yX4_slitCount : MethodName := ⟨RX4, "slitCount", "(I)I"⟩
abbrev cX4_slitPlace : ByteArray := prog_6_method_46_code
def yX4_slitPlace : MethodName := ⟨RX4, "slitPlace", "(I)I"⟩
abbrev cX4_slitValue : ByteArray := prog_6_method_47_code
def yX4_slitValue : MethodName := ⟨RX4, "slitValue", "(III)I"⟩
abbrev cX4_isSewn : ByteArray := prog_6_method_48_code
def yX4_isSewn : MethodName := ⟨RX4, "isSewn", "(II)Z"⟩
abbrev cX4_sewnSlits : ByteArray := prog_6_method_49_code
def yX4_sewnSlits : MethodName := ⟨RX4, "sewnSlits", "()I"⟩
abbrev cX4_rowsOfSewnSlits : ByteArray := prog_6_method_50_code
def yX4_rowsOfSewnSlits : MethodName := ⟨RX4, "rowsOfSewnSlits", "()I"⟩
abbrev cX4_wholeValueOf : ByteArray := prog_6_method_51_code
def yX4_wholeValueOf : MethodName := ⟨RX4, "wholeValueOf", "(II)I"⟩
abbrev cX4_allWrongCells : ByteArray := prog_6_method_52_code
def yX4_allWrongCells : MethodName := ⟨RX4, "allWrongCells", "()I"⟩
abbrev cX4_mostShuttles : ByteArray := prog_6_method_53_code
def yX4_mostShuttles : MethodName := ⟨RX4, "mostShuttles", "()I"⟩
abbrev cX4_allNewShuttles : ByteArray := prog_6_method_54_code
def yX4_allNewShuttles : MethodName := ⟨RX4, "allNewShuttles", "()I"⟩
abbrev cX4_meanShadeOf : ByteArray := prog_6_method_55_code
def yX4_meanShadeOf : MethodName := ⟨RX4, "meanShadeOf", "(I)F"⟩
abbrev cX4_contrastOf : ByteArray := prog_6_method_56_code
def yX4_contrastOf : MethodName := ⟨RX4, "contrastOf", "(I)F"⟩
abbrev cX4_difference : ByteArray := prog_6_method_57_code
def yX4_difference : MethodName := ⟨RX4, "difference", "(IIII)F"⟩
abbrev cX4_isSeam : ByteArray := prog_6_method_58_code
def yX4_isSeam : MethodName := ⟨RX4, "isSeam", "(IIII)Z"⟩
abbrev cX4_gapsAbove : ByteArray := prog_6_method_59_code
def yX4_gapsAbove : MethodName := ⟨RX4, "gapsAbove", "(F)I"⟩
abbrev cX4_gap : ByteArray := prog_6_method_60_code
def yX4_gap : MethodName := ⟨RX4, "gap", "(IIII)F"⟩
abbrev cX4_widestGap : ByteArray := prog_6_method_61_code
def yX4_widestGap : MethodName := ⟨RX4, "widestGap", "()F"⟩
def RX5 : String := "MirrorLoom$Lots"
def TX5 : u_T := fun k => match k with
  | 0 => ("MirrorLoom$Lots", "count", "I", false)
  | 1 => ("MirrorLoom$Lots", "colors", "LMirrorLoom$Numbers;", true)
  | 2 => ("MirrorLoom$Lots", "lengths", "LMirrorLoom$Numbers;", true)
  | 3 => ("MirrorLoom$Lots", "left", "LMirrorLoom$Numbers;", true)
  | 4 => ("MirrorLoom$Lots", "shadeBits", "LMirrorLoom$Numbers;", true)
  | _ => ("MirrorLoom$Lots", "shades", "[F", true)
def tyX5 : Nat → FieldType := fun k => match k with
  | 0 => .int
  | 1 => .object "MirrorLoom$Numbers"
  | 2 => .object "MirrorLoom$Numbers"
  | 3 => .object "MirrorLoom$Numbers"
  | 4 => .object "MirrorLoom$Numbers"
  | _ => .array .float
abbrev wsX50 : List Cond := u_ws RX5 TX5 6
theorem nmX5 : ∀ a, a < 6 → ∀ b, b < 6 → a ≠ b → (TX5 a).2.1 ≠ (TX5 b).2.1 := by decide +kernel
theorem tyX5_ok : ∀ k, k < 6 → parseFieldDescriptor (TX5 k).2.2.1 = some (tyX5 k) := by decide +kernel
abbrev cX5_init : ByteArray := prog_7_method_1_code
def yX5_init : MethodName := ⟨RX5, "<init>", "()V"⟩
abbrev cX5_has : ByteArray := prog_7_method_2_code
def yX5_has : MethodName := ⟨RX5, "has", "(I)Z"⟩
abbrev cX5_include : ByteArray := prog_7_method_3_code
def yX5_include : MethodName := ⟨RX5, "include", "(III)I"⟩
abbrev cX5_shadeOf : ByteArray := prog_7_method_4_code
def yX5_shadeOf : MethodName := ⟨RX5, "shadeOf", "(I)F"⟩
abbrev cX5_putShade : ByteArray := prog_7_method_5_code
def yX5_putShade : MethodName := ⟨RX5, "putShade", "(IF)V"⟩
abbrev cX5_inUse : ByteArray := prog_7_method_6_code
def yX5_inUse : MethodName := ⟨RX5, "inUse", "(I)I"⟩
abbrev cX5_countOf : ByteArray := prog_7_method_7_code
def yX5_countOf : MethodName := ⟨RX5, "countOf", "(I)I"⟩
abbrev cX5_leftOf : ByteArray := prog_7_method_8_code
def yX5_leftOf : MethodName := ⟨RX5, "leftOf", "(I)I"⟩
abbrev cX5_take : ByteArray := prog_7_method_9_code
def yX5_take : MethodName := ⟨RX5, "take", "(I)I"⟩
abbrev cX5_giveBack : ByteArray := prog_7_method_10_code
def yX5_giveBack : MethodName := ⟨RX5, "giveBack", "(I)V"⟩
abbrev cX5_copyFrom : ByteArray := prog_7_method_11_code
def yX5_copyFrom : MethodName := ⟨RX5, "copyFrom", "(LMirrorLoom$Lots;)V"⟩
def RX6 : String := "MirrorLoom$Numbers"
def TX6 : u_T := fun k => match k with
  | _ => ("MirrorLoom$Numbers", "values", "[I", true)
def tyX6 : Nat → FieldType := fun k => match k with
  | _ => .array .int
abbrev wsX60 : List Cond := u_ws RX6 TX6 1
theorem nmX6 : ∀ a, a < 1 → ∀ b, b < 1 → a ≠ b → (TX6 a).2.1 ≠ (TX6 b).2.1 := by decide +kernel
theorem tyX6_ok : ∀ k, k < 1 → parseFieldDescriptor (TX6 k).2.2.1 = some (tyX6 k) := by decide +kernel
abbrev cX6_init : ByteArray := prog_8_method_1_code
def yX6_init : MethodName := ⟨RX6, "<init>", "(I)V"⟩
abbrev cX6_at : ByteArray := prog_8_method_2_code
def yX6_at : MethodName := ⟨RX6, "at", "(I)I"⟩
abbrev cX6_put : ByteArray := prog_8_method_3_code
def yX6_put : MethodName := ⟨RX6, "put", "(II)V"⟩
abbrev cX6_putAll : ByteArray := prog_8_method_4_code
def yX6_putAll : MethodName := ⟨RX6, "putAll", "(I)V"⟩
abbrev cX6_copyFrom : ByteArray := prog_8_method_5_code
def yX6_copyFrom : MethodName := ⟨RX6, "copyFrom", "(LMirrorLoom$Numbers;)V"⟩
abbrev cX6_countOthersThan : ByteArray := prog_8_method_6_code
def yX6_countOthersThan : MethodName := ⟨RX6, "countOthersThan", "(I)I"⟩
def RX7 : String := "MirrorLoom$Shades"
def TX7 : u_T := fun k => match k with
  | _ => ("", "", "", false)
def tyX7 : Nat → FieldType := fun k => match k with
  | _ => .int
abbrev wsX70 : List Cond := u_ws RX7 TX7 0
theorem nmX7 : ∀ a, a < 0 → ∀ b, b < 0 → a ≠ b → (TX7 a).2.1 ≠ (TX7 b).2.1 := by decide +kernel
theorem tyX7_ok : ∀ k, k < 0 → parseFieldDescriptor (TX7 k).2.2.1 = some (tyX7 k) := by decide +kernel
abbrev cX7_isShade : ByteArray := prog_9_method_2_code
def yX7_isShade : MethodName := ⟨RX7, "isShade", "(I)Z"⟩
abbrev cX7_fromBits : ByteArray := prog_9_method_3_code
def yX7_fromBits : MethodName := ⟨RX7, "fromBits", "(I)F"⟩
abbrev cX7_bitsOf : ByteArray := prog_9_method_4_code
def yX7_bitsOf : MethodName := ⟨RX7, "bitsOf", "(F)I"⟩
def RX8 : String := "MirrorLoom$Word"
def TX8 : u_T := fun k => match k with
  | _ => ("", "", "", false)
def tyX8 : Nat → FieldType := fun k => match k with
  | _ => .int
abbrev wsX80 : List Cond := u_ws RX8 TX8 0
theorem nmX8 : ∀ a, a < 0 → ∀ b, b < 0 → a ≠ b → (TX8 a).2.1 ≠ (TX8 b).2.1 := by decide +kernel
theorem tyX8_ok : ∀ k, k < 0 → parseFieldDescriptor (TX8 k).2.2.1 = some (tyX8 k) := by decide +kernel
def RX9 : String := "MirrorLoom"
def TX9 : u_T := fun k => match k with
  | 0 => ("MirrorLoom", "loom", "LMirrorLoom$Loom;", true)
  | 1 => ("MirrorLoom", "history", "LMirrorLoom$History;", true)
  | 2 => ("MirrorLoom", "text", "LMirrorLoom$CommandText;", true)
  | _ => ("MirrorLoom", "reader", "LMirrorLoom$CommandReader;", true)
def tyX9 : Nat → FieldType := fun k => match k with
  | 0 => .object "MirrorLoom$Loom"
  | 1 => .object "MirrorLoom$History"
  | 2 => .object "MirrorLoom$CommandText"
  | _ => .object "MirrorLoom$CommandReader"
abbrev wsX90 : List Cond := u_ws RX9 TX9 4
theorem nmX9 : ∀ a, a < 4 → ∀ b, b < 4 → a ≠ b → (TX9 a).2.1 ≠ (TX9 b).2.1 := by decide +kernel
theorem tyX9_ok : ∀ k, k < 4 → parseFieldDescriptor (TX9 k).2.2.1 = some (tyX9 k) := by decide +kernel
abbrev cX9_init : ByteArray := prog_1_method_1_code
def yX9_init : MethodName := ⟨RX9, "<init>", "()V"⟩
abbrev cX9_begin : ByteArray := prog_1_method_2_code
def yX9_begin : MethodName := ⟨RX9, "begin", "(II)I"⟩
abbrev cX9_fill : ByteArray := prog_1_method_3_code
def yX9_fill : MethodName := ⟨RX9, "fill", "(IIIII)I"⟩
abbrev cX9_addLot : ByteArray := prog_1_method_4_code
def yX9_addLot : MethodName := ⟨RX9, "addLot", "(III)I"⟩
abbrev cX9_setTolerance : ByteArray := prog_1_method_5_code
def yX9_setTolerance : MethodName := ⟨RX9, "setTolerance", "(I)I"⟩
abbrev cX9_setLimit : ByteArray := prog_1_method_6_code
def yX9_setLimit : MethodName := ⟨RX9, "setLimit", "(I)I"⟩
abbrev cX9_plant : ByteArray := prog_1_method_7_code
def yX9_plant : MethodName := ⟨RX9, "plant", "(II)I"⟩
abbrev cX9_weave : ByteArray := prog_1_method_8_code
def yX9_weave : MethodName := ⟨RX9, "weave", "(I)I"⟩
abbrev cX9_unweave : ByteArray := prog_1_method_9_code
def yX9_unweave : MethodName := ⟨RX9, "unweave", "(I)I"⟩
abbrev cX9_sew : ByteArray := prog_1_method_10_code
def yX9_sew : MethodName := ⟨RX9, "sew", "(I)I"⟩
abbrev cX9_cell : ByteArray := prog_1_method_11_code
def yX9_cell : MethodName := ⟨RX9, "cell", "(III)I"⟩
abbrev cX9_row : ByteArray := prog_1_method_12_code
def yX9_row : MethodName := ⟨RX9, "row", "(II)I"⟩
abbrev cX9_lot : ByteArray := prog_1_method_13_code
def yX9_lot : MethodName := ⟨RX9, "lot", "(II)I"⟩
abbrev cX9_color : ByteArray := prog_1_method_14_code
def yX9_color : MethodName := ⟨RX9, "color", "(II)I"⟩
abbrev cX9_slit : ByteArray := prog_1_method_15_code
def yX9_slit : MethodName := ⟨RX9, "slit", "(II)I"⟩
abbrev cX9_whole : ByteArray := prog_1_method_16_code
def yX9_whole : MethodName := ⟨RX9, "whole", "(I)I"⟩
abbrev cX9_meanShade : ByteArray := prog_1_method_17_code
def yX9_meanShade : MethodName := ⟨RX9, "meanShade", "(I)I"⟩
abbrev cX9_contrast : ByteArray := prog_1_method_18_code
def yX9_contrast : MethodName := ⟨RX9, "contrast", "(I)I"⟩
abbrev cX9_worstSeam : ByteArray := prog_1_method_19_code
def yX9_worstSeam : MethodName := ⟨RX9, "worstSeam", "()I"⟩
abbrev cX9_rowsPossible : ByteArray := prog_1_method_20_code
def yX9_rowsPossible : MethodName := ⟨RX9, "rowsPossible", "()I"⟩
abbrev cX9_missing : ByteArray := prog_1_method_21_code
def yX9_missing : MethodName := ⟨RX9, "missing", "(I)I"⟩
abbrev cX9_slitsWith : ByteArray := prog_1_method_22_code
def yX9_slitsWith : MethodName := ⟨RX9, "slitsWith", "(I)I"⟩
abbrev cX9_firstWrong : ByteArray := prog_1_method_23_code
def yX9_firstWrong : MethodName := ⟨RX9, "firstWrong", "()I"⟩
abbrev cX9_shuttlesFor : ByteArray := prog_1_method_24_code
def yX9_shuttlesFor : MethodName := ⟨RX9, "shuttlesFor", "(I)I"⟩
abbrev cX9_type : ByteArray := prog_1_method_25_code
def yX9_type : MethodName := ⟨RX9, "type", "(I)I"⟩
abbrev cX9_clearCommands : ByteArray := prog_1_method_26_code
def yX9_clearCommands : MethodName := ⟨RX9, "clearCommands", "()I"⟩
abbrev cX9_runCommands : ByteArray := prog_1_method_27_code
def yX9_runCommands : MethodName := ⟨RX9, "runCommands", "()I"⟩
abbrev cX9_undo : ByteArray := prog_1_method_28_code
def yX9_undo : MethodName := ⟨RX9, "undo", "()I"⟩
abbrev cX9_digest : ByteArray := prog_1_method_29_code
def yX9_digest : MethodName := ⟨RX9, "digest", "()J"⟩
abbrev cX9_refuse : ByteArray := prog_1_method_30_code
def yX9_refuse : MethodName := ⟨RX9, "refuse", "(I)V"⟩
abbrev cX9_isFrom : ByteArray := prog_1_method_31_code
def yX9_isFrom : MethodName := ⟨RX9, "isFrom", "(III)Z"⟩
abbrev cX9_isColor : ByteArray := prog_1_method_32_code
def yX9_isColor : MethodName := ⟨RX9, "isColor", "(I)Z"⟩
abbrev cX9_whyNotCommand : ByteArray := prog_1_method_33_code
def yX9_whyNotCommand : MethodName := ⟨RX9, "whyNotCommand", "()I"⟩
abbrev cX9_carryOutCommand : ByteArray := prog_1_method_34_code
def yX9_carryOutCommand : MethodName := ⟨RX9, "carryOutCommand", "()V"⟩
abbrev cX9_mixed : ByteArray := prog_1_method_35_code
def yX9_mixed : MethodName := ⟨RX9, "mixed", "(JI)J"⟩
abbrev cX9_mixedCells : ByteArray := prog_1_method_36_code
def yX9_mixedCells : MethodName := ⟨RX9, "mixedCells", "(J)J"⟩
abbrev cX9_mixedRows : ByteArray := prog_1_method_37_code
def yX9_mixedRows : MethodName := ⟨RX9, "mixedRows", "(J)J"⟩
abbrev cX9_mixedLots : ByteArray := prog_1_method_38_code
def yX9_mixedLots : MethodName := ⟨RX9, "mixedLots", "(J)J"⟩
abbrev cX9_mixedColors : ByteArray := prog_1_method_39_code
def yX9_mixedColors : MethodName := ⟨RX9, "mixedColors", "(J)J"⟩
abbrev cX9_mixedSlits : ByteArray := prog_1_method_40_code
def yX9_mixedSlits : MethodName := ⟨RX9, "mixedSlits", "(J)J"⟩
def RX10 : String := "MirrorLoomModel"
def TX10 : u_T := fun k => match k with
  | 0 => ("MirrorLoomModel", "s", "[I", true)
  | 1 => ("MirrorLoomModel", "past", "[I", true)
  | 2 => ("MirrorLoomModel", "aside", "[I", true)
  | 3 => ("MirrorLoomModel", "pasts", "I", false)
  | 4 => ("MirrorLoomModel", "text", "[I", true)
  | 5 => ("MirrorLoomModel", "typed", "I", false)
  | 6 => ("MirrorLoomModel", "thrown", "I", false)
  | 7 => ("MirrorLoomModel", "line", "[I", true)
  | 8 => ("MirrorLoomModel", "need", "[I", true)
  | 9 => ("MirrorLoomModel", "left", "[I", true)
  | 10 => ("MirrorLoomModel", "slits", "I", false)
  | 11 => ("MirrorLoomModel", "slitB", "[I", true)
  | 12 => ("MirrorLoomModel", "slitFrom", "[I", true)
  | 13 => ("MirrorLoomModel", "slitTo", "[I", true)
  | 14 => ("MirrorLoomModel", "at", "I", false)
  | 15 => ("MirrorLoomModel", "word", "I", false)
  | 16 => ("MirrorLoomModel", "got", "[I", true)
  | 17 => ("MirrorLoomModel", "answer", "I", false)
  | _ => ("MirrorLoomModel", "worst", "F", false)
def tyX10 : Nat → FieldType := fun k => match k with
  | 0 => .array .int
  | 1 => .array .int
  | 2 => .array .int
  | 3 => .int
  | 4 => .array .int
  | 5 => .int
  | 6 => .int
  | 7 => .array .int
  | 8 => .array .int
  | 9 => .array .int
  | 10 => .int
  | 11 => .array .int
  | 12 => .array .int
  | 13 => .array .int
  | 14 => .int
  | 15 => .int
  | 16 => .array .int
  | 17 => .int
  | _ => .float
abbrev wsX100 : List Cond := u_ws RX10 TX10 19
theorem nmX10 : ∀ a, a < 19 → ∀ b, b < 19 → a ≠ b → (TX10 a).2.1 ≠ (TX10 b).2.1 := by decide +kernel
theorem tyX10_ok : ∀ k, k < 19 → parseFieldDescriptor (TX10 k).2.2.1 = some (tyX10 k) := by decide +kernel
abbrev cX10_init : ByteArray := prog_12_method_1_code
def yX10_init : MethodName := ⟨RX10, "<init>", "()V"⟩
abbrev cX10_thrown : ByteArray := prog_12_method_2_code
def yX10_thrown : MethodName := ⟨RX10, "thrown", "()I"⟩
abbrev cX10_in : ByteArray := prog_12_method_3_code
def yX10_in : MethodName := ⟨RX10, "in", "(III)Z"⟩
abbrev cX10_fails : ByteArray := prog_12_method_4_code
def yX10_fails : MethodName := ⟨RX10, "fails", "(I)I"⟩
abbrev cX10_tells : ByteArray := prog_12_method_5_code
def yX10_tells : MethodName := ⟨RX10, "tells", "(I)I"⟩
abbrev cX10_hold : ByteArray := prog_12_method_6_code
def yX10_hold : MethodName := ⟨RX10, "hold", "()V"⟩
abbrev cX10_saves : ByteArray := prog_12_method_7_code
def yX10_saves : MethodName := ⟨RX10, "saves", "()V"⟩
abbrev cX10_isCell : ByteArray := prog_12_method_8_code
def yX10_isCell : MethodName := ⟨RX10, "isCell", "(II)Z"⟩
abbrev cX10_isWoven : ByteArray := prog_12_method_9_code
def yX10_isWoven : MethodName := ⟨RX10, "isWoven", "(I)Z"⟩
abbrev cX10_isShade : ByteArray := prog_12_method_10_code
def yX10_isShade : MethodName := ⟨RX10, "isShade", "(I)Z"⟩
abbrev cX10_its : ByteArray := prog_12_method_11_code
def yX10_its : MethodName := ⟨RX10, "its", "(II)I"⟩
abbrev cX10_shade : ByteArray := prog_12_method_12_code
def yX10_shade : MethodName := ⟨RX10, "shade", "(I)F"⟩
abbrev cX10_size : ByteArray := prog_12_method_13_code
def yX10_size : MethodName := ⟨RX10, "size", "(F)F"⟩
abbrev cX10_drawn : ByteArray := prog_12_method_14_code
def yX10_drawn : MethodName := ⟨RX10, "drawn", "(II)I"⟩
abbrev cX10_woven : ByteArray := prog_12_method_15_code
def yX10_woven : MethodName := ⟨RX10, "woven", "(II)I"⟩
abbrev cX10_yarn : ByteArray := prog_12_method_16_code
def yX10_yarn : MethodName := ⟨RX10, "yarn", "(II)I"⟩
abbrev cX10_draws : ByteArray := prog_12_method_17_code
def yX10_draws : MethodName := ⟨RX10, "draws", "(IZ)V"⟩
abbrev cX10_copies : ByteArray := prog_12_method_18_code
def yX10_copies : MethodName := ⟨RX10, "copies", "(I)V"⟩
abbrev cX10_begins : ByteArray := prog_12_method_19_code
def yX10_begins : MethodName := ⟨RX10, "begins", "(I)Z"⟩
abbrev cX10_runs : ByteArray := prog_12_method_20_code
def yX10_runs : MethodName := ⟨RX10, "runs", "()I"⟩
abbrev cX10_runsOf : ByteArray := prog_12_method_21_code
def yX10_runsOf : MethodName := ⟨RX10, "runsOf", "(I)I"⟩
abbrev cX10_cellsOf : ByteArray := prog_12_method_22_code
def yX10_cellsOf : MethodName := ⟨RX10, "cellsOf", "(I)I"⟩
abbrev cX10_unitsOf : ByteArray := prog_12_method_23_code
def yX10_unitsOf : MethodName := ⟨RX10, "unitsOf", "(I)I"⟩
abbrev cX10_inUse : ByteArray := prog_12_method_24_code
def yX10_inUse : MethodName := ⟨RX10, "inUse", "(I)I"⟩
abbrev cX10_takes : ByteArray := prog_12_method_25_code
def yX10_takes : MethodName := ⟨RX10, "takes", "(I)I"⟩
abbrev cX10_weavesOne : ByteArray := prog_12_method_26_code
def yX10_weavesOne : MethodName := ⟨RX10, "weavesOne", "()Z"⟩
abbrev cX10_fresh : ByteArray := prog_12_method_27_code
def yX10_fresh : MethodName := ⟨RX10, "fresh", "(I)I"⟩
abbrev cX10_wrong : ByteArray := prog_12_method_28_code
def yX10_wrong : MethodName := ⟨RX10, "wrong", "(I)I"⟩
abbrev cX10_lotsIn : ByteArray := prog_12_method_29_code
def yX10_lotsIn : MethodName := ⟨RX10, "lotsIn", "(I)I"⟩
abbrev cX10_shuttles : ByteArray := prog_12_method_30_code
def yX10_shuttles : MethodName := ⟨RX10, "shuttles", "(I)I"⟩
abbrev cX10_parts : ByteArray := prog_12_method_31_code
def yX10_parts : MethodName := ⟨RX10, "parts", "(II)Z"⟩
abbrev cX10_finds : ByteArray := prog_12_method_32_code
def yX10_finds : MethodName := ⟨RX10, "finds", "(I)V"⟩
abbrev cX10_isSewn : ByteArray := prog_12_method_33_code
def yX10_isSewn : MethodName := ⟨RX10, "isSewn", "(I)Z"⟩
abbrev cX10_forgets : ByteArray := prog_12_method_34_code
def yX10_forgets : MethodName := ⟨RX10, "forgets", "()V"⟩
abbrev cX10_sewn : ByteArray := prog_12_method_35_code
def yX10_sewn : MethodName := ⟨RX10, "sewn", "()I"⟩
abbrev cX10_sewnRows : ByteArray := prog_12_method_36_code
def yX10_sewnRows : MethodName := ⟨RX10, "sewnRows", "()I"⟩
abbrev cX10_cloths : ByteArray := prog_12_method_37_code
def yX10_cloths : MethodName := ⟨RX10, "cloths", "(II)I"⟩
abbrev cX10_fills : ByteArray := prog_12_method_38_code
def yX10_fills : MethodName := ⟨RX10, "fills", "(IIIII)I"⟩
abbrev cX10_adds : ByteArray := prog_12_method_39_code
def yX10_adds : MethodName := ⟨RX10, "adds", "(III)I"⟩
abbrev cX10_limits : ByteArray := prog_12_method_40_code
def yX10_limits : MethodName := ⟨RX10, "limits", "(I)I"⟩
abbrev cX10_planted : ByteArray := prog_12_method_41_code
def yX10_planted : MethodName := ⟨RX10, "planted", "()I"⟩
abbrev cX10_plants : ByteArray := prog_12_method_42_code
def yX10_plants : MethodName := ⟨RX10, "plants", "(II)I"⟩
abbrev cX10_weaves : ByteArray := prog_12_method_43_code
def yX10_weaves : MethodName := ⟨RX10, "weaves", "(I)I"⟩
abbrev cX10_unweaves : ByteArray := prog_12_method_44_code
def yX10_unweaves : MethodName := ⟨RX10, "unweaves", "(I)I"⟩
abbrev cX10_sews : ByteArray := prog_12_method_45_code
def yX10_sews : MethodName := ⟨RX10, "sews", "(I)I"⟩
abbrev cX10_ends : ByteArray := prog_12_method_46_code
def yX10_ends : MethodName := ⟨RX10, "ends", "(I)I"⟩
abbrev cX10_begin : ByteArray := prog_12_method_47_code
def yX10_begin : MethodName := ⟨RX10, "begin", "(II)I"⟩
abbrev cX10_fill : ByteArray := prog_12_method_48_code
def yX10_fill : MethodName := ⟨RX10, "fill", "(IIIII)I"⟩
abbrev cX10_addLot : ByteArray := prog_12_method_49_code
def yX10_addLot : MethodName := ⟨RX10, "addLot", "(III)I"⟩
abbrev cX10_setTolerance : ByteArray := prog_12_method_50_code
def yX10_setTolerance : MethodName := ⟨RX10, "setTolerance", "(I)I"⟩
abbrev cX10_setLimit : ByteArray := prog_12_method_51_code
def yX10_setLimit : MethodName := ⟨RX10, "setLimit", "(I)I"⟩
abbrev cX10_plant : ByteArray := prog_12_method_52_code
def yX10_plant : MethodName := ⟨RX10, "plant", "(II)I"⟩
abbrev cX10_weave : ByteArray := prog_12_method_53_code
def yX10_weave : MethodName := ⟨RX10, "weave", "(I)I"⟩
abbrev cX10_unweave : ByteArray := prog_12_method_54_code
def yX10_unweave : MethodName := ⟨RX10, "unweave", "(I)I"⟩
abbrev cX10_sew : ByteArray := prog_12_method_55_code
def yX10_sew : MethodName := ⟨RX10, "sew", "(I)I"⟩
abbrev cX10_cellOf : ByteArray := prog_12_method_56_code
def yX10_cellOf : MethodName := ⟨RX10, "cellOf", "(III)I"⟩
abbrev cX10_cell : ByteArray := prog_12_method_57_code
def yX10_cell : MethodName := ⟨RX10, "cell", "(III)I"⟩
abbrev cX10_rowOf : ByteArray := prog_12_method_58_code
def yX10_rowOf : MethodName := ⟨RX10, "rowOf", "(II)I"⟩
abbrev cX10_row : ByteArray := prog_12_method_59_code
def yX10_row : MethodName := ⟨RX10, "row", "(II)I"⟩
abbrev cX10_cellsWith : ByteArray := prog_12_method_60_code
def yX10_cellsWith : MethodName := ⟨RX10, "cellsWith", "(I)I"⟩
abbrev cX10_lotOf : ByteArray := prog_12_method_61_code
def yX10_lotOf : MethodName := ⟨RX10, "lotOf", "(II)I"⟩
abbrev cX10_lot : ByteArray := prog_12_method_62_code
def yX10_lot : MethodName := ⟨RX10, "lot", "(II)I"⟩
abbrev cX10_lotsOf : ByteArray := prog_12_method_63_code
def yX10_lotsOf : MethodName := ⟨RX10, "lotsOf", "(I)I"⟩
abbrev cX10_sumOf : ByteArray := prog_12_method_64_code
def yX10_sumOf : MethodName := ⟨RX10, "sumOf", "(II)I"⟩
abbrev cX10_colorOf : ByteArray := prog_12_method_65_code
def yX10_colorOf : MethodName := ⟨RX10, "colorOf", "(II)I"⟩
abbrev cX10_color : ByteArray := prog_12_method_66_code
def yX10_color : MethodName := ⟨RX10, "color", "(II)I"⟩
abbrev cX10_slitOf : ByteArray := prog_12_method_67_code
def yX10_slitOf : MethodName := ⟨RX10, "slitOf", "(II)I"⟩
abbrev cX10_slit : ByteArray := prog_12_method_68_code
def yX10_slit : MethodName := ⟨RX10, "slit", "(II)I"⟩
abbrev cX10_apart : ByteArray := prog_12_method_69_code
def yX10_apart : MethodName := ⟨RX10, "apart", "(II)F"⟩
abbrev cX10_seams : ByteArray := prog_12_method_70_code
def yX10_seams : MethodName := ⟨RX10, "seams", "(IIII)Z"⟩
abbrev cX10_seamsIn : ByteArray := prog_12_method_71_code
def yX10_seamsIn : MethodName := ⟨RX10, "seamsIn", "(Z)I"⟩
abbrev cX10_over : ByteArray := prog_12_method_72_code
def yX10_over : MethodName := ⟨RX10, "over", "(I)I"⟩
abbrev cX10_wholeOf : ByteArray := prog_12_method_73_code
def yX10_wholeOf : MethodName := ⟨RX10, "wholeOf", "(I)I"⟩
abbrev cX10_whole : ByteArray := prog_12_method_74_code
def yX10_whole : MethodName := ⟨RX10, "whole", "(I)I"⟩
abbrev cX10_mean : ByteArray := prog_12_method_75_code
def yX10_mean : MethodName := ⟨RX10, "mean", "(I)I"⟩
abbrev cX10_meanShade : ByteArray := prog_12_method_76_code
def yX10_meanShade : MethodName := ⟨RX10, "meanShade", "(I)I"⟩
abbrev cX10_contrasts : ByteArray := prog_12_method_77_code
def yX10_contrasts : MethodName := ⟨RX10, "contrasts", "(I)I"⟩
abbrev cX10_contrast : ByteArray := prog_12_method_78_code
def yX10_contrast : MethodName := ⟨RX10, "contrast", "(I)I"⟩
abbrev cX10_worstOf : ByteArray := prog_12_method_79_code
def yX10_worstOf : MethodName := ⟨RX10, "worstOf", "()I"⟩
abbrev cX10_worstSeam : ByteArray := prog_12_method_80_code
def yX10_worstSeam : MethodName := ⟨RX10, "worstSeam", "()I"⟩
abbrev cX10_rowsPossible : ByteArray := prog_12_method_81_code
def yX10_rowsPossible : MethodName := ⟨RX10, "rowsPossible", "()I"⟩
abbrev cX10_missing : ByteArray := prog_12_method_82_code
def yX10_missing : MethodName := ⟨RX10, "missing", "(I)I"⟩
abbrev cX10_slitsWith : ByteArray := prog_12_method_83_code
def yX10_slitsWith : MethodName := ⟨RX10, "slitsWith", "(I)I"⟩
abbrev cX10_firstWrong : ByteArray := prog_12_method_84_code
def yX10_firstWrong : MethodName := ⟨RX10, "firstWrong", "()I"⟩
abbrev cX10_shuttlesFor : ByteArray := prog_12_method_85_code
def yX10_shuttlesFor : MethodName := ⟨RX10, "shuttlesFor", "(I)I"⟩
abbrev cX10_type : ByteArray := prog_12_method_86_code
def yX10_type : MethodName := ⟨RX10, "type", "(I)I"⟩
abbrev cX10_clearCommands : ByteArray := prog_12_method_87_code
def yX10_clearCommands : MethodName := ⟨RX10, "clearCommands", "()I"⟩
abbrev cX10_isAt : ByteArray := prog_12_method_88_code
def yX10_isAt : MethodName := ⟨RX10, "isAt", "(II)Z"⟩
abbrev cX10_passes : ByteArray := prog_12_method_89_code
def yX10_passes : MethodName := ⟨RX10, "passes", "()V"⟩
abbrev cX10_numbers : ByteArray := prog_12_method_90_code
def yX10_numbers : MethodName := ⟨RX10, "numbers", "(I)I"⟩
abbrev cX10_reads : ByteArray := prog_12_method_91_code
def yX10_reads : MethodName := ⟨RX10, "reads", "()I"⟩
abbrev cX10_fault : ByteArray := prog_12_method_92_code
def yX10_fault : MethodName := ⟨RX10, "fault", "()I"⟩
abbrev cX10_does : ByteArray := prog_12_method_93_code
def yX10_does : MethodName := ⟨RX10, "does", "()I"⟩
abbrev cX10_runCommands : ByteArray := prog_12_method_94_code
def yX10_runCommands : MethodName := ⟨RX10, "runCommands", "()I"⟩
abbrev cX10_undo : ByteArray := prog_12_method_95_code
def yX10_undo : MethodName := ⟨RX10, "undo", "()I"⟩
abbrev cX10_digest : ByteArray := prog_12_method_96_code
def yX10_digest : MethodName := ⟨RX10, "digest", "()J"⟩
def RJx29ce0 : String := "java/lang/Enum"
def TJx29ce0 : u_T := fun k => match k with
  | _ => ("", "", "", false)
def tyJx29ce0 : Nat → FieldType := fun k => match k with
  | _ => .int
abbrev wsJx29ce00 : List Cond := u_ws RJx29ce0 TJx29ce0 0
theorem nmJx29ce0 : ∀ a, a < 0 → ∀ b, b < 0 → a ≠ b → (TJx29ce0 a).2.1 ≠ (TJx29ce0 b).2.1 := by decide +kernel
theorem tyJx29ce0_ok : ∀ k, k < 0 → parseFieldDescriptor (TJx29ce0 k).2.2.1 = some (tyJx29ce0 k) := by decide +kernel
def RJxf58ca : String := "java/lang/Float"
def TJxf58ca : u_T := fun k => match k with
  | _ => ("", "", "", false)
def tyJxf58ca : Nat → FieldType := fun k => match k with
  | _ => .int
abbrev wsJxf58ca0 : List Cond := u_ws RJxf58ca TJxf58ca 0
theorem nmJxf58ca : ∀ a, a < 0 → ∀ b, b < 0 → a ≠ b → (TJxf58ca a).2.1 ≠ (TJxf58ca b).2.1 := by decide +kernel
theorem tyJxf58ca_ok : ∀ k, k < 0 → parseFieldDescriptor (TJxf58ca k).2.2.1 = some (tyJxf58ca k) := by decide +kernel
abbrev cJxf58ca_isNaN_12338 : ByteArray := prog_15_method_6_code
def yJxf58ca_isNaN_12338 : MethodName := ⟨RJxf58ca, "isNaN", "(F)Z"⟩
abbrev cJxf58ca_floatToIntBits_5c35a : ByteArray := prog_15_method_24_code
def yJxf58ca_floatToIntBits_5c35a : MethodName := ⟨RJxf58ca, "floatToIntBits", "(F)I"⟩
def RJ9 : String := "java/lang/Math"
def TJ9 : u_T := fun k => match k with
  | _ => ("", "", "", false)
def tyJ9 : Nat → FieldType := fun k => match k with
  | _ => .int
abbrev wsJ90 : List Cond := u_ws RJ9 TJ9 0
theorem nmJ9 : ∀ a, a < 0 → ∀ b, b < 0 → a ≠ b → (TJ9 a).2.1 ≠ (TJ9 b).2.1 := by decide +kernel
theorem tyJ9_ok : ∀ k, k < 0 → parseFieldDescriptor (TJ9 k).2.2.1 = some (tyJ9 k) := by decide +kernel
abbrev cJ9_max_7cf53 : ByteArray := prog_19_method_65_code
def yJ9_max_7cf53 : MethodName := ⟨RJ9, "max", "(II)I"⟩
abbrev cJ9_min_7cf53 : ByteArray := prog_19_method_69_code
def yJ9_min_7cf53 : MethodName := ⟨RJ9, "min", "(II)I"⟩
def RJ0 : String := "java/lang/String"
def TJ0 : u_T := fun k => match k with
  | _ => ("", "", "", false)
def tyJ0 : Nat → FieldType := fun k => match k with
  | _ => .int
abbrev wsJ00 : List Cond := u_ws RJ0 TJ0 0
theorem nmJ0 : ∀ a, a < 0 → ∀ b, b < 0 → a ≠ b → (TJ0 a).2.1 ≠ (TJ0 b).2.1 := by decide +kernel
theorem tyJ0_ok : ∀ k, k < 0 → parseFieldDescriptor (TJ0 k).2.2.1 = some (tyJ0 k) := by decide +kernel
abbrev cJ0_length_8abf5 : ByteArray := prog_21_method_54_code
def yJ0_length_8abf5 : MethodName := ⟨RJ0, "length", "()I"⟩
abbrev cJ0_charAt_5068e : ByteArray := prog_21_method_56_code
def yJ0_charAt_5068e : MethodName := ⟨RJ0, "charAt", "(I)C"⟩
abbrev cJ0_coder_7d493 : ByteArray := prog_21_method_152_code
def yJ0_coder_7d493 : MethodName := ⟨RJ0, "coder", "()B"⟩
abbrev cJ0_isLatin1_aae02 : ByteArray := prog_21_method_154_code
def yJ0_isLatin1_aae02 : MethodName := ⟨RJ0, "isLatin1", "()Z"⟩
abbrev cJ0_checkIndex_df160 : ByteArray := prog_21_method_155_code
def yJ0_checkIndex_df160 : MethodName := ⟨RJ0, "checkIndex", "(II)V"⟩
def RJ1 : String := "java/lang/StringLatin1"
def TJ1 : u_T := fun k => match k with
  | _ => ("", "", "", false)
def tyJ1 : Nat → FieldType := fun k => match k with
  | _ => .int
abbrev wsJ10 : List Cond := u_ws RJ1 TJ1 0
theorem nmJ1 : ∀ a, a < 0 → ∀ b, b < 0 → a ≠ b → (TJ1 a).2.1 ≠ (TJ1 b).2.1 := by decide +kernel
theorem tyJ1_ok : ∀ k, k < 0 → parseFieldDescriptor (TJ1 k).2.2.1 = some (tyJ1 k) := by decide +kernel
abbrev cJ1_charAt_3b067 : ByteArray := prog_22_method_2_code
def yJ1_charAt_3b067 : MethodName := ⟨RJ1, "charAt", "([BI)C"⟩
def RJ2 : String := "java/lang/StringUTF16"
def TJ2 : u_T := fun k => match k with
  | _ => ("", "", "", false)
def tyJ2 : Nat → FieldType := fun k => match k with
  | _ => .int
abbrev wsJ20 : List Cond := u_ws RJ2 TJ2 0
theorem nmJ2 : ∀ a, a < 0 → ∀ b, b < 0 → a ≠ b → (TJ2 a).2.1 ≠ (TJ2 b).2.1 := by decide +kernel
theorem tyJ2_ok : ∀ k, k < 0 → parseFieldDescriptor (TJ2 k).2.2.1 = some (tyJ2 k) := by decide +kernel
abbrev cJ2_getChar_3b067 : ByteArray := prog_23_method_5_code
def yJ2_getChar_3b067 : MethodName := ⟨RJ2, "getChar", "([BI)C"⟩
abbrev cJ2_length_9d52b : ByteArray := prog_23_method_6_code
def yJ2_length_9d52b : MethodName := ⟨RJ2, "length", "([B)I"⟩
abbrev cJ2_charAt_3b067 : ByteArray := prog_23_method_83_code
def yJ2_charAt_3b067 : MethodName := ⟨RJ2, "charAt", "([BI)C"⟩
abbrev cJ2_checkIndex_2214a : ByteArray := prog_23_method_91_code
def yJ2_checkIndex_2214a : MethodName := ⟨RJ2, "checkIndex", "(I[B)V"⟩
def RJ3 : String := "jdk/internal/util/Preconditions"
def TJ3 : u_T := fun k => match k with
  | _ => ("", "", "", false)
def tyJ3 : Nat → FieldType := fun k => match k with
  | _ => .int
abbrev wsJ30 : List Cond := u_ws RJ3 TJ3 0
theorem nmJ3 : ∀ a, a < 0 → ∀ b, b < 0 → a ≠ b → (TJ3 a).2.1 ≠ (TJ3 b).2.1 := by decide +kernel
theorem tyJ3_ok : ∀ k, k < 0 → parseFieldDescriptor (TJ3 k).2.2.1 = some (tyJ3 k) := by decide +kernel
abbrev cJ3_checkIndex_8e157 : ByteArray := prog_25_method_11_code
def yJ3_checkIndex_8e157 : MethodName := ⟨RJ3, "checkIndex", "(IILjava/util/function/BiFunction;)I"⟩
def RL : String := "MirrorLoomLaw"
abbrev cL_begin : ByteArray := method_3_code
def yL_begin : MethodName := ⟨RL, "begin", "(LMirrorLoom;II[J)I"⟩
abbrev cL_fill : ByteArray := method_4_code
def yL_fill : MethodName := ⟨RL, "fill", "(LMirrorLoom;IIIII[J)I"⟩
abbrev cL_addLot : ByteArray := method_5_code
def yL_addLot : MethodName := ⟨RL, "addLot", "(LMirrorLoom;III[J)I"⟩
abbrev cL_setTolerance : ByteArray := method_6_code
def yL_setTolerance : MethodName := ⟨RL, "setTolerance", "(LMirrorLoom;I[J)I"⟩
abbrev cL_setLimit : ByteArray := method_7_code
def yL_setLimit : MethodName := ⟨RL, "setLimit", "(LMirrorLoom;I[J)I"⟩
abbrev cL_plant : ByteArray := method_8_code
def yL_plant : MethodName := ⟨RL, "plant", "(LMirrorLoom;II[J)I"⟩
abbrev cL_weave : ByteArray := method_9_code
def yL_weave : MethodName := ⟨RL, "weave", "(LMirrorLoom;I[J)I"⟩
abbrev cL_unweave : ByteArray := method_10_code
def yL_unweave : MethodName := ⟨RL, "unweave", "(LMirrorLoom;I[J)I"⟩
abbrev cL_sew : ByteArray := method_11_code
def yL_sew : MethodName := ⟨RL, "sew", "(LMirrorLoom;I[J)I"⟩
abbrev cL_cell : ByteArray := method_12_code
def yL_cell : MethodName := ⟨RL, "cell", "(LMirrorLoom;III[J)I"⟩
abbrev cL_row : ByteArray := method_13_code
def yL_row : MethodName := ⟨RL, "row", "(LMirrorLoom;II[J)I"⟩
abbrev cL_lot : ByteArray := method_14_code
def yL_lot : MethodName := ⟨RL, "lot", "(LMirrorLoom;II[J)I"⟩
abbrev cL_color : ByteArray := method_15_code
def yL_color : MethodName := ⟨RL, "color", "(LMirrorLoom;II[J)I"⟩
abbrev cL_slit : ByteArray := method_16_code
def yL_slit : MethodName := ⟨RL, "slit", "(LMirrorLoom;II[J)I"⟩
abbrev cL_whole : ByteArray := method_17_code
def yL_whole : MethodName := ⟨RL, "whole", "(LMirrorLoom;I[J)I"⟩
abbrev cL_meanShade : ByteArray := method_18_code
def yL_meanShade : MethodName := ⟨RL, "meanShade", "(LMirrorLoom;I[J)I"⟩
abbrev cL_contrast : ByteArray := method_19_code
def yL_contrast : MethodName := ⟨RL, "contrast", "(LMirrorLoom;I[J)I"⟩
abbrev cL_missing : ByteArray := method_20_code
def yL_missing : MethodName := ⟨RL, "missing", "(LMirrorLoom;I[J)I"⟩
abbrev cL_slitsWith : ByteArray := method_21_code
def yL_slitsWith : MethodName := ⟨RL, "slitsWith", "(LMirrorLoom;I[J)I"⟩
abbrev cL_shuttlesFor : ByteArray := method_22_code
def yL_shuttlesFor : MethodName := ⟨RL, "shuttlesFor", "(LMirrorLoom;I[J)I"⟩
abbrev cL_type : ByteArray := method_23_code
def yL_type : MethodName := ⟨RL, "type", "(LMirrorLoom;I[J)I"⟩
abbrev cL_undo : ByteArray := method_24_code
def yL_undo : MethodName := ⟨RL, "undo", "(LMirrorLoom;[J)I"⟩
abbrev cL_law : ByteArray := code
def yL_law : MethodName := ⟨RL, "law", "([I)Z"⟩
theorem dX0_init_0 : decode cX0_init 0 = .ok (.aload_n 0, 1) := by decide +kernel
theorem dX0_init_1 : decode cX0_init 1 = .ok (.invokespecial 3, 3) := by decide +kernel
theorem dX0_init_4 : decode cX0_init 4 = .ok (.aload_n 0, 1) := by decide +kernel
theorem dX0_init_5 : decode cX0_init 5 = .ok (.new 9, 3) := by decide +kernel
theorem dX0_init_8 : decode cX0_init 8 = .ok (.dup, 1) := by decide +kernel
theorem dX0_init_9 : decode cX0_init 9 = .ok (.iconst 5, 1) := by decide +kernel
theorem dX0_init_10 : decode cX0_init 10 = .ok (.invokespecial 11, 3) := by decide +kernel
theorem dX0_init_13 : decode cX0_init 13 = .ok (.putfield 14, 3) := by decide +kernel
theorem dX0_init_16 : decode cX0_init 16 = .ok (.aload_n 0, 1) := by decide +kernel
theorem dX0_init_17 : decode cX0_init 17 = .ok (.getstatic 20, 3) := by decide +kernel
theorem dX0_init_20 : decode cX0_init 20 = .ok (.putfield 26, 3) := by decide +kernel
theorem dX0_init_23 : decode cX0_init 23 = .ok (.aload_n 0, 1) := by decide +kernel
theorem dX0_init_24 : decode cX0_init 24 = .ok (.iconst (-1), 1) := by decide +kernel
theorem dX0_init_25 : decode cX0_init 25 = .ok (.putfield 29, 3) := by decide +kernel
theorem dX0_init_28 : decode cX0_init 28 = .ok (.aload_n 0, 1) := by decide +kernel
theorem dX0_init_29 : decode cX0_init 29 = .ok (.aload_n 1, 1) := by decide +kernel
theorem dX0_init_30 : decode cX0_init 30 = .ok (.putfield 33, 3) := by decide +kernel
theorem dX0_init_33 : decode cX0_init 33 = .ok (.return_, 1) := by decide +kernel
theorem dX0_rewind_0 : decode cX0_rewind 0 = .ok (.aload_n 0, 1) := by decide +kernel
theorem dX0_rewind_1 : decode cX0_rewind 1 = .ok (.iconst 0, 1) := by decide +kernel
theorem dX0_rewind_2 : decode cX0_rewind 2 = .ok (.putfield 37, 3) := by decide +kernel
theorem dX0_rewind_5 : decode cX0_rewind 5 = .ok (.aload_n 0, 1) := by decide +kernel
theorem dX0_rewind_6 : decode cX0_rewind 6 = .ok (.iconst (-1), 1) := by decide +kernel
theorem dX0_rewind_7 : decode cX0_rewind 7 = .ok (.putfield 29, 3) := by decide +kernel
theorem dX0_rewind_10 : decode cX0_rewind 10 = .ok (.return_, 1) := by decide +kernel
theorem dX0_findFault_0 : decode cX0_findFault 0 = .ok (.aload_n 0, 1) := by decide +kernel
theorem dX0_findFault_1 : decode cX0_findFault 1 = .ok (.invokevirtual 40, 3) := by decide +kernel
theorem dX0_findFault_4 : decode cX0_findFault 4 = .ok (.iconst 0, 1) := by decide +kernel
theorem dX0_findFault_5 : decode cX0_findFault 5 = .ok (.istore_n 1, 1) := by decide +kernel
theorem dX0_findFault_6 : decode cX0_findFault 6 = .ok (.iload_n 1, 1) := by decide +kernel
theorem dX0_findFault_7 : decode cX0_findFault 7 = .ok (.sipush 150, 3) := by decide +kernel
theorem dX0_findFault_10 : decode cX0_findFault 10 = .ok (.if_icmp .ge 16, 3) := by decide +kernel
theorem dX0_findFault_13 : decode cX0_findFault 13 = .ok (.aload_n 0, 1) := by decide +kernel
theorem dX0_findFault_14 : decode cX0_findFault 14 = .ok (.invokevirtual 43, 3) := by decide +kernel
theorem dX0_findFault_17 : decode cX0_findFault 17 = .ok (.ifCond .eq 9, 3) := by decide +kernel
theorem dX0_findFault_20 : decode cX0_findFault 20 = .ok (.iinc 1 1, 3) := by decide +kernel
theorem dX0_findFault_23 : decode cX0_findFault 23 = .ok (.goto (-17), 3) := by decide +kernel
theorem dX0_findFault_26 : decode cX0_findFault 26 = .ok (.aload_n 0, 1) := by decide +kernel
theorem dX0_findFault_27 : decode cX0_findFault 27 = .ok (.getfield 29, 3) := by decide +kernel
theorem dX0_findFault_30 : decode cX0_findFault 30 = .ok (.ireturn, 1) := by decide +kernel
theorem dX0_readNext_0 : decode cX0_readNext 0 = .ok (.aload_n 0, 1) := by decide +kernel
theorem dX0_readNext_1 : decode cX0_readNext 1 = .ok (.invokevirtual 47, 3) := by decide +kernel
theorem dX0_readNext_4 : decode cX0_readNext 4 = .ok (.aload_n 0, 1) := by decide +kernel
theorem dX0_readNext_5 : decode cX0_readNext 5 = .ok (.getfield 37, 3) := by decide +kernel
theorem dX0_readNext_8 : decode cX0_readNext 8 = .ok (.aload_n 0, 1) := by decide +kernel
theorem dX0_readNext_9 : decode cX0_readNext 9 = .ok (.getfield 33, 3) := by decide +kernel
theorem dX0_readNext_12 : decode cX0_readNext 12 = .ok (.getfield 50, 3) := by decide +kernel
theorem dX0_readNext_15 : decode cX0_readNext 15 = .ok (.if_icmp .ge 28, 3) := by decide +kernel
theorem dX0_readNext_18 : decode cX0_readNext 18 = .ok (.aload_n 0, 1) := by decide +kernel
theorem dX0_readNext_19 : decode cX0_readNext 19 = .ok (.invokevirtual 55, 3) := by decide +kernel
theorem dX0_readNext_22 : decode cX0_readNext 22 = .ok (.ifCond .eq 21, 3) := by decide +kernel
theorem dX0_readNext_25 : decode cX0_readNext 25 = .ok (.aload_n 0, 1) := by decide +kernel
theorem dX0_readNext_26 : decode cX0_readNext 26 = .ok (.invokevirtual 58, 3) := by decide +kernel
theorem dX0_readNext_29 : decode cX0_readNext 29 = .ok (.ifCond .eq 14, 3) := by decide +kernel
theorem dX0_readNext_32 : decode cX0_readNext 32 = .ok (.aload_n 0, 1) := by decide +kernel
theorem dX0_readNext_33 : decode cX0_readNext 33 = .ok (.invokevirtual 61, 3) := by decide +kernel
theorem dX0_readNext_36 : decode cX0_readNext 36 = .ok (.ifCond .eq 7, 3) := by decide +kernel
theorem dX0_readNext_39 : decode cX0_readNext 39 = .ok (.iconst 1, 1) := by decide +kernel
theorem dX0_readNext_40 : decode cX0_readNext 40 = .ok (.goto 4, 3) := by decide +kernel
theorem dX0_readNext_43 : decode cX0_readNext 43 = .ok (.iconst 0, 1) := by decide +kernel
theorem dX0_readNext_44 : decode cX0_readNext 44 = .ok (.ireturn, 1) := by decide +kernel
theorem dX0_failAt_0 : decode cX0_failAt 0 = .ok (.aload_n 0, 1) := by decide +kernel
theorem dX0_failAt_1 : decode cX0_failAt 1 = .ok (.iload_n 1, 1) := by decide +kernel
theorem dX0_failAt_2 : decode cX0_failAt 2 = .ok (.putfield 29, 3) := by decide +kernel
theorem dX0_failAt_5 : decode cX0_failAt 5 = .ok (.iconst 0, 1) := by decide +kernel
theorem dX0_failAt_6 : decode cX0_failAt 6 = .ok (.ireturn, 1) := by decide +kernel
theorem dX0_skipSpaces_0 : decode cX0_skipSpaces 0 = .ok (.aload_n 0, 1) := by decide +kernel
theorem dX0_skipSpaces_1 : decode cX0_skipSpaces 1 = .ok (.getfield 37, 3) := by decide +kernel
theorem dX0_skipSpaces_4 : decode cX0_skipSpaces 4 = .ok (.aload_n 0, 1) := by decide +kernel
theorem dX0_skipSpaces_5 : decode cX0_skipSpaces 5 = .ok (.getfield 33, 3) := by decide +kernel
theorem dX0_skipSpaces_8 : decode cX0_skipSpaces 8 = .ok (.getfield 50, 3) := by decide +kernel
theorem dX0_skipSpaces_11 : decode cX0_skipSpaces 11 = .ok (.if_icmp .ge 32, 3) := by decide +kernel
theorem dX0_skipSpaces_14 : decode cX0_skipSpaces 14 = .ok (.aload_n 0, 1) := by decide +kernel
theorem dX0_skipSpaces_15 : decode cX0_skipSpaces 15 = .ok (.getfield 33, 3) := by decide +kernel
theorem dX0_skipSpaces_18 : decode cX0_skipSpaces 18 = .ok (.aload_n 0, 1) := by decide +kernel
theorem dX0_skipSpaces_19 : decode cX0_skipSpaces 19 = .ok (.getfield 37, 3) := by decide +kernel
theorem dX0_skipSpaces_22 : decode cX0_skipSpaces 22 = .ok (.invokevirtual 64, 3) := by decide +kernel
theorem dX0_skipSpaces_25 : decode cX0_skipSpaces 25 = .ok (.bipush 32, 2) := by decide +kernel
theorem dX0_skipSpaces_27 : decode cX0_skipSpaces 27 = .ok (.if_icmp .ne 16, 3) := by decide +kernel
theorem dX0_skipSpaces_30 : decode cX0_skipSpaces 30 = .ok (.aload_n 0, 1) := by decide +kernel
theorem dX0_skipSpaces_31 : decode cX0_skipSpaces 31 = .ok (.dup, 1) := by decide +kernel
theorem dX0_skipSpaces_32 : decode cX0_skipSpaces 32 = .ok (.getfield 37, 3) := by decide +kernel
theorem dX0_skipSpaces_35 : decode cX0_skipSpaces 35 = .ok (.iconst 1, 1) := by decide +kernel
theorem dX0_skipSpaces_36 : decode cX0_skipSpaces 36 = .ok (.iadd, 1) := by decide +kernel
theorem dX0_skipSpaces_37 : decode cX0_skipSpaces 37 = .ok (.putfield 37, 3) := by decide +kernel
theorem dX0_skipSpaces_40 : decode cX0_skipSpaces 40 = .ok (.goto (-40), 3) := by decide +kernel
theorem dX0_skipSpaces_43 : decode cX0_skipSpaces 43 = .ok (.return_, 1) := by decide +kernel
theorem dX0_readWord_0 : decode cX0_readWord 0 = .ok (.aload_n 0, 1) := by decide +kernel
theorem dX0_readWord_1 : decode cX0_readWord 1 = .ok (.getfield 37, 3) := by decide +kernel
theorem dX0_readWord_4 : decode cX0_readWord 4 = .ok (.istore_n 1, 1) := by decide +kernel
theorem dX0_readWord_5 : decode cX0_readWord 5 = .ok (.aload_n 0, 1) := by decide +kernel
theorem dX0_readWord_6 : decode cX0_readWord 6 = .ok (.getfield 37, 3) := by decide +kernel
theorem dX0_readWord_9 : decode cX0_readWord 9 = .ok (.aload_n 0, 1) := by decide +kernel
theorem dX0_readWord_10 : decode cX0_readWord 10 = .ok (.getfield 33, 3) := by decide +kernel
theorem dX0_readWord_13 : decode cX0_readWord 13 = .ok (.getfield 50, 3) := by decide +kernel
theorem dX0_readWord_16 : decode cX0_readWord 16 = .ok (.if_icmp .ge 37, 3) := by decide +kernel
theorem dX0_readWord_19 : decode cX0_readWord 19 = .ok (.bipush 97, 2) := by decide +kernel
theorem dX0_readWord_21 : decode cX0_readWord 21 = .ok (.aload_n 0, 1) := by decide +kernel
theorem dX0_readWord_22 : decode cX0_readWord 22 = .ok (.getfield 33, 3) := by decide +kernel
theorem dX0_readWord_25 : decode cX0_readWord 25 = .ok (.aload_n 0, 1) := by decide +kernel
theorem dX0_readWord_26 : decode cX0_readWord 26 = .ok (.getfield 37, 3) := by decide +kernel
theorem dX0_readWord_29 : decode cX0_readWord 29 = .ok (.invokevirtual 64, 3) := by decide +kernel
theorem dX0_readWord_32 : decode cX0_readWord 32 = .ok (.bipush 122, 2) := by decide +kernel
theorem dX0_readWord_34 : decode cX0_readWord 34 = .ok (.invokestatic 68, 3) := by decide +kernel
theorem dX0_readWord_37 : decode cX0_readWord 37 = .ok (.ifCond .eq 16, 3) := by decide +kernel
theorem dX0_readWord_40 : decode cX0_readWord 40 = .ok (.aload_n 0, 1) := by decide +kernel
theorem dX0_readWord_41 : decode cX0_readWord 41 = .ok (.dup, 1) := by decide +kernel
theorem dX0_readWord_42 : decode cX0_readWord 42 = .ok (.getfield 37, 3) := by decide +kernel
theorem dX0_readWord_45 : decode cX0_readWord 45 = .ok (.iconst 1, 1) := by decide +kernel
theorem dX0_readWord_46 : decode cX0_readWord 46 = .ok (.iadd, 1) := by decide +kernel
theorem dX0_readWord_47 : decode cX0_readWord 47 = .ok (.putfield 37, 3) := by decide +kernel
theorem dX0_readWord_50 : decode cX0_readWord 50 = .ok (.goto (-45), 3) := by decide +kernel
theorem dX0_readWord_53 : decode cX0_readWord 53 = .ok (.iconst 0, 1) := by decide +kernel
theorem dX0_readWord_54 : decode cX0_readWord 54 = .ok (.istore_n 2, 1) := by decide +kernel
theorem dX0_readWord_55 : decode cX0_readWord 55 = .ok (.iload_n 2, 1) := by decide +kernel
theorem dX0_readWord_56 : decode cX0_readWord 56 = .ok (.getstatic 72, 3) := by decide +kernel
theorem dX0_readWord_59 : decode cX0_readWord 59 = .ok (.arraylength, 1) := by decide +kernel
theorem dX0_readWord_60 : decode cX0_readWord 60 = .ok (.if_icmp .ge 38, 3) := by decide +kernel
theorem dX0_readWord_63 : decode cX0_readWord 63 = .ok (.getstatic 72, 3) := by decide +kernel
theorem dX0_readWord_66 : decode cX0_readWord 66 = .ok (.iload_n 2, 1) := by decide +kernel
theorem dX0_readWord_67 : decode cX0_readWord 67 = .ok (.aaload, 1) := by decide +kernel
theorem dX0_readWord_68 : decode cX0_readWord 68 = .ok (.astore_n 3, 1) := by decide +kernel
theorem dX0_readWord_69 : decode cX0_readWord 69 = .ok (.aload_n 3, 1) := by decide +kernel
theorem dX0_readWord_70 : decode cX0_readWord 70 = .ok (.ifnull 22, 3) := by decide +kernel
theorem dX0_readWord_73 : decode cX0_readWord 73 = .ok (.aload_n 0, 1) := by decide +kernel
theorem dX0_readWord_74 : decode cX0_readWord 74 = .ok (.aload_n 3, 1) := by decide +kernel
theorem dX0_readWord_75 : decode cX0_readWord 75 = .ok (.getfield 76, 3) := by decide +kernel
theorem dX0_readWord_78 : decode cX0_readWord 78 = .ok (.iload_n 1, 1) := by decide +kernel
theorem dX0_readWord_79 : decode cX0_readWord 79 = .ok (.invokevirtual 80, 3) := by decide +kernel
theorem dX0_readWord_82 : decode cX0_readWord 82 = .ok (.ifCond .eq 10, 3) := by decide +kernel
theorem dX0_readWord_85 : decode cX0_readWord 85 = .ok (.aload_n 0, 1) := by decide +kernel
theorem dX0_readWord_86 : decode cX0_readWord 86 = .ok (.aload_n 3, 1) := by decide +kernel
theorem dX0_readWord_87 : decode cX0_readWord 87 = .ok (.putfield 26, 3) := by decide +kernel
theorem dX0_readWord_90 : decode cX0_readWord 90 = .ok (.iconst 1, 1) := by decide +kernel
theorem dX0_readWord_91 : decode cX0_readWord 91 = .ok (.ireturn, 1) := by decide +kernel
theorem dX0_readWord_92 : decode cX0_readWord 92 = .ok (.iinc 2 1, 3) := by decide +kernel
theorem dX0_readWord_95 : decode cX0_readWord 95 = .ok (.goto (-40), 3) := by decide +kernel
theorem dX0_readWord_98 : decode cX0_readWord 98 = .ok (.aload_n 0, 1) := by decide +kernel
theorem dX0_readWord_99 : decode cX0_readWord 99 = .ok (.iload_n 1, 1) := by decide +kernel
theorem dX0_readWord_100 : decode cX0_readWord 100 = .ok (.invokevirtual 84, 3) := by decide +kernel
theorem dX0_readWord_103 : decode cX0_readWord 103 = .ok (.ireturn, 1) := by decide +kernel
theorem dX0_isBetween_0 : decode cX0_isBetween 0 = .ok (.aload_n 1, 1) := by decide +kernel
theorem dX0_isBetween_1 : decode cX0_isBetween 1 = .ok (.ifnull 16, 3) := by decide +kernel
theorem dX0_isBetween_4 : decode cX0_isBetween 4 = .ok (.aload_n 1, 1) := by decide +kernel
theorem dX0_isBetween_5 : decode cX0_isBetween 5 = .ok (.invokevirtual 88, 3) := by decide +kernel
theorem dX0_isBetween_8 : decode cX0_isBetween 8 = .ok (.aload_n 0, 1) := by decide +kernel
theorem dX0_isBetween_9 : decode cX0_isBetween 9 = .ok (.getfield 37, 3) := by decide +kernel
theorem dX0_isBetween_12 : decode cX0_isBetween 12 = .ok (.iload_n 2, 1) := by decide +kernel
theorem dX0_isBetween_13 : decode cX0_isBetween 13 = .ok (.isub, 1) := by decide +kernel
theorem dX0_isBetween_14 : decode cX0_isBetween 14 = .ok (.if_icmp .eq 5, 3) := by decide +kernel
theorem dX0_isBetween_17 : decode cX0_isBetween 17 = .ok (.iconst 0, 1) := by decide +kernel
theorem dX0_isBetween_18 : decode cX0_isBetween 18 = .ok (.ireturn, 1) := by decide +kernel
theorem dX0_isBetween_19 : decode cX0_isBetween 19 = .ok (.iconst 0, 1) := by decide +kernel
theorem dX0_isBetween_20 : decode cX0_isBetween 20 = .ok (.istore_n 3, 1) := by decide +kernel
theorem dX0_isBetween_21 : decode cX0_isBetween 21 = .ok (.iload_n 3, 1) := by decide +kernel
theorem dX0_isBetween_22 : decode cX0_isBetween 22 = .ok (.aload_n 1, 1) := by decide +kernel
theorem dX0_isBetween_23 : decode cX0_isBetween 23 = .ok (.invokevirtual 88, 3) := by decide +kernel
theorem dX0_isBetween_26 : decode cX0_isBetween 26 = .ok (.if_icmp .ge 29, 3) := by decide +kernel
theorem dX0_isBetween_29 : decode cX0_isBetween 29 = .ok (.aload_n 1, 1) := by decide +kernel
theorem dX0_isBetween_30 : decode cX0_isBetween 30 = .ok (.iload_n 3, 1) := by decide +kernel
theorem dX0_isBetween_31 : decode cX0_isBetween 31 = .ok (.invokevirtual 93, 3) := by decide +kernel
theorem dX0_isBetween_34 : decode cX0_isBetween 34 = .ok (.aload_n 0, 1) := by decide +kernel
theorem dX0_isBetween_35 : decode cX0_isBetween 35 = .ok (.getfield 33, 3) := by decide +kernel
theorem dX0_isBetween_38 : decode cX0_isBetween 38 = .ok (.iload_n 2, 1) := by decide +kernel
theorem dX0_isBetween_39 : decode cX0_isBetween 39 = .ok (.iload_n 3, 1) := by decide +kernel
theorem dX0_isBetween_40 : decode cX0_isBetween 40 = .ok (.iadd, 1) := by decide +kernel
theorem dX0_isBetween_41 : decode cX0_isBetween 41 = .ok (.invokevirtual 64, 3) := by decide +kernel
theorem dX0_isBetween_44 : decode cX0_isBetween 44 = .ok (.if_icmp .eq 5, 3) := by decide +kernel
theorem dX0_isBetween_47 : decode cX0_isBetween 47 = .ok (.iconst 0, 1) := by decide +kernel
theorem dX0_isBetween_48 : decode cX0_isBetween 48 = .ok (.ireturn, 1) := by decide +kernel
theorem dX0_isBetween_49 : decode cX0_isBetween 49 = .ok (.iinc 3 1, 3) := by decide +kernel
theorem dX0_isBetween_52 : decode cX0_isBetween 52 = .ok (.goto (-31), 3) := by decide +kernel
theorem dX0_isBetween_55 : decode cX0_isBetween 55 = .ok (.iconst 1, 1) := by decide +kernel
theorem dX0_isBetween_56 : decode cX0_isBetween 56 = .ok (.ireturn, 1) := by decide +kernel
theorem dX0_readNumbers_0 : decode cX0_readNumbers 0 = .ok (.iconst 0, 1) := by decide +kernel
theorem dX0_readNumbers_1 : decode cX0_readNumbers 1 = .ok (.istore_n 1, 1) := by decide +kernel
theorem dX0_readNumbers_2 : decode cX0_readNumbers 2 = .ok (.iload_n 1, 1) := by decide +kernel
theorem dX0_readNumbers_3 : decode cX0_readNumbers 3 = .ok (.aload_n 0, 1) := by decide +kernel
theorem dX0_readNumbers_4 : decode cX0_readNumbers 4 = .ok (.getfield 26, 3) := by decide +kernel
theorem dX0_readNumbers_7 : decode cX0_readNumbers 7 = .ok (.getfield 97, 3) := by decide +kernel
theorem dX0_readNumbers_10 : decode cX0_readNumbers 10 = .ok (.if_icmp .ge 48, 3) := by decide +kernel
theorem dX0_readNumbers_13 : decode cX0_readNumbers 13 = .ok (.aload_n 0, 1) := by decide +kernel
theorem dX0_readNumbers_14 : decode cX0_readNumbers 14 = .ok (.getfield 33, 3) := by decide +kernel
theorem dX0_readNumbers_17 : decode cX0_readNumbers 17 = .ok (.aload_n 0, 1) := by decide +kernel
theorem dX0_readNumbers_18 : decode cX0_readNumbers 18 = .ok (.getfield 37, 3) := by decide +kernel
theorem dX0_readNumbers_21 : decode cX0_readNumbers 21 = .ok (.invokevirtual 64, 3) := by decide +kernel
theorem dX0_readNumbers_24 : decode cX0_readNumbers 24 = .ok (.bipush 32, 2) := by decide +kernel
theorem dX0_readNumbers_26 : decode cX0_readNumbers 26 = .ok (.if_icmp .eq 12, 3) := by decide +kernel
theorem dX0_readNumbers_29 : decode cX0_readNumbers 29 = .ok (.aload_n 0, 1) := by decide +kernel
theorem dX0_readNumbers_30 : decode cX0_readNumbers 30 = .ok (.aload_n 0, 1) := by decide +kernel
theorem dX0_readNumbers_31 : decode cX0_readNumbers 31 = .ok (.getfield 37, 3) := by decide +kernel
theorem dX0_readNumbers_34 : decode cX0_readNumbers 34 = .ok (.invokevirtual 84, 3) := by decide +kernel
theorem dX0_readNumbers_37 : decode cX0_readNumbers 37 = .ok (.ireturn, 1) := by decide +kernel
theorem dX0_readNumbers_38 : decode cX0_readNumbers 38 = .ok (.aload_n 0, 1) := by decide +kernel
theorem dX0_readNumbers_39 : decode cX0_readNumbers 39 = .ok (.invokevirtual 47, 3) := by decide +kernel
theorem dX0_readNumbers_42 : decode cX0_readNumbers 42 = .ok (.aload_n 0, 1) := by decide +kernel
theorem dX0_readNumbers_43 : decode cX0_readNumbers 43 = .ok (.iload_n 1, 1) := by decide +kernel
theorem dX0_readNumbers_44 : decode cX0_readNumbers 44 = .ok (.invokevirtual 99, 3) := by decide +kernel
theorem dX0_readNumbers_47 : decode cX0_readNumbers 47 = .ok (.ifCond .ne 5, 3) := by decide +kernel
theorem dX0_readNumbers_50 : decode cX0_readNumbers 50 = .ok (.iconst 0, 1) := by decide +kernel
theorem dX0_readNumbers_51 : decode cX0_readNumbers 51 = .ok (.ireturn, 1) := by decide +kernel
theorem dX0_readNumbers_52 : decode cX0_readNumbers 52 = .ok (.iinc 1 1, 3) := by decide +kernel
theorem dX0_readNumbers_55 : decode cX0_readNumbers 55 = .ok (.goto (-53), 3) := by decide +kernel
theorem dX0_readNumbers_58 : decode cX0_readNumbers 58 = .ok (.iconst 1, 1) := by decide +kernel
theorem dX0_readNumbers_59 : decode cX0_readNumbers 59 = .ok (.ireturn, 1) := by decide +kernel
theorem dX0_readNumber_0 : decode cX0_readNumber 0 = .ok (.iconst 0, 1) := by decide +kernel
theorem dX0_readNumber_1 : decode cX0_readNumber 1 = .ok (.istore_n 2, 1) := by decide +kernel
theorem dX0_readNumber_2 : decode cX0_readNumber 2 = .ok (.iconst 0, 1) := by decide +kernel
theorem dX0_readNumber_3 : decode cX0_readNumber 3 = .ok (.istore_n 3, 1) := by decide +kernel
theorem dX0_readNumber_4 : decode cX0_readNumber 4 = .ok (.iload_n 3, 1) := by decide +kernel
theorem dX0_readNumber_5 : decode cX0_readNumber 5 = .ok (.iconst 3, 1) := by decide +kernel
theorem dX0_readNumber_6 : decode cX0_readNumber 6 = .ok (.if_icmp .ge 60, 3) := by decide +kernel
theorem dX0_readNumber_9 : decode cX0_readNumber 9 = .ok (.bipush 48, 2) := by decide +kernel
theorem dX0_readNumber_11 : decode cX0_readNumber 11 = .ok (.aload_n 0, 1) := by decide +kernel
theorem dX0_readNumber_12 : decode cX0_readNumber 12 = .ok (.getfield 33, 3) := by decide +kernel
theorem dX0_readNumber_15 : decode cX0_readNumber 15 = .ok (.aload_n 0, 1) := by decide +kernel
theorem dX0_readNumber_16 : decode cX0_readNumber 16 = .ok (.getfield 37, 3) := by decide +kernel
theorem dX0_readNumber_19 : decode cX0_readNumber 19 = .ok (.invokevirtual 64, 3) := by decide +kernel
theorem dX0_readNumber_22 : decode cX0_readNumber 22 = .ok (.bipush 57, 2) := by decide +kernel
theorem dX0_readNumber_24 : decode cX0_readNumber 24 = .ok (.invokestatic 68, 3) := by decide +kernel
theorem dX0_readNumber_27 : decode cX0_readNumber 27 = .ok (.ifCond .eq 39, 3) := by decide +kernel
theorem dX0_readNumber_30 : decode cX0_readNumber 30 = .ok (.iload_n 2, 1) := by decide +kernel
theorem dX0_readNumber_31 : decode cX0_readNumber 31 = .ok (.bipush 10, 2) := by decide +kernel
theorem dX0_readNumber_33 : decode cX0_readNumber 33 = .ok (.imul, 1) := by decide +kernel
theorem dX0_readNumber_34 : decode cX0_readNumber 34 = .ok (.aload_n 0, 1) := by decide +kernel
theorem dX0_readNumber_35 : decode cX0_readNumber 35 = .ok (.getfield 33, 3) := by decide +kernel
theorem dX0_readNumber_38 : decode cX0_readNumber 38 = .ok (.aload_n 0, 1) := by decide +kernel
theorem dX0_readNumber_39 : decode cX0_readNumber 39 = .ok (.getfield 37, 3) := by decide +kernel
theorem dX0_readNumber_42 : decode cX0_readNumber 42 = .ok (.invokevirtual 64, 3) := by decide +kernel
theorem dX0_readNumber_45 : decode cX0_readNumber 45 = .ok (.iadd, 1) := by decide +kernel
theorem dX0_readNumber_46 : decode cX0_readNumber 46 = .ok (.bipush 48, 2) := by decide +kernel
theorem dX0_readNumber_48 : decode cX0_readNumber 48 = .ok (.isub, 1) := by decide +kernel
theorem dX0_readNumber_49 : decode cX0_readNumber 49 = .ok (.istore_n 2, 1) := by decide +kernel
theorem dX0_readNumber_50 : decode cX0_readNumber 50 = .ok (.iinc 3 1, 3) := by decide +kernel
theorem dX0_readNumber_53 : decode cX0_readNumber 53 = .ok (.aload_n 0, 1) := by decide +kernel
theorem dX0_readNumber_54 : decode cX0_readNumber 54 = .ok (.dup, 1) := by decide +kernel
theorem dX0_readNumber_55 : decode cX0_readNumber 55 = .ok (.getfield 37, 3) := by decide +kernel
theorem dX0_readNumber_58 : decode cX0_readNumber 58 = .ok (.iconst 1, 1) := by decide +kernel
theorem dX0_readNumber_59 : decode cX0_readNumber 59 = .ok (.iadd, 1) := by decide +kernel
theorem dX0_readNumber_60 : decode cX0_readNumber 60 = .ok (.putfield 37, 3) := by decide +kernel
theorem dX0_readNumber_63 : decode cX0_readNumber 63 = .ok (.goto (-59), 3) := by decide +kernel
theorem dX0_readNumber_66 : decode cX0_readNumber 66 = .ok (.aload_n 0, 1) := by decide +kernel
theorem dX0_readNumber_67 : decode cX0_readNumber 67 = .ok (.getfield 14, 3) := by decide +kernel
theorem dX0_readNumber_70 : decode cX0_readNumber 70 = .ok (.iload_n 1, 1) := by decide +kernel
theorem dX0_readNumber_71 : decode cX0_readNumber 71 = .ok (.iload_n 2, 1) := by decide +kernel
theorem dX0_readNumber_72 : decode cX0_readNumber 72 = .ok (.invokevirtual 102, 3) := by decide +kernel
theorem dX0_readNumber_75 : decode cX0_readNumber 75 = .ok (.iload_n 3, 1) := by decide +kernel
theorem dX0_readNumber_76 : decode cX0_readNumber 76 = .ok (.ifCond .gt 14, 3) := by decide +kernel
theorem dX0_readNumber_79 : decode cX0_readNumber 79 = .ok (.aload_n 0, 1) := by decide +kernel
theorem dX0_readNumber_80 : decode cX0_readNumber 80 = .ok (.aload_n 0, 1) := by decide +kernel
theorem dX0_readNumber_81 : decode cX0_readNumber 81 = .ok (.getfield 37, 3) := by decide +kernel
theorem dX0_readNumber_84 : decode cX0_readNumber 84 = .ok (.invokevirtual 84, 3) := by decide +kernel
theorem dX0_readNumber_87 : decode cX0_readNumber 87 = .ok (.ifCond .eq 7, 3) := by decide +kernel
theorem dX0_readNumber_90 : decode cX0_readNumber 90 = .ok (.iconst 1, 1) := by decide +kernel
theorem dX0_readNumber_91 : decode cX0_readNumber 91 = .ok (.goto 4, 3) := by decide +kernel
theorem dX0_readNumber_94 : decode cX0_readNumber 94 = .ok (.iconst 0, 1) := by decide +kernel
theorem dX0_readNumber_95 : decode cX0_readNumber 95 = .ok (.ireturn, 1) := by decide +kernel
theorem dX0_readSemicolon_0 : decode cX0_readSemicolon 0 = .ok (.aload_n 0, 1) := by decide +kernel
theorem dX0_readSemicolon_1 : decode cX0_readSemicolon 1 = .ok (.invokevirtual 47, 3) := by decide +kernel
theorem dX0_readSemicolon_4 : decode cX0_readSemicolon 4 = .ok (.aload_n 0, 1) := by decide +kernel
theorem dX0_readSemicolon_5 : decode cX0_readSemicolon 5 = .ok (.getfield 33, 3) := by decide +kernel
theorem dX0_readSemicolon_8 : decode cX0_readSemicolon 8 = .ok (.aload_n 0, 1) := by decide +kernel
theorem dX0_readSemicolon_9 : decode cX0_readSemicolon 9 = .ok (.getfield 37, 3) := by decide +kernel
theorem dX0_readSemicolon_12 : decode cX0_readSemicolon 12 = .ok (.invokevirtual 64, 3) := by decide +kernel
theorem dX0_readSemicolon_15 : decode cX0_readSemicolon 15 = .ok (.bipush 59, 2) := by decide +kernel
theorem dX0_readSemicolon_17 : decode cX0_readSemicolon 17 = .ok (.if_icmp .eq 12, 3) := by decide +kernel
theorem dX0_readSemicolon_20 : decode cX0_readSemicolon 20 = .ok (.aload_n 0, 1) := by decide +kernel
theorem dX0_readSemicolon_21 : decode cX0_readSemicolon 21 = .ok (.aload_n 0, 1) := by decide +kernel
theorem dX0_readSemicolon_22 : decode cX0_readSemicolon 22 = .ok (.getfield 37, 3) := by decide +kernel
theorem dX0_readSemicolon_25 : decode cX0_readSemicolon 25 = .ok (.invokevirtual 84, 3) := by decide +kernel
theorem dX0_readSemicolon_28 : decode cX0_readSemicolon 28 = .ok (.ireturn, 1) := by decide +kernel
theorem dX0_readSemicolon_29 : decode cX0_readSemicolon 29 = .ok (.aload_n 0, 1) := by decide +kernel
theorem dX0_readSemicolon_30 : decode cX0_readSemicolon 30 = .ok (.dup, 1) := by decide +kernel
theorem dX0_readSemicolon_31 : decode cX0_readSemicolon 31 = .ok (.getfield 37, 3) := by decide +kernel
theorem dX0_readSemicolon_34 : decode cX0_readSemicolon 34 = .ok (.iconst 1, 1) := by decide +kernel
theorem dX0_readSemicolon_35 : decode cX0_readSemicolon 35 = .ok (.iadd, 1) := by decide +kernel
theorem dX0_readSemicolon_36 : decode cX0_readSemicolon 36 = .ok (.putfield 37, 3) := by decide +kernel
theorem dX0_readSemicolon_39 : decode cX0_readSemicolon 39 = .ok (.iconst 1, 1) := by decide +kernel
theorem dX0_readSemicolon_40 : decode cX0_readSemicolon 40 = .ok (.ireturn, 1) := by decide +kernel
theorem dX1_init_0 : decode cX1_init 0 = .ok (.aload_n 0, 1) := by decide +kernel
theorem dX1_init_1 : decode cX1_init 1 = .ok (.invokespecial 3, 3) := by decide +kernel
theorem dX1_init_4 : decode cX1_init 4 = .ok (.aload_n 0, 1) := by decide +kernel
theorem dX1_init_5 : decode cX1_init 5 = .ok (.new 9, 3) := by decide +kernel
theorem dX1_init_8 : decode cX1_init 8 = .ok (.dup, 1) := by decide +kernel
theorem dX1_init_9 : decode cX1_init 9 = .ok (.sipush 150, 3) := by decide +kernel
theorem dX1_init_12 : decode cX1_init 12 = .ok (.invokespecial 11, 3) := by decide +kernel
theorem dX1_init_15 : decode cX1_init 15 = .ok (.putfield 14, 3) := by decide +kernel
theorem dX1_init_18 : decode cX1_init 18 = .ok (.return_, 1) := by decide +kernel
theorem dX1_append_0 : decode cX1_append 0 = .ok (.aload_n 0, 1) := by decide +kernel
theorem dX1_append_1 : decode cX1_append 1 = .ok (.getfield 20, 3) := by decide +kernel
theorem dX1_append_4 : decode cX1_append 4 = .ok (.sipush 150, 3) := by decide +kernel
theorem dX1_append_7 : decode cX1_append 7 = .ok (.if_icmp .ge 25, 3) := by decide +kernel
theorem dX1_append_10 : decode cX1_append 10 = .ok (.aload_n 0, 1) := by decide +kernel
theorem dX1_append_11 : decode cX1_append 11 = .ok (.getfield 14, 3) := by decide +kernel
theorem dX1_append_14 : decode cX1_append 14 = .ok (.aload_n 0, 1) := by decide +kernel
theorem dX1_append_15 : decode cX1_append 15 = .ok (.getfield 20, 3) := by decide +kernel
theorem dX1_append_18 : decode cX1_append 18 = .ok (.iload_n 1, 1) := by decide +kernel
theorem dX1_append_19 : decode cX1_append 19 = .ok (.invokevirtual 24, 3) := by decide +kernel
theorem dX1_append_22 : decode cX1_append 22 = .ok (.aload_n 0, 1) := by decide +kernel
theorem dX1_append_23 : decode cX1_append 23 = .ok (.dup, 1) := by decide +kernel
theorem dX1_append_24 : decode cX1_append 24 = .ok (.getfield 20, 3) := by decide +kernel
theorem dX1_append_27 : decode cX1_append 27 = .ok (.iconst 1, 1) := by decide +kernel
theorem dX1_append_28 : decode cX1_append 28 = .ok (.iadd, 1) := by decide +kernel
theorem dX1_append_29 : decode cX1_append 29 = .ok (.putfield 20, 3) := by decide +kernel
theorem dX1_append_32 : decode cX1_append 32 = .ok (.aload_n 0, 1) := by decide +kernel
theorem dX1_append_33 : decode cX1_append 33 = .ok (.getfield 20, 3) := by decide +kernel
theorem dX1_append_36 : decode cX1_append 36 = .ok (.ireturn, 1) := by decide +kernel
theorem dX1_empty_0 : decode cX1_empty 0 = .ok (.aload_n 0, 1) := by decide +kernel
theorem dX1_empty_1 : decode cX1_empty 1 = .ok (.getfield 20, 3) := by decide +kernel
theorem dX1_empty_4 : decode cX1_empty 4 = .ok (.istore_n 1, 1) := by decide +kernel
theorem dX1_empty_5 : decode cX1_empty 5 = .ok (.aload_n 0, 1) := by decide +kernel
theorem dX1_empty_6 : decode cX1_empty 6 = .ok (.iconst 0, 1) := by decide +kernel
theorem dX1_empty_7 : decode cX1_empty 7 = .ok (.putfield 20, 3) := by decide +kernel
theorem dX1_empty_10 : decode cX1_empty 10 = .ok (.iload_n 1, 1) := by decide +kernel
theorem dX1_empty_11 : decode cX1_empty 11 = .ok (.ireturn, 1) := by decide +kernel
theorem dX1_at_0 : decode cX1_at 0 = .ok (.iload_n 1, 1) := by decide +kernel
theorem dX1_at_1 : decode cX1_at 1 = .ok (.aload_n 0, 1) := by decide +kernel
theorem dX1_at_2 : decode cX1_at 2 = .ok (.getfield 20, 3) := by decide +kernel
theorem dX1_at_5 : decode cX1_at 5 = .ok (.if_icmp .ge 14, 3) := by decide +kernel
theorem dX1_at_8 : decode cX1_at 8 = .ok (.aload_n 0, 1) := by decide +kernel
theorem dX1_at_9 : decode cX1_at 9 = .ok (.getfield 14, 3) := by decide +kernel
theorem dX1_at_12 : decode cX1_at 12 = .ok (.iload_n 1, 1) := by decide +kernel
theorem dX1_at_13 : decode cX1_at 13 = .ok (.invokevirtual 28, 3) := by decide +kernel
theorem dX1_at_16 : decode cX1_at 16 = .ok (.goto 4, 3) := by decide +kernel
theorem dX1_at_19 : decode cX1_at 19 = .ok (.iconst (-1), 1) := by decide +kernel
theorem dX1_at_20 : decode cX1_at 20 = .ok (.ireturn, 1) := by decide +kernel
theorem dX2_init_0 : decode cX2_init 0 = .ok (.aload_n 0, 1) := by decide +kernel
theorem dX2_init_1 : decode cX2_init 1 = .ok (.invokespecial 3, 3) := by decide +kernel
theorem dX2_init_4 : decode cX2_init 4 = .ok (.aload_n 0, 1) := by decide +kernel
theorem dX2_init_5 : decode cX2_init 5 = .ok (.sipush 320, 3) := by decide +kernel
theorem dX2_init_8 : decode cX2_init 8 = .ok (.newarray .int, 2) := by decide +kernel
theorem dX2_init_10 : decode cX2_init 10 = .ok (.putfield 9, 3) := by decide +kernel
theorem dX2_init_13 : decode cX2_init 13 = .ok (.return_, 1) := by decide +kernel
theorem dX2_at_0 : decode cX2_at 0 = .ok (.iload_n 2, 1) := by decide +kernel
theorem dX2_at_1 : decode cX2_at 1 = .ok (.bipush 20, 2) := by decide +kernel
theorem dX2_at_3 : decode cX2_at 3 = .ok (.imul, 1) := by decide +kernel
theorem dX2_at_4 : decode cX2_at 4 = .ok (.iload_n 1, 1) := by decide +kernel
theorem dX2_at_5 : decode cX2_at 5 = .ok (.iadd, 1) := by decide +kernel
theorem dX2_at_6 : decode cX2_at 6 = .ok (.istore_n 3, 1) := by decide +kernel
theorem dX2_at_7 : decode cX2_at 7 = .ok (.iload_n 1, 1) := by decide +kernel
theorem dX2_at_8 : decode cX2_at 8 = .ok (.ifCond .lt 31, 3) := by decide +kernel
theorem dX2_at_11 : decode cX2_at 11 = .ok (.iload_n 1, 1) := by decide +kernel
theorem dX2_at_12 : decode cX2_at 12 = .ok (.bipush 20, 2) := by decide +kernel
theorem dX2_at_14 : decode cX2_at 14 = .ok (.if_icmp .ge 25, 3) := by decide +kernel
theorem dX2_at_17 : decode cX2_at 17 = .ok (.iload_n 3, 1) := by decide +kernel
theorem dX2_at_18 : decode cX2_at 18 = .ok (.ifCond .lt 21, 3) := by decide +kernel
theorem dX2_at_21 : decode cX2_at 21 = .ok (.iload_n 3, 1) := by decide +kernel
theorem dX2_at_22 : decode cX2_at 22 = .ok (.aload_n 0, 1) := by decide +kernel
theorem dX2_at_23 : decode cX2_at 23 = .ok (.getfield 9, 3) := by decide +kernel
theorem dX2_at_26 : decode cX2_at 26 = .ok (.arraylength, 1) := by decide +kernel
theorem dX2_at_27 : decode cX2_at 27 = .ok (.if_icmp .ge 12, 3) := by decide +kernel
theorem dX2_at_30 : decode cX2_at 30 = .ok (.aload_n 0, 1) := by decide +kernel
theorem dX2_at_31 : decode cX2_at 31 = .ok (.getfield 9, 3) := by decide +kernel
theorem dX2_at_34 : decode cX2_at 34 = .ok (.iload_n 3, 1) := by decide +kernel
theorem dX2_at_35 : decode cX2_at 35 = .ok (.iaload, 1) := by decide +kernel
theorem dX2_at_36 : decode cX2_at 36 = .ok (.goto 4, 3) := by decide +kernel
theorem dX2_at_39 : decode cX2_at 39 = .ok (.iconst (-1), 1) := by decide +kernel
theorem dX2_at_40 : decode cX2_at 40 = .ok (.ireturn, 1) := by decide +kernel
theorem dX2_put_0 : decode cX2_put 0 = .ok (.iload_n 2, 1) := by decide +kernel
theorem dX2_put_1 : decode cX2_put 1 = .ok (.bipush 20, 2) := by decide +kernel
theorem dX2_put_3 : decode cX2_put 3 = .ok (.imul, 1) := by decide +kernel
theorem dX2_put_4 : decode cX2_put 4 = .ok (.iload_n 1, 1) := by decide +kernel
theorem dX2_put_5 : decode cX2_put 5 = .ok (.iadd, 1) := by decide +kernel
theorem dX2_put_6 : decode cX2_put 6 = .ok (.istore 4, 2) := by decide +kernel
theorem dX2_put_8 : decode cX2_put 8 = .ok (.iload_n 1, 1) := by decide +kernel
theorem dX2_put_9 : decode cX2_put 9 = .ok (.ifCond .lt 32, 3) := by decide +kernel
theorem dX2_put_12 : decode cX2_put 12 = .ok (.iload_n 1, 1) := by decide +kernel
theorem dX2_put_13 : decode cX2_put 13 = .ok (.bipush 20, 2) := by decide +kernel
theorem dX2_put_15 : decode cX2_put 15 = .ok (.if_icmp .ge 26, 3) := by decide +kernel
theorem dX2_put_18 : decode cX2_put 18 = .ok (.iload 4, 2) := by decide +kernel
theorem dX2_put_20 : decode cX2_put 20 = .ok (.ifCond .lt 21, 3) := by decide +kernel
theorem dX2_put_23 : decode cX2_put 23 = .ok (.iload 4, 2) := by decide +kernel
theorem dX2_put_25 : decode cX2_put 25 = .ok (.aload_n 0, 1) := by decide +kernel
theorem dX2_put_26 : decode cX2_put 26 = .ok (.getfield 9, 3) := by decide +kernel
theorem dX2_put_29 : decode cX2_put 29 = .ok (.arraylength, 1) := by decide +kernel
theorem dX2_put_30 : decode cX2_put 30 = .ok (.if_icmp .ge 11, 3) := by decide +kernel
theorem dX2_put_33 : decode cX2_put 33 = .ok (.aload_n 0, 1) := by decide +kernel
theorem dX2_put_34 : decode cX2_put 34 = .ok (.getfield 9, 3) := by decide +kernel
theorem dX2_put_37 : decode cX2_put 37 = .ok (.iload 4, 2) := by decide +kernel
theorem dX2_put_39 : decode cX2_put 39 = .ok (.iload_n 3, 1) := by decide +kernel
theorem dX2_put_40 : decode cX2_put 40 = .ok (.iastore, 1) := by decide +kernel
theorem dX2_put_41 : decode cX2_put 41 = .ok (.return_, 1) := by decide +kernel
theorem dX2_putAll_0 : decode cX2_putAll 0 = .ok (.iconst 0, 1) := by decide +kernel
theorem dX2_putAll_1 : decode cX2_putAll 1 = .ok (.istore_n 2, 1) := by decide +kernel
theorem dX2_putAll_2 : decode cX2_putAll 2 = .ok (.iload_n 2, 1) := by decide +kernel
theorem dX2_putAll_3 : decode cX2_putAll 3 = .ok (.aload_n 0, 1) := by decide +kernel
theorem dX2_putAll_4 : decode cX2_putAll 4 = .ok (.getfield 9, 3) := by decide +kernel
theorem dX2_putAll_7 : decode cX2_putAll 7 = .ok (.arraylength, 1) := by decide +kernel
theorem dX2_putAll_8 : decode cX2_putAll 8 = .ok (.if_icmp .ge 16, 3) := by decide +kernel
theorem dX2_putAll_11 : decode cX2_putAll 11 = .ok (.aload_n 0, 1) := by decide +kernel
theorem dX2_putAll_12 : decode cX2_putAll 12 = .ok (.getfield 9, 3) := by decide +kernel
theorem dX2_putAll_15 : decode cX2_putAll 15 = .ok (.iload_n 2, 1) := by decide +kernel
theorem dX2_putAll_16 : decode cX2_putAll 16 = .ok (.iload_n 1, 1) := by decide +kernel
theorem dX2_putAll_17 : decode cX2_putAll 17 = .ok (.iastore, 1) := by decide +kernel
theorem dX2_putAll_18 : decode cX2_putAll 18 = .ok (.iinc 2 1, 3) := by decide +kernel
theorem dX2_putAll_21 : decode cX2_putAll 21 = .ok (.goto (-19), 3) := by decide +kernel
theorem dX2_putAll_24 : decode cX2_putAll 24 = .ok (.return_, 1) := by decide +kernel
theorem dX2_copyFrom_0 : decode cX2_copyFrom 0 = .ok (.iconst 0, 1) := by decide +kernel
theorem dX2_copyFrom_1 : decode cX2_copyFrom 1 = .ok (.istore_n 2, 1) := by decide +kernel
theorem dX2_copyFrom_2 : decode cX2_copyFrom 2 = .ok (.iload_n 2, 1) := by decide +kernel
theorem dX2_copyFrom_3 : decode cX2_copyFrom 3 = .ok (.aload_n 0, 1) := by decide +kernel
theorem dX2_copyFrom_4 : decode cX2_copyFrom 4 = .ok (.getfield 9, 3) := by decide +kernel
theorem dX2_copyFrom_7 : decode cX2_copyFrom 7 = .ok (.arraylength, 1) := by decide +kernel
theorem dX2_copyFrom_8 : decode cX2_copyFrom 8 = .ok (.if_icmp .ge 30, 3) := by decide +kernel
theorem dX2_copyFrom_11 : decode cX2_copyFrom 11 = .ok (.iload_n 2, 1) := by decide +kernel
theorem dX2_copyFrom_12 : decode cX2_copyFrom 12 = .ok (.aload_n 1, 1) := by decide +kernel
theorem dX2_copyFrom_13 : decode cX2_copyFrom 13 = .ok (.getfield 9, 3) := by decide +kernel
theorem dX2_copyFrom_16 : decode cX2_copyFrom 16 = .ok (.arraylength, 1) := by decide +kernel
theorem dX2_copyFrom_17 : decode cX2_copyFrom 17 = .ok (.if_icmp .ge 21, 3) := by decide +kernel
theorem dX2_copyFrom_20 : decode cX2_copyFrom 20 = .ok (.aload_n 0, 1) := by decide +kernel
theorem dX2_copyFrom_21 : decode cX2_copyFrom 21 = .ok (.getfield 9, 3) := by decide +kernel
theorem dX2_copyFrom_24 : decode cX2_copyFrom 24 = .ok (.iload_n 2, 1) := by decide +kernel
theorem dX2_copyFrom_25 : decode cX2_copyFrom 25 = .ok (.aload_n 1, 1) := by decide +kernel
theorem dX2_copyFrom_26 : decode cX2_copyFrom 26 = .ok (.getfield 9, 3) := by decide +kernel
theorem dX2_copyFrom_29 : decode cX2_copyFrom 29 = .ok (.iload_n 2, 1) := by decide +kernel
theorem dX2_copyFrom_30 : decode cX2_copyFrom 30 = .ok (.iaload, 1) := by decide +kernel
theorem dX2_copyFrom_31 : decode cX2_copyFrom 31 = .ok (.iastore, 1) := by decide +kernel
theorem dX2_copyFrom_32 : decode cX2_copyFrom 32 = .ok (.iinc 2 1, 3) := by decide +kernel
theorem dX2_copyFrom_35 : decode cX2_copyFrom 35 = .ok (.goto (-33), 3) := by decide +kernel
theorem dX2_copyFrom_38 : decode cX2_copyFrom 38 = .ok (.return_, 1) := by decide +kernel
theorem dX2_startsRun_0 : decode cX2_startsRun 0 = .ok (.aload_n 0, 1) := by decide +kernel
theorem dX2_startsRun_1 : decode cX2_startsRun 1 = .ok (.iload_n 1, 1) := by decide +kernel
theorem dX2_startsRun_2 : decode cX2_startsRun 2 = .ok (.iload_n 2, 1) := by decide +kernel
theorem dX2_startsRun_3 : decode cX2_startsRun 3 = .ok (.invokevirtual 15, 3) := by decide +kernel
theorem dX2_startsRun_6 : decode cX2_startsRun 6 = .ok (.aload_n 0, 1) := by decide +kernel
theorem dX2_startsRun_7 : decode cX2_startsRun 7 = .ok (.iload_n 1, 1) := by decide +kernel
theorem dX2_startsRun_8 : decode cX2_startsRun 8 = .ok (.iconst 1, 1) := by decide +kernel
theorem dX2_startsRun_9 : decode cX2_startsRun 9 = .ok (.isub, 1) := by decide +kernel
theorem dX2_startsRun_10 : decode cX2_startsRun 10 = .ok (.iload_n 2, 1) := by decide +kernel
theorem dX2_startsRun_11 : decode cX2_startsRun 11 = .ok (.invokevirtual 15, 3) := by decide +kernel
theorem dX2_startsRun_14 : decode cX2_startsRun 14 = .ok (.if_icmp .eq 7, 3) := by decide +kernel
theorem dX2_startsRun_17 : decode cX2_startsRun 17 = .ok (.iconst 1, 1) := by decide +kernel
theorem dX2_startsRun_18 : decode cX2_startsRun 18 = .ok (.goto 4, 3) := by decide +kernel
theorem dX2_startsRun_21 : decode cX2_startsRun 21 = .ok (.iconst 0, 1) := by decide +kernel
theorem dX2_startsRun_22 : decode cX2_startsRun 22 = .ok (.ireturn, 1) := by decide +kernel
theorem dX2_runs_0 : decode cX2_runs 0 = .ok (.iconst 0, 1) := by decide +kernel
theorem dX2_runs_1 : decode cX2_runs 1 = .ok (.istore_n 3, 1) := by decide +kernel
theorem dX2_runs_2 : decode cX2_runs 2 = .ok (.iconst 0, 1) := by decide +kernel
theorem dX2_runs_3 : decode cX2_runs 3 = .ok (.istore 4, 2) := by decide +kernel
theorem dX2_runs_5 : decode cX2_runs 5 = .ok (.iload 4, 2) := by decide +kernel
theorem dX2_runs_7 : decode cX2_runs 7 = .ok (.iload_n 2, 1) := by decide +kernel
theorem dX2_runs_8 : decode cX2_runs 8 = .ok (.if_icmp .ge 27, 3) := by decide +kernel
theorem dX2_runs_11 : decode cX2_runs 11 = .ok (.iload_n 3, 1) := by decide +kernel
theorem dX2_runs_12 : decode cX2_runs 12 = .ok (.aload_n 0, 1) := by decide +kernel
theorem dX2_runs_13 : decode cX2_runs 13 = .ok (.iload 4, 2) := by decide +kernel
theorem dX2_runs_15 : decode cX2_runs 15 = .ok (.iload_n 1, 1) := by decide +kernel
theorem dX2_runs_16 : decode cX2_runs 16 = .ok (.invokevirtual 19, 3) := by decide +kernel
theorem dX2_runs_19 : decode cX2_runs 19 = .ok (.ifCond .eq 7, 3) := by decide +kernel
theorem dX2_runs_22 : decode cX2_runs 22 = .ok (.iconst 1, 1) := by decide +kernel
theorem dX2_runs_23 : decode cX2_runs 23 = .ok (.goto 4, 3) := by decide +kernel
theorem dX2_runs_26 : decode cX2_runs 26 = .ok (.iconst 0, 1) := by decide +kernel
theorem dX2_runs_27 : decode cX2_runs 27 = .ok (.iadd, 1) := by decide +kernel
theorem dX2_runs_28 : decode cX2_runs 28 = .ok (.istore_n 3, 1) := by decide +kernel
theorem dX2_runs_29 : decode cX2_runs 29 = .ok (.iinc 4 1, 3) := by decide +kernel
theorem dX2_runs_32 : decode cX2_runs 32 = .ok (.goto (-27), 3) := by decide +kernel
theorem dX2_runs_35 : decode cX2_runs 35 = .ok (.iload_n 3, 1) := by decide +kernel
theorem dX2_runs_36 : decode cX2_runs 36 = .ok (.ireturn, 1) := by decide +kernel
theorem dX2_runsOf_0 : decode cX2_runsOf 0 = .ok (.iconst 0, 1) := by decide +kernel
theorem dX2_runsOf_1 : decode cX2_runsOf 1 = .ok (.istore 4, 2) := by decide +kernel
theorem dX2_runsOf_3 : decode cX2_runsOf 3 = .ok (.iconst 0, 1) := by decide +kernel
theorem dX2_runsOf_4 : decode cX2_runsOf 4 = .ok (.istore 5, 2) := by decide +kernel
theorem dX2_runsOf_6 : decode cX2_runsOf 6 = .ok (.iload 5, 2) := by decide +kernel
theorem dX2_runsOf_8 : decode cX2_runsOf 8 = .ok (.iload_n 3, 1) := by decide +kernel
theorem dX2_runsOf_9 : decode cX2_runsOf 9 = .ok (.if_icmp .ge 43, 3) := by decide +kernel
theorem dX2_runsOf_12 : decode cX2_runsOf 12 = .ok (.iload 4, 2) := by decide +kernel
theorem dX2_runsOf_14 : decode cX2_runsOf 14 = .ok (.aload_n 0, 1) := by decide +kernel
theorem dX2_runsOf_15 : decode cX2_runsOf 15 = .ok (.iload 5, 2) := by decide +kernel
theorem dX2_runsOf_17 : decode cX2_runsOf 17 = .ok (.iload_n 2, 1) := by decide +kernel
theorem dX2_runsOf_18 : decode cX2_runsOf 18 = .ok (.invokevirtual 15, 3) := by decide +kernel
theorem dX2_runsOf_21 : decode cX2_runsOf 21 = .ok (.iload_n 1, 1) := by decide +kernel
theorem dX2_runsOf_22 : decode cX2_runsOf 22 = .ok (.if_icmp .ne 20, 3) := by decide +kernel
theorem dX2_runsOf_25 : decode cX2_runsOf 25 = .ok (.aload_n 0, 1) := by decide +kernel
theorem dX2_runsOf_26 : decode cX2_runsOf 26 = .ok (.iload 5, 2) := by decide +kernel
theorem dX2_runsOf_28 : decode cX2_runsOf 28 = .ok (.iconst 1, 1) := by decide +kernel
theorem dX2_runsOf_29 : decode cX2_runsOf 29 = .ok (.isub, 1) := by decide +kernel
theorem dX2_runsOf_30 : decode cX2_runsOf 30 = .ok (.iload_n 2, 1) := by decide +kernel
theorem dX2_runsOf_31 : decode cX2_runsOf 31 = .ok (.invokevirtual 15, 3) := by decide +kernel
theorem dX2_runsOf_34 : decode cX2_runsOf 34 = .ok (.iload_n 1, 1) := by decide +kernel
theorem dX2_runsOf_35 : decode cX2_runsOf 35 = .ok (.if_icmp .eq 7, 3) := by decide +kernel
theorem dX2_runsOf_38 : decode cX2_runsOf 38 = .ok (.iconst 1, 1) := by decide +kernel
theorem dX2_runsOf_39 : decode cX2_runsOf 39 = .ok (.goto 4, 3) := by decide +kernel
theorem dX2_runsOf_42 : decode cX2_runsOf 42 = .ok (.iconst 0, 1) := by decide +kernel
theorem dX2_runsOf_43 : decode cX2_runsOf 43 = .ok (.iadd, 1) := by decide +kernel
theorem dX2_runsOf_44 : decode cX2_runsOf 44 = .ok (.istore 4, 2) := by decide +kernel
theorem dX2_runsOf_46 : decode cX2_runsOf 46 = .ok (.iinc 5 1, 3) := by decide +kernel
theorem dX2_runsOf_49 : decode cX2_runsOf 49 = .ok (.goto (-43), 3) := by decide +kernel
theorem dX2_runsOf_52 : decode cX2_runsOf 52 = .ok (.iload 4, 2) := by decide +kernel
theorem dX2_runsOf_54 : decode cX2_runsOf 54 = .ok (.ireturn, 1) := by decide +kernel
theorem dX2_cellsOf_0 : decode cX2_cellsOf 0 = .ok (.iconst 0, 1) := by decide +kernel
theorem dX2_cellsOf_1 : decode cX2_cellsOf 1 = .ok (.istore 4, 2) := by decide +kernel
theorem dX2_cellsOf_3 : decode cX2_cellsOf 3 = .ok (.iconst 0, 1) := by decide +kernel
theorem dX2_cellsOf_4 : decode cX2_cellsOf 4 = .ok (.istore 5, 2) := by decide +kernel
theorem dX2_cellsOf_6 : decode cX2_cellsOf 6 = .ok (.iload 5, 2) := by decide +kernel
theorem dX2_cellsOf_8 : decode cX2_cellsOf 8 = .ok (.iload_n 3, 1) := by decide +kernel
theorem dX2_cellsOf_9 : decode cX2_cellsOf 9 = .ok (.if_icmp .ge 30, 3) := by decide +kernel
theorem dX2_cellsOf_12 : decode cX2_cellsOf 12 = .ok (.iload 4, 2) := by decide +kernel
theorem dX2_cellsOf_14 : decode cX2_cellsOf 14 = .ok (.aload_n 0, 1) := by decide +kernel
theorem dX2_cellsOf_15 : decode cX2_cellsOf 15 = .ok (.iload 5, 2) := by decide +kernel
theorem dX2_cellsOf_17 : decode cX2_cellsOf 17 = .ok (.iload_n 2, 1) := by decide +kernel
theorem dX2_cellsOf_18 : decode cX2_cellsOf 18 = .ok (.invokevirtual 15, 3) := by decide +kernel
theorem dX2_cellsOf_21 : decode cX2_cellsOf 21 = .ok (.iload_n 1, 1) := by decide +kernel
theorem dX2_cellsOf_22 : decode cX2_cellsOf 22 = .ok (.if_icmp .ne 7, 3) := by decide +kernel
theorem dX2_cellsOf_25 : decode cX2_cellsOf 25 = .ok (.iconst 1, 1) := by decide +kernel
theorem dX2_cellsOf_26 : decode cX2_cellsOf 26 = .ok (.goto 4, 3) := by decide +kernel
theorem dX2_cellsOf_29 : decode cX2_cellsOf 29 = .ok (.iconst 0, 1) := by decide +kernel
theorem dX2_cellsOf_30 : decode cX2_cellsOf 30 = .ok (.iadd, 1) := by decide +kernel
theorem dX2_cellsOf_31 : decode cX2_cellsOf 31 = .ok (.istore 4, 2) := by decide +kernel
theorem dX2_cellsOf_33 : decode cX2_cellsOf 33 = .ok (.iinc 5 1, 3) := by decide +kernel
theorem dX2_cellsOf_36 : decode cX2_cellsOf 36 = .ok (.goto (-30), 3) := by decide +kernel
theorem dX2_cellsOf_39 : decode cX2_cellsOf 39 = .ok (.iload 4, 2) := by decide +kernel
theorem dX2_cellsOf_41 : decode cX2_cellsOf 41 = .ok (.ireturn, 1) := by decide +kernel
theorem dX2_unitsOf_0 : decode cX2_unitsOf 0 = .ok (.aload_n 0, 1) := by decide +kernel
theorem dX2_unitsOf_1 : decode cX2_unitsOf 1 = .ok (.iload_n 1, 1) := by decide +kernel
theorem dX2_unitsOf_2 : decode cX2_unitsOf 2 = .ok (.iload_n 2, 1) := by decide +kernel
theorem dX2_unitsOf_3 : decode cX2_unitsOf 3 = .ok (.iload_n 3, 1) := by decide +kernel
theorem dX2_unitsOf_4 : decode cX2_unitsOf 4 = .ok (.invokevirtual 23, 3) := by decide +kernel
theorem dX2_unitsOf_7 : decode cX2_unitsOf 7 = .ok (.aload_n 0, 1) := by decide +kernel
theorem dX2_unitsOf_8 : decode cX2_unitsOf 8 = .ok (.iload_n 1, 1) := by decide +kernel
theorem dX2_unitsOf_9 : decode cX2_unitsOf 9 = .ok (.iload_n 2, 1) := by decide +kernel
theorem dX2_unitsOf_10 : decode cX2_unitsOf 10 = .ok (.iload_n 3, 1) := by decide +kernel
theorem dX2_unitsOf_11 : decode cX2_unitsOf 11 = .ok (.invokevirtual 27, 3) := by decide +kernel
theorem dX2_unitsOf_14 : decode cX2_unitsOf 14 = .ok (.iadd, 1) := by decide +kernel
theorem dX2_unitsOf_15 : decode cX2_unitsOf 15 = .ok (.ireturn, 1) := by decide +kernel
theorem dX3_init_0 : decode cX3_init 0 = .ok (.aload_n 0, 1) := by decide +kernel
theorem dX3_init_1 : decode cX3_init 1 = .ok (.invokespecial 3, 3) := by decide +kernel
theorem dX3_init_4 : decode cX3_init 4 = .ok (.aload_n 0, 1) := by decide +kernel
theorem dX3_init_5 : decode cX3_init 5 = .ok (.iconst 4, 1) := by decide +kernel
theorem dX3_init_6 : decode cX3_init 6 = .ok (.anewarray 9, 3) := by decide +kernel
theorem dX3_init_9 : decode cX3_init 9 = .ok (.putfield 11, 3) := by decide +kernel
theorem dX3_init_12 : decode cX3_init 12 = .ok (.iconst 0, 1) := by decide +kernel
theorem dX3_init_13 : decode cX3_init 13 = .ok (.istore_n 1, 1) := by decide +kernel
theorem dX3_init_14 : decode cX3_init 14 = .ok (.iload_n 1, 1) := by decide +kernel
theorem dX3_init_15 : decode cX3_init 15 = .ok (.aload_n 0, 1) := by decide +kernel
theorem dX3_init_16 : decode cX3_init 16 = .ok (.getfield 11, 3) := by decide +kernel
theorem dX3_init_19 : decode cX3_init 19 = .ok (.arraylength, 1) := by decide +kernel
theorem dX3_init_20 : decode cX3_init 20 = .ok (.if_icmp .ge 22, 3) := by decide +kernel
theorem dX3_init_23 : decode cX3_init 23 = .ok (.aload_n 0, 1) := by decide +kernel
theorem dX3_init_24 : decode cX3_init 24 = .ok (.getfield 11, 3) := by decide +kernel
theorem dX3_init_27 : decode cX3_init 27 = .ok (.iload_n 1, 1) := by decide +kernel
theorem dX3_init_28 : decode cX3_init 28 = .ok (.new 9, 3) := by decide +kernel
theorem dX3_init_31 : decode cX3_init 31 = .ok (.dup, 1) := by decide +kernel
theorem dX3_init_32 : decode cX3_init 32 = .ok (.invokespecial 17, 3) := by decide +kernel
theorem dX3_init_35 : decode cX3_init 35 = .ok (.aastore, 1) := by decide +kernel
theorem dX3_init_36 : decode cX3_init 36 = .ok (.iinc 1 1, 3) := by decide +kernel
theorem dX3_init_39 : decode cX3_init 39 = .ok (.goto (-25), 3) := by decide +kernel
theorem dX3_init_42 : decode cX3_init 42 = .ok (.return_, 1) := by decide +kernel
theorem dX3_save_0 : decode cX3_save 0 = .ok (.aload_n 0, 1) := by decide +kernel
theorem dX3_save_1 : decode cX3_save 1 = .ok (.aload_n 0, 1) := by decide +kernel
theorem dX3_save_2 : decode cX3_save 2 = .ok (.getfield 18, 3) := by decide +kernel
theorem dX3_save_5 : decode cX3_save 5 = .ok (.invokevirtual 22, 3) := by decide +kernel
theorem dX3_save_8 : decode cX3_save 8 = .ok (.astore_n 2, 1) := by decide +kernel
theorem dX3_save_9 : decode cX3_save 9 = .ok (.aload_n 2, 1) := by decide +kernel
theorem dX3_save_10 : decode cX3_save 10 = .ok (.ifnull 34, 3) := by decide +kernel
theorem dX3_save_13 : decode cX3_save 13 = .ok (.aload_n 2, 1) := by decide +kernel
theorem dX3_save_14 : decode cX3_save 14 = .ok (.aload_n 1, 1) := by decide +kernel
theorem dX3_save_15 : decode cX3_save 15 = .ok (.invokevirtual 26, 3) := by decide +kernel
theorem dX3_save_18 : decode cX3_save 18 = .ok (.aload_n 0, 1) := by decide +kernel
theorem dX3_save_19 : decode cX3_save 19 = .ok (.aload_n 0, 1) := by decide +kernel
theorem dX3_save_20 : decode cX3_save 20 = .ok (.getfield 18, 3) := by decide +kernel
theorem dX3_save_23 : decode cX3_save 23 = .ok (.iconst 1, 1) := by decide +kernel
theorem dX3_save_24 : decode cX3_save 24 = .ok (.iadd, 1) := by decide +kernel
theorem dX3_save_25 : decode cX3_save 25 = .ok (.iconst 4, 1) := by decide +kernel
theorem dX3_save_26 : decode cX3_save 26 = .ok (.irem, 1) := by decide +kernel
theorem dX3_save_27 : decode cX3_save 27 = .ok (.putfield 18, 3) := by decide +kernel
theorem dX3_save_30 : decode cX3_save 30 = .ok (.aload_n 0, 1) := by decide +kernel
theorem dX3_save_31 : decode cX3_save 31 = .ok (.aload_n 0, 1) := by decide +kernel
theorem dX3_save_32 : decode cX3_save 32 = .ok (.getfield 30, 3) := by decide +kernel
theorem dX3_save_35 : decode cX3_save 35 = .ok (.iconst 1, 1) := by decide +kernel
theorem dX3_save_36 : decode cX3_save 36 = .ok (.iadd, 1) := by decide +kernel
theorem dX3_save_37 : decode cX3_save 37 = .ok (.iconst 4, 1) := by decide +kernel
theorem dX3_save_38 : decode cX3_save 38 = .ok (.invokestatic 33, 3) := by decide +kernel
theorem dX3_save_41 : decode cX3_save 41 = .ok (.putfield 30, 3) := by decide +kernel
theorem dX3_save_44 : decode cX3_save 44 = .ok (.return_, 1) := by decide +kernel
theorem dX3_restore_0 : decode cX3_restore 0 = .ok (.aload_n 0, 1) := by decide +kernel
theorem dX3_restore_1 : decode cX3_restore 1 = .ok (.getfield 18, 3) := by decide +kernel
theorem dX3_restore_4 : decode cX3_restore 4 = .ok (.iconst 4, 1) := by decide +kernel
theorem dX3_restore_5 : decode cX3_restore 5 = .ok (.iadd, 1) := by decide +kernel
theorem dX3_restore_6 : decode cX3_restore 6 = .ok (.iconst 1, 1) := by decide +kernel
theorem dX3_restore_7 : decode cX3_restore 7 = .ok (.isub, 1) := by decide +kernel
theorem dX3_restore_8 : decode cX3_restore 8 = .ok (.iconst 4, 1) := by decide +kernel
theorem dX3_restore_9 : decode cX3_restore 9 = .ok (.irem, 1) := by decide +kernel
theorem dX3_restore_10 : decode cX3_restore 10 = .ok (.istore_n 2, 1) := by decide +kernel
theorem dX3_restore_11 : decode cX3_restore 11 = .ok (.aload_n 0, 1) := by decide +kernel
theorem dX3_restore_12 : decode cX3_restore 12 = .ok (.iload_n 2, 1) := by decide +kernel
theorem dX3_restore_13 : decode cX3_restore 13 = .ok (.invokevirtual 22, 3) := by decide +kernel
theorem dX3_restore_16 : decode cX3_restore 16 = .ok (.astore_n 3, 1) := by decide +kernel
theorem dX3_restore_17 : decode cX3_restore 17 = .ok (.aload_n 3, 1) := by decide +kernel
theorem dX3_restore_18 : decode cX3_restore 18 = .ok (.ifnull 30, 3) := by decide +kernel
theorem dX3_restore_21 : decode cX3_restore 21 = .ok (.aload_n 0, 1) := by decide +kernel
theorem dX3_restore_22 : decode cX3_restore 22 = .ok (.getfield 30, 3) := by decide +kernel
theorem dX3_restore_25 : decode cX3_restore 25 = .ok (.ifCond .le 23, 3) := by decide +kernel
theorem dX3_restore_28 : decode cX3_restore 28 = .ok (.aload_n 1, 1) := by decide +kernel
theorem dX3_restore_29 : decode cX3_restore 29 = .ok (.aload_n 3, 1) := by decide +kernel
theorem dX3_restore_30 : decode cX3_restore 30 = .ok (.invokevirtual 26, 3) := by decide +kernel
theorem dX3_restore_33 : decode cX3_restore 33 = .ok (.aload_n 0, 1) := by decide +kernel
theorem dX3_restore_34 : decode cX3_restore 34 = .ok (.iload_n 2, 1) := by decide +kernel
theorem dX3_restore_35 : decode cX3_restore 35 = .ok (.putfield 18, 3) := by decide +kernel
theorem dX3_restore_38 : decode cX3_restore 38 = .ok (.aload_n 0, 1) := by decide +kernel
theorem dX3_restore_39 : decode cX3_restore 39 = .ok (.dup, 1) := by decide +kernel
theorem dX3_restore_40 : decode cX3_restore 40 = .ok (.getfield 30, 3) := by decide +kernel
theorem dX3_restore_43 : decode cX3_restore 43 = .ok (.iconst 1, 1) := by decide +kernel
theorem dX3_restore_44 : decode cX3_restore 44 = .ok (.isub, 1) := by decide +kernel
theorem dX3_restore_45 : decode cX3_restore 45 = .ok (.putfield 30, 3) := by decide +kernel
theorem dX3_restore_48 : decode cX3_restore 48 = .ok (.aload_n 0, 1) := by decide +kernel
theorem dX3_restore_49 : decode cX3_restore 49 = .ok (.getfield 30, 3) := by decide +kernel
theorem dX3_restore_52 : decode cX3_restore 52 = .ok (.ireturn, 1) := by decide +kernel
theorem dX3_roomAt_0 : decode cX3_roomAt 0 = .ok (.iload_n 1, 1) := by decide +kernel
theorem dX3_roomAt_1 : decode cX3_roomAt 1 = .ok (.ifCond .lt 21, 3) := by decide +kernel
theorem dX3_roomAt_4 : decode cX3_roomAt 4 = .ok (.iload_n 1, 1) := by decide +kernel
theorem dX3_roomAt_5 : decode cX3_roomAt 5 = .ok (.aload_n 0, 1) := by decide +kernel
theorem dX3_roomAt_6 : decode cX3_roomAt 6 = .ok (.getfield 11, 3) := by decide +kernel
theorem dX3_roomAt_9 : decode cX3_roomAt 9 = .ok (.arraylength, 1) := by decide +kernel
theorem dX3_roomAt_10 : decode cX3_roomAt 10 = .ok (.if_icmp .ge 12, 3) := by decide +kernel
theorem dX3_roomAt_13 : decode cX3_roomAt 13 = .ok (.aload_n 0, 1) := by decide +kernel
theorem dX3_roomAt_14 : decode cX3_roomAt 14 = .ok (.getfield 11, 3) := by decide +kernel
theorem dX3_roomAt_17 : decode cX3_roomAt 17 = .ok (.iload_n 1, 1) := by decide +kernel
theorem dX3_roomAt_18 : decode cX3_roomAt 18 = .ok (.aaload, 1) := by decide +kernel
theorem dX3_roomAt_19 : decode cX3_roomAt 19 = .ok (.goto 4, 3) := by decide +kernel
theorem dX3_roomAt_22 : decode cX3_roomAt 22 = .ok (.aconst_null, 1) := by decide +kernel
theorem dX3_roomAt_23 : decode cX3_roomAt 23 = .ok (.areturn, 1) := by decide +kernel
theorem dX4_init_0 : decode cX4_init 0 = .ok (.aload_n 0, 1) := by decide +kernel
theorem dX4_init_1 : decode cX4_init 1 = .ok (.invokespecial 3, 3) := by decide +kernel
theorem dX4_init_4 : decode cX4_init 4 = .ok (.aload_n 0, 1) := by decide +kernel
theorem dX4_init_5 : decode cX4_init 5 = .ok (.bipush 8, 2) := by decide +kernel
theorem dX4_init_7 : decode cX4_init 7 = .ok (.putfield 9, 3) := by decide +kernel
theorem dX4_init_10 : decode cX4_init 10 = .ok (.aload_n 0, 1) := by decide +kernel
theorem dX4_init_11 : decode cX4_init 11 = .ok (.bipush 6, 2) := by decide +kernel
theorem dX4_init_13 : decode cX4_init 13 = .ok (.putfield 15, 3) := by decide +kernel
theorem dX4_init_16 : decode cX4_init 16 = .ok (.aload_n 0, 1) := by decide +kernel
theorem dX4_init_17 : decode cX4_init 17 = .ok (.iconst 3, 1) := by decide +kernel
theorem dX4_init_18 : decode cX4_init 18 = .ok (.putfield 18, 3) := by decide +kernel
theorem dX4_init_21 : decode cX4_init 21 = .ok (.aload_n 0, 1) := by decide +kernel
theorem dX4_init_22 : decode cX4_init 22 = .ok (.ldc 21, 2) := by decide +kernel
theorem dX4_init_24 : decode cX4_init 24 = .ok (.putfield 22, 3) := by decide +kernel
theorem dX4_init_27 : decode cX4_init 27 = .ok (.aload_n 0, 1) := by decide +kernel
theorem dX4_init_28 : decode cX4_init 28 = .ok (.new 25, 3) := by decide +kernel
theorem dX4_init_31 : decode cX4_init 31 = .ok (.dup, 1) := by decide +kernel
theorem dX4_init_32 : decode cX4_init 32 = .ok (.invokespecial 27, 3) := by decide +kernel
theorem dX4_init_35 : decode cX4_init 35 = .ok (.putfield 28, 3) := by decide +kernel
theorem dX4_init_38 : decode cX4_init 38 = .ok (.aload_n 0, 1) := by decide +kernel
theorem dX4_init_39 : decode cX4_init 39 = .ok (.new 25, 3) := by decide +kernel
theorem dX4_init_42 : decode cX4_init 42 = .ok (.dup, 1) := by decide +kernel
theorem dX4_init_43 : decode cX4_init 43 = .ok (.invokespecial 27, 3) := by decide +kernel
theorem dX4_init_46 : decode cX4_init 46 = .ok (.putfield 32, 3) := by decide +kernel
theorem dX4_init_49 : decode cX4_init 49 = .ok (.aload_n 0, 1) := by decide +kernel
theorem dX4_init_50 : decode cX4_init 50 = .ok (.new 25, 3) := by decide +kernel
theorem dX4_init_53 : decode cX4_init 53 = .ok (.dup, 1) := by decide +kernel
theorem dX4_init_54 : decode cX4_init 54 = .ok (.invokespecial 27, 3) := by decide +kernel
theorem dX4_init_57 : decode cX4_init 57 = .ok (.putfield 35, 3) := by decide +kernel
theorem dX4_init_60 : decode cX4_init 60 = .ok (.aload_n 0, 1) := by decide +kernel
theorem dX4_init_61 : decode cX4_init 61 = .ok (.new 25, 3) := by decide +kernel
theorem dX4_init_64 : decode cX4_init 64 = .ok (.dup, 1) := by decide +kernel
theorem dX4_init_65 : decode cX4_init 65 = .ok (.invokespecial 27, 3) := by decide +kernel
theorem dX4_init_68 : decode cX4_init 68 = .ok (.putfield 38, 3) := by decide +kernel
theorem dX4_init_71 : decode cX4_init 71 = .ok (.aload_n 0, 1) := by decide +kernel
theorem dX4_init_72 : decode cX4_init 72 = .ok (.new 41, 3) := by decide +kernel
theorem dX4_init_75 : decode cX4_init 75 = .ok (.dup, 1) := by decide +kernel
theorem dX4_init_76 : decode cX4_init 76 = .ok (.bipush 20, 2) := by decide +kernel
theorem dX4_init_78 : decode cX4_init 78 = .ok (.invokespecial 43, 3) := by decide +kernel
theorem dX4_init_81 : decode cX4_init 81 = .ok (.putfield 46, 3) := by decide +kernel
theorem dX4_init_84 : decode cX4_init 84 = .ok (.aload_n 0, 1) := by decide +kernel
theorem dX4_init_85 : decode cX4_init 85 = .ok (.new 50, 3) := by decide +kernel
theorem dX4_init_88 : decode cX4_init 88 = .ok (.dup, 1) := by decide +kernel
theorem dX4_init_89 : decode cX4_init 89 = .ok (.invokespecial 52, 3) := by decide +kernel
theorem dX4_init_92 : decode cX4_init 92 = .ok (.putfield 53, 3) := by decide +kernel
theorem dX4_init_95 : decode cX4_init 95 = .ok (.aload_n 0, 1) := by decide +kernel
theorem dX4_init_96 : decode cX4_init 96 = .ok (.getfield 46, 3) := by decide +kernel
theorem dX4_init_99 : decode cX4_init 99 = .ok (.iconst (-1), 1) := by decide +kernel
theorem dX4_init_100 : decode cX4_init 100 = .ok (.invokevirtual 57, 3) := by decide +kernel
theorem dX4_init_103 : decode cX4_init 103 = .ok (.return_, 1) := by decide +kernel
theorem dX4_copyFrom_0 : decode cX4_copyFrom 0 = .ok (.aload_n 0, 1) := by decide +kernel
theorem dX4_copyFrom_1 : decode cX4_copyFrom 1 = .ok (.aload_n 1, 1) := by decide +kernel
theorem dX4_copyFrom_2 : decode cX4_copyFrom 2 = .ok (.getfield 9, 3) := by decide +kernel
theorem dX4_copyFrom_5 : decode cX4_copyFrom 5 = .ok (.putfield 9, 3) := by decide +kernel
theorem dX4_copyFrom_8 : decode cX4_copyFrom 8 = .ok (.aload_n 0, 1) := by decide +kernel
theorem dX4_copyFrom_9 : decode cX4_copyFrom 9 = .ok (.aload_n 1, 1) := by decide +kernel
theorem dX4_copyFrom_10 : decode cX4_copyFrom 10 = .ok (.getfield 15, 3) := by decide +kernel
theorem dX4_copyFrom_13 : decode cX4_copyFrom 13 = .ok (.putfield 15, 3) := by decide +kernel
theorem dX4_copyFrom_16 : decode cX4_copyFrom 16 = .ok (.aload_n 0, 1) := by decide +kernel
theorem dX4_copyFrom_17 : decode cX4_copyFrom 17 = .ok (.aload_n 1, 1) := by decide +kernel
theorem dX4_copyFrom_18 : decode cX4_copyFrom 18 = .ok (.getfield 60, 3) := by decide +kernel
theorem dX4_copyFrom_21 : decode cX4_copyFrom 21 = .ok (.putfield 60, 3) := by decide +kernel
theorem dX4_copyFrom_24 : decode cX4_copyFrom 24 = .ok (.aload_n 0, 1) := by decide +kernel
theorem dX4_copyFrom_25 : decode cX4_copyFrom 25 = .ok (.aload_n 1, 1) := by decide +kernel
theorem dX4_copyFrom_26 : decode cX4_copyFrom 26 = .ok (.getfield 18, 3) := by decide +kernel
theorem dX4_copyFrom_29 : decode cX4_copyFrom 29 = .ok (.putfield 18, 3) := by decide +kernel
theorem dX4_copyFrom_32 : decode cX4_copyFrom 32 = .ok (.aload_n 0, 1) := by decide +kernel
theorem dX4_copyFrom_33 : decode cX4_copyFrom 33 = .ok (.aload_n 1, 1) := by decide +kernel
theorem dX4_copyFrom_34 : decode cX4_copyFrom 34 = .ok (.getfield 22, 3) := by decide +kernel
theorem dX4_copyFrom_37 : decode cX4_copyFrom 37 = .ok (.putfield 22, 3) := by decide +kernel
theorem dX4_copyFrom_40 : decode cX4_copyFrom 40 = .ok (.aload_n 0, 1) := by decide +kernel
theorem dX4_copyFrom_41 : decode cX4_copyFrom 41 = .ok (.getfield 28, 3) := by decide +kernel
theorem dX4_copyFrom_44 : decode cX4_copyFrom 44 = .ok (.aload_n 1, 1) := by decide +kernel
theorem dX4_copyFrom_45 : decode cX4_copyFrom 45 = .ok (.getfield 28, 3) := by decide +kernel
theorem dX4_copyFrom_48 : decode cX4_copyFrom 48 = .ok (.invokevirtual 63, 3) := by decide +kernel
theorem dX4_copyFrom_51 : decode cX4_copyFrom 51 = .ok (.aload_n 0, 1) := by decide +kernel
theorem dX4_copyFrom_52 : decode cX4_copyFrom 52 = .ok (.getfield 32, 3) := by decide +kernel
theorem dX4_copyFrom_55 : decode cX4_copyFrom 55 = .ok (.aload_n 1, 1) := by decide +kernel
theorem dX4_copyFrom_56 : decode cX4_copyFrom 56 = .ok (.getfield 32, 3) := by decide +kernel
theorem dX4_copyFrom_59 : decode cX4_copyFrom 59 = .ok (.invokevirtual 63, 3) := by decide +kernel
theorem dX4_copyFrom_62 : decode cX4_copyFrom 62 = .ok (.aload_n 0, 1) := by decide +kernel
theorem dX4_copyFrom_63 : decode cX4_copyFrom 63 = .ok (.getfield 35, 3) := by decide +kernel
theorem dX4_copyFrom_66 : decode cX4_copyFrom 66 = .ok (.aload_n 1, 1) := by decide +kernel
theorem dX4_copyFrom_67 : decode cX4_copyFrom 67 = .ok (.getfield 35, 3) := by decide +kernel
theorem dX4_copyFrom_70 : decode cX4_copyFrom 70 = .ok (.invokevirtual 63, 3) := by decide +kernel
theorem dX4_copyFrom_73 : decode cX4_copyFrom 73 = .ok (.aload_n 0, 1) := by decide +kernel
theorem dX4_copyFrom_74 : decode cX4_copyFrom 74 = .ok (.getfield 38, 3) := by decide +kernel
theorem dX4_copyFrom_77 : decode cX4_copyFrom 77 = .ok (.aload_n 1, 1) := by decide +kernel
theorem dX4_copyFrom_78 : decode cX4_copyFrom 78 = .ok (.getfield 38, 3) := by decide +kernel
theorem dX4_copyFrom_81 : decode cX4_copyFrom 81 = .ok (.invokevirtual 63, 3) := by decide +kernel
theorem dX4_copyFrom_84 : decode cX4_copyFrom 84 = .ok (.aload_n 0, 1) := by decide +kernel
theorem dX4_copyFrom_85 : decode cX4_copyFrom 85 = .ok (.getfield 46, 3) := by decide +kernel
theorem dX4_copyFrom_88 : decode cX4_copyFrom 88 = .ok (.aload_n 1, 1) := by decide +kernel
theorem dX4_copyFrom_89 : decode cX4_copyFrom 89 = .ok (.getfield 46, 3) := by decide +kernel
theorem dX4_copyFrom_92 : decode cX4_copyFrom 92 = .ok (.invokevirtual 67, 3) := by decide +kernel
theorem dX4_copyFrom_95 : decode cX4_copyFrom 95 = .ok (.aload_n 0, 1) := by decide +kernel
theorem dX4_copyFrom_96 : decode cX4_copyFrom 96 = .ok (.getfield 53, 3) := by decide +kernel
theorem dX4_copyFrom_99 : decode cX4_copyFrom 99 = .ok (.aload_n 1, 1) := by decide +kernel
theorem dX4_copyFrom_100 : decode cX4_copyFrom 100 = .ok (.getfield 53, 3) := by decide +kernel
theorem dX4_copyFrom_103 : decode cX4_copyFrom 103 = .ok (.invokevirtual 70, 3) := by decide +kernel
theorem dX4_copyFrom_106 : decode cX4_copyFrom 106 = .ok (.return_, 1) := by decide +kernel
theorem dX4_whyNotBegin_0 : decode cX4_whyNotBegin 0 = .ok (.iconst 1, 1) := by decide +kernel
theorem dX4_whyNotBegin_1 : decode cX4_whyNotBegin 1 = .ok (.iload_n 1, 1) := by decide +kernel
theorem dX4_whyNotBegin_2 : decode cX4_whyNotBegin 2 = .ok (.bipush 20, 2) := by decide +kernel
theorem dX4_whyNotBegin_4 : decode cX4_whyNotBegin 4 = .ok (.invokestatic 73, 3) := by decide +kernel
theorem dX4_whyNotBegin_7 : decode cX4_whyNotBegin 7 = .ok (.ifCond .eq 17, 3) := by decide +kernel
theorem dX4_whyNotBegin_10 : decode cX4_whyNotBegin 10 = .ok (.iconst 1, 1) := by decide +kernel
theorem dX4_whyNotBegin_11 : decode cX4_whyNotBegin 11 = .ok (.iload_n 2, 1) := by decide +kernel
theorem dX4_whyNotBegin_12 : decode cX4_whyNotBegin 12 = .ok (.bipush 16, 2) := by decide +kernel
theorem dX4_whyNotBegin_14 : decode cX4_whyNotBegin 14 = .ok (.invokestatic 73, 3) := by decide +kernel
theorem dX4_whyNotBegin_17 : decode cX4_whyNotBegin 17 = .ok (.ifCond .eq 7, 3) := by decide +kernel
theorem dX4_whyNotBegin_20 : decode cX4_whyNotBegin 20 = .ok (.iconst 0, 1) := by decide +kernel
theorem dX4_whyNotBegin_21 : decode cX4_whyNotBegin 21 = .ok (.goto 4, 3) := by decide +kernel
theorem dX4_whyNotBegin_24 : decode cX4_whyNotBegin 24 = .ok (.iconst 2, 1) := by decide +kernel
theorem dX4_whyNotBegin_25 : decode cX4_whyNotBegin 25 = .ok (.ireturn, 1) := by decide +kernel
theorem dX4_whyNotFill_0 : decode cX4_whyNotFill 0 = .ok (.aload_n 0, 1) := by decide +kernel
theorem dX4_whyNotFill_1 : decode cX4_whyNotFill 1 = .ok (.iload_n 1, 1) := by decide +kernel
theorem dX4_whyNotFill_2 : decode cX4_whyNotFill 2 = .ok (.iload_n 2, 1) := by decide +kernel
theorem dX4_whyNotFill_3 : decode cX4_whyNotFill 3 = .ok (.invokevirtual 77, 3) := by decide +kernel
theorem dX4_whyNotFill_6 : decode cX4_whyNotFill 6 = .ok (.ifCond .eq 13, 3) := by decide +kernel
theorem dX4_whyNotFill_9 : decode cX4_whyNotFill 9 = .ok (.aload_n 0, 1) := by decide +kernel
theorem dX4_whyNotFill_10 : decode cX4_whyNotFill 10 = .ok (.iload_n 3, 1) := by decide +kernel
theorem dX4_whyNotFill_11 : decode cX4_whyNotFill 11 = .ok (.iload 4, 2) := by decide +kernel
theorem dX4_whyNotFill_13 : decode cX4_whyNotFill 13 = .ok (.invokevirtual 77, 3) := by decide +kernel
theorem dX4_whyNotFill_16 : decode cX4_whyNotFill 16 = .ok (.ifCond .ne 5, 3) := by decide +kernel
theorem dX4_whyNotFill_19 : decode cX4_whyNotFill 19 = .ok (.iconst 1, 1) := by decide +kernel
theorem dX4_whyNotFill_20 : decode cX4_whyNotFill 20 = .ok (.ireturn, 1) := by decide +kernel
theorem dX4_whyNotFill_21 : decode cX4_whyNotFill 21 = .ok (.iload_n 3, 1) := by decide +kernel
theorem dX4_whyNotFill_22 : decode cX4_whyNotFill 22 = .ok (.iload_n 1, 1) := by decide +kernel
theorem dX4_whyNotFill_23 : decode cX4_whyNotFill 23 = .ok (.if_icmp .lt 21, 3) := by decide +kernel
theorem dX4_whyNotFill_26 : decode cX4_whyNotFill 26 = .ok (.iload 4, 2) := by decide +kernel
theorem dX4_whyNotFill_28 : decode cX4_whyNotFill 28 = .ok (.iload_n 2, 1) := by decide +kernel
theorem dX4_whyNotFill_29 : decode cX4_whyNotFill 29 = .ok (.if_icmp .lt 15, 3) := by decide +kernel
theorem dX4_whyNotFill_32 : decode cX4_whyNotFill 32 = .ok (.iload 5, 2) := by decide +kernel
theorem dX4_whyNotFill_34 : decode cX4_whyNotFill 34 = .ok (.invokestatic 81, 3) := by decide +kernel
theorem dX4_whyNotFill_37 : decode cX4_whyNotFill 37 = .ok (.ifCond .eq 7, 3) := by decide +kernel
theorem dX4_whyNotFill_40 : decode cX4_whyNotFill 40 = .ok (.iconst 0, 1) := by decide +kernel
theorem dX4_whyNotFill_41 : decode cX4_whyNotFill 41 = .ok (.goto 4, 3) := by decide +kernel
theorem dX4_whyNotFill_44 : decode cX4_whyNotFill 44 = .ok (.iconst 2, 1) := by decide +kernel
theorem dX4_whyNotFill_45 : decode cX4_whyNotFill 45 = .ok (.ireturn, 1) := by decide +kernel
theorem dX4_whyNotAddLot_0 : decode cX4_whyNotAddLot 0 = .ok (.iload_n 1, 1) := by decide +kernel
theorem dX4_whyNotAddLot_1 : decode cX4_whyNotAddLot 1 = .ok (.invokestatic 81, 3) := by decide +kernel
theorem dX4_whyNotAddLot_4 : decode cX4_whyNotAddLot 4 = .ok (.ifCond .eq 21, 3) := by decide +kernel
theorem dX4_whyNotAddLot_7 : decode cX4_whyNotAddLot 7 = .ok (.iconst 1, 1) := by decide +kernel
theorem dX4_whyNotAddLot_8 : decode cX4_whyNotAddLot 8 = .ok (.iload_n 2, 1) := by decide +kernel
theorem dX4_whyNotAddLot_9 : decode cX4_whyNotAddLot 9 = .ok (.sipush 999, 3) := by decide +kernel
theorem dX4_whyNotAddLot_12 : decode cX4_whyNotAddLot 12 = .ok (.invokestatic 73, 3) := by decide +kernel
theorem dX4_whyNotAddLot_15 : decode cX4_whyNotAddLot 15 = .ok (.ifCond .eq 10, 3) := by decide +kernel
theorem dX4_whyNotAddLot_18 : decode cX4_whyNotAddLot 18 = .ok (.iload_n 3, 1) := by decide +kernel
theorem dX4_whyNotAddLot_19 : decode cX4_whyNotAddLot 19 = .ok (.invokestatic 85, 3) := by decide +kernel
theorem dX4_whyNotAddLot_22 : decode cX4_whyNotAddLot 22 = .ok (.ifCond .ne 5, 3) := by decide +kernel
theorem dX4_whyNotAddLot_25 : decode cX4_whyNotAddLot 25 = .ok (.iconst 2, 1) := by decide +kernel
theorem dX4_whyNotAddLot_26 : decode cX4_whyNotAddLot 26 = .ok (.ireturn, 1) := by decide +kernel
theorem dX4_whyNotAddLot_27 : decode cX4_whyNotAddLot 27 = .ok (.aload_n 0, 1) := by decide +kernel
theorem dX4_whyNotAddLot_28 : decode cX4_whyNotAddLot 28 = .ok (.getfield 53, 3) := by decide +kernel
theorem dX4_whyNotAddLot_31 : decode cX4_whyNotAddLot 31 = .ok (.getfield 90, 3) := by decide +kernel
theorem dX4_whyNotAddLot_34 : decode cX4_whyNotAddLot 34 = .ok (.bipush 16, 2) := by decide +kernel
theorem dX4_whyNotAddLot_36 : decode cX4_whyNotAddLot 36 = .ok (.if_icmp .ge 7, 3) := by decide +kernel
theorem dX4_whyNotAddLot_39 : decode cX4_whyNotAddLot 39 = .ok (.iconst 0, 1) := by decide +kernel
theorem dX4_whyNotAddLot_40 : decode cX4_whyNotAddLot 40 = .ok (.goto 4, 3) := by decide +kernel
theorem dX4_whyNotAddLot_43 : decode cX4_whyNotAddLot 43 = .ok (.iconst 3, 1) := by decide +kernel
theorem dX4_whyNotAddLot_44 : decode cX4_whyNotAddLot 44 = .ok (.ireturn, 1) := by decide +kernel
theorem dX4_whyNotLimit_0 : decode cX4_whyNotLimit 0 = .ok (.iconst 1, 1) := by decide +kernel
theorem dX4_whyNotLimit_1 : decode cX4_whyNotLimit 1 = .ok (.iload_n 1, 1) := by decide +kernel
theorem dX4_whyNotLimit_2 : decode cX4_whyNotLimit 2 = .ok (.bipush 16, 2) := by decide +kernel
theorem dX4_whyNotLimit_4 : decode cX4_whyNotLimit 4 = .ok (.invokestatic 73, 3) := by decide +kernel
theorem dX4_whyNotLimit_7 : decode cX4_whyNotLimit 7 = .ok (.ifCond .eq 7, 3) := by decide +kernel
theorem dX4_whyNotLimit_10 : decode cX4_whyNotLimit 10 = .ok (.iconst 0, 1) := by decide +kernel
theorem dX4_whyNotLimit_11 : decode cX4_whyNotLimit 11 = .ok (.goto 4, 3) := by decide +kernel
theorem dX4_whyNotLimit_14 : decode cX4_whyNotLimit 14 = .ok (.iconst 2, 1) := by decide +kernel
theorem dX4_whyNotLimit_15 : decode cX4_whyNotLimit 15 = .ok (.ireturn, 1) := by decide +kernel
theorem dX4_whyNotPlant_0 : decode cX4_whyNotPlant 0 = .ok (.iconst 0, 1) := by decide +kernel
theorem dX4_whyNotPlant_1 : decode cX4_whyNotPlant 1 = .ok (.iload_n 1, 1) := by decide +kernel
theorem dX4_whyNotPlant_2 : decode cX4_whyNotPlant 2 = .ok (.aload_n 0, 1) := by decide +kernel
theorem dX4_whyNotPlant_3 : decode cX4_whyNotPlant 3 = .ok (.getfield 9, 3) := by decide +kernel
theorem dX4_whyNotPlant_6 : decode cX4_whyNotPlant 6 = .ok (.iconst 1, 1) := by decide +kernel
theorem dX4_whyNotPlant_7 : decode cX4_whyNotPlant 7 = .ok (.isub, 1) := by decide +kernel
theorem dX4_whyNotPlant_8 : decode cX4_whyNotPlant 8 = .ok (.invokestatic 73, 3) := by decide +kernel
theorem dX4_whyNotPlant_11 : decode cX4_whyNotPlant 11 = .ok (.ifCond .ne 5, 3) := by decide +kernel
theorem dX4_whyNotPlant_14 : decode cX4_whyNotPlant 14 = .ok (.iconst 1, 1) := by decide +kernel
theorem dX4_whyNotPlant_15 : decode cX4_whyNotPlant 15 = .ok (.ireturn, 1) := by decide +kernel
theorem dX4_whyNotPlant_16 : decode cX4_whyNotPlant 16 = .ok (.iload_n 2, 1) := by decide +kernel
theorem dX4_whyNotPlant_17 : decode cX4_whyNotPlant 17 = .ok (.invokestatic 81, 3) := by decide +kernel
theorem dX4_whyNotPlant_20 : decode cX4_whyNotPlant 20 = .ok (.ifCond .eq 7, 3) := by decide +kernel
theorem dX4_whyNotPlant_23 : decode cX4_whyNotPlant 23 = .ok (.iconst 0, 1) := by decide +kernel
theorem dX4_whyNotPlant_24 : decode cX4_whyNotPlant 24 = .ok (.goto 4, 3) := by decide +kernel
theorem dX4_whyNotPlant_27 : decode cX4_whyNotPlant 27 = .ok (.iconst 2, 1) := by decide +kernel
theorem dX4_whyNotPlant_28 : decode cX4_whyNotPlant 28 = .ok (.ireturn, 1) := by decide +kernel
theorem dX4_whyNotWeave_0 : decode cX4_whyNotWeave 0 = .ok (.iconst 1, 1) := by decide +kernel
theorem dX4_whyNotWeave_1 : decode cX4_whyNotWeave 1 = .ok (.iload_n 1, 1) := by decide +kernel
theorem dX4_whyNotWeave_2 : decode cX4_whyNotWeave 2 = .ok (.bipush 16, 2) := by decide +kernel
theorem dX4_whyNotWeave_4 : decode cX4_whyNotWeave 4 = .ok (.invokestatic 73, 3) := by decide +kernel
theorem dX4_whyNotWeave_7 : decode cX4_whyNotWeave 7 = .ok (.ifCond .eq 7, 3) := by decide +kernel
theorem dX4_whyNotWeave_10 : decode cX4_whyNotWeave 10 = .ok (.iconst 0, 1) := by decide +kernel
theorem dX4_whyNotWeave_11 : decode cX4_whyNotWeave 11 = .ok (.goto 4, 3) := by decide +kernel
theorem dX4_whyNotWeave_14 : decode cX4_whyNotWeave 14 = .ok (.iconst 2, 1) := by decide +kernel
theorem dX4_whyNotWeave_15 : decode cX4_whyNotWeave 15 = .ok (.ireturn, 1) := by decide +kernel
theorem dX4_whyNotUnweave_0 : decode cX4_whyNotUnweave 0 = .ok (.iconst 1, 1) := by decide +kernel
theorem dX4_whyNotUnweave_1 : decode cX4_whyNotUnweave 1 = .ok (.iload_n 1, 1) := by decide +kernel
theorem dX4_whyNotUnweave_2 : decode cX4_whyNotUnweave 2 = .ok (.bipush 16, 2) := by decide +kernel
theorem dX4_whyNotUnweave_4 : decode cX4_whyNotUnweave 4 = .ok (.invokestatic 73, 3) := by decide +kernel
theorem dX4_whyNotUnweave_7 : decode cX4_whyNotUnweave 7 = .ok (.ifCond .ne 5, 3) := by decide +kernel
theorem dX4_whyNotUnweave_10 : decode cX4_whyNotUnweave 10 = .ok (.iconst 2, 1) := by decide +kernel
theorem dX4_whyNotUnweave_11 : decode cX4_whyNotUnweave 11 = .ok (.ireturn, 1) := by decide +kernel
theorem dX4_whyNotUnweave_12 : decode cX4_whyNotUnweave 12 = .ok (.iload_n 1, 1) := by decide +kernel
theorem dX4_whyNotUnweave_13 : decode cX4_whyNotUnweave 13 = .ok (.aload_n 0, 1) := by decide +kernel
theorem dX4_whyNotUnweave_14 : decode cX4_whyNotUnweave 14 = .ok (.getfield 60, 3) := by decide +kernel
theorem dX4_whyNotUnweave_17 : decode cX4_whyNotUnweave 17 = .ok (.if_icmp .gt 7, 3) := by decide +kernel
theorem dX4_whyNotUnweave_20 : decode cX4_whyNotUnweave 20 = .ok (.iconst 0, 1) := by decide +kernel
theorem dX4_whyNotUnweave_21 : decode cX4_whyNotUnweave 21 = .ok (.goto 4, 3) := by decide +kernel
theorem dX4_whyNotUnweave_24 : decode cX4_whyNotUnweave 24 = .ok (.iconst 3, 1) := by decide +kernel
theorem dX4_whyNotUnweave_25 : decode cX4_whyNotUnweave 25 = .ok (.ireturn, 1) := by decide +kernel
theorem dX4_whyNotSew_0 : decode cX4_whyNotSew 0 = .ok (.aload_n 0, 1) := by decide +kernel
theorem dX4_whyNotSew_1 : decode cX4_whyNotSew 1 = .ok (.iload_n 1, 1) := by decide +kernel
theorem dX4_whyNotSew_2 : decode cX4_whyNotSew 2 = .ok (.invokevirtual 93, 3) := by decide +kernel
theorem dX4_whyNotSew_5 : decode cX4_whyNotSew 5 = .ok (.istore_n 2, 1) := by decide +kernel
theorem dX4_whyNotSew_6 : decode cX4_whyNotSew 6 = .ok (.iload_n 2, 1) := by decide +kernel
theorem dX4_whyNotSew_7 : decode cX4_whyNotSew 7 = .ok (.iconst (-1), 1) := by decide +kernel
theorem dX4_whyNotSew_8 : decode cX4_whyNotSew 8 = .ok (.if_icmp .ne 5, 3) := by decide +kernel
theorem dX4_whyNotSew_11 : decode cX4_whyNotSew 11 = .ok (.iconst 1, 1) := by decide +kernel
theorem dX4_whyNotSew_12 : decode cX4_whyNotSew 12 = .ok (.ireturn, 1) := by decide +kernel
theorem dX4_whyNotSew_13 : decode cX4_whyNotSew 13 = .ok (.aload_n 0, 1) := by decide +kernel
theorem dX4_whyNotSew_14 : decode cX4_whyNotSew 14 = .ok (.iload_n 2, 1) := by decide +kernel
theorem dX4_whyNotSew_15 : decode cX4_whyNotSew 15 = .ok (.bipush 16, 2) := by decide +kernel
theorem dX4_whyNotSew_17 : decode cX4_whyNotSew 17 = .ok (.idiv, 1) := by decide +kernel
theorem dX4_whyNotSew_18 : decode cX4_whyNotSew 18 = .ok (.iload_n 2, 1) := by decide +kernel
theorem dX4_whyNotSew_19 : decode cX4_whyNotSew 19 = .ok (.bipush 16, 2) := by decide +kernel
theorem dX4_whyNotSew_21 : decode cX4_whyNotSew 21 = .ok (.irem, 1) := by decide +kernel
theorem dX4_whyNotSew_22 : decode cX4_whyNotSew 22 = .ok (.invokevirtual 97, 3) := by decide +kernel
theorem dX4_whyNotSew_25 : decode cX4_whyNotSew 25 = .ok (.ifCond .eq 7, 3) := by decide +kernel
theorem dX4_whyNotSew_28 : decode cX4_whyNotSew 28 = .ok (.iconst 3, 1) := by decide +kernel
theorem dX4_whyNotSew_29 : decode cX4_whyNotSew 29 = .ok (.goto 4, 3) := by decide +kernel
theorem dX4_whyNotSew_32 : decode cX4_whyNotSew 32 = .ok (.iconst 0, 1) := by decide +kernel
theorem dX4_whyNotSew_33 : decode cX4_whyNotSew 33 = .ok (.ireturn, 1) := by decide +kernel
theorem dX4_takeCartoon_0 : decode cX4_takeCartoon 0 = .ok (.aload_n 0, 1) := by decide +kernel
theorem dX4_takeCartoon_1 : decode cX4_takeCartoon 1 = .ok (.getfield 60, 3) := by decide +kernel
theorem dX4_takeCartoon_4 : decode cX4_takeCartoon 4 = .ok (.istore_n 3, 1) := by decide +kernel
theorem dX4_takeCartoon_5 : decode cX4_takeCartoon 5 = .ok (.aload_n 0, 1) := by decide +kernel
theorem dX4_takeCartoon_6 : decode cX4_takeCartoon 6 = .ok (.iload_n 1, 1) := by decide +kernel
theorem dX4_takeCartoon_7 : decode cX4_takeCartoon 7 = .ok (.putfield 9, 3) := by decide +kernel
theorem dX4_takeCartoon_10 : decode cX4_takeCartoon 10 = .ok (.aload_n 0, 1) := by decide +kernel
theorem dX4_takeCartoon_11 : decode cX4_takeCartoon 11 = .ok (.iload_n 2, 1) := by decide +kernel
theorem dX4_takeCartoon_12 : decode cX4_takeCartoon 12 = .ok (.putfield 15, 3) := by decide +kernel
theorem dX4_takeCartoon_15 : decode cX4_takeCartoon 15 = .ok (.aload_n 0, 1) := by decide +kernel
theorem dX4_takeCartoon_16 : decode cX4_takeCartoon 16 = .ok (.iconst 0, 1) := by decide +kernel
theorem dX4_takeCartoon_17 : decode cX4_takeCartoon 17 = .ok (.putfield 60, 3) := by decide +kernel
theorem dX4_takeCartoon_20 : decode cX4_takeCartoon 20 = .ok (.aload_n 0, 1) := by decide +kernel
theorem dX4_takeCartoon_21 : decode cX4_takeCartoon 21 = .ok (.getfield 28, 3) := by decide +kernel
theorem dX4_takeCartoon_24 : decode cX4_takeCartoon 24 = .ok (.iconst 0, 1) := by decide +kernel
theorem dX4_takeCartoon_25 : decode cX4_takeCartoon 25 = .ok (.invokevirtual 100, 3) := by decide +kernel
theorem dX4_takeCartoon_28 : decode cX4_takeCartoon 28 = .ok (.aload_n 0, 1) := by decide +kernel
theorem dX4_takeCartoon_29 : decode cX4_takeCartoon 29 = .ok (.getfield 38, 3) := by decide +kernel
theorem dX4_takeCartoon_32 : decode cX4_takeCartoon 32 = .ok (.iconst 0, 1) := by decide +kernel
theorem dX4_takeCartoon_33 : decode cX4_takeCartoon 33 = .ok (.invokevirtual 100, 3) := by decide +kernel
theorem dX4_takeCartoon_36 : decode cX4_takeCartoon 36 = .ok (.aload_n 0, 1) := by decide +kernel
theorem dX4_takeCartoon_37 : decode cX4_takeCartoon 37 = .ok (.getfield 46, 3) := by decide +kernel
theorem dX4_takeCartoon_40 : decode cX4_takeCartoon 40 = .ok (.iconst (-1), 1) := by decide +kernel
theorem dX4_takeCartoon_41 : decode cX4_takeCartoon 41 = .ok (.invokevirtual 57, 3) := by decide +kernel
theorem dX4_takeCartoon_44 : decode cX4_takeCartoon 44 = .ok (.iload_n 3, 1) := by decide +kernel
theorem dX4_takeCartoon_45 : decode cX4_takeCartoon 45 = .ok (.ireturn, 1) := by decide +kernel
theorem dX4_paint_0 : decode cX4_paint 0 = .ok (.iconst 0, 1) := by decide +kernel
theorem dX4_paint_1 : decode cX4_paint 1 = .ok (.istore 6, 2) := by decide +kernel
theorem dX4_paint_3 : decode cX4_paint 3 = .ok (.iload_n 2, 1) := by decide +kernel
theorem dX4_paint_4 : decode cX4_paint 4 = .ok (.istore 7, 2) := by decide +kernel
theorem dX4_paint_6 : decode cX4_paint 6 = .ok (.iload 7, 2) := by decide +kernel
theorem dX4_paint_8 : decode cX4_paint 8 = .ok (.iload 4, 2) := by decide +kernel
theorem dX4_paint_10 : decode cX4_paint 10 = .ok (.if_icmp .gt 89, 3) := by decide +kernel
theorem dX4_paint_13 : decode cX4_paint 13 = .ok (.iload 7, 2) := by decide +kernel
theorem dX4_paint_15 : decode cX4_paint 15 = .ok (.aload_n 0, 1) := by decide +kernel
theorem dX4_paint_16 : decode cX4_paint 16 = .ok (.getfield 15, 3) := by decide +kernel
theorem dX4_paint_19 : decode cX4_paint 19 = .ok (.if_icmp .ge 80, 3) := by decide +kernel
theorem dX4_paint_22 : decode cX4_paint 22 = .ok (.iload_n 1, 1) := by decide +kernel
theorem dX4_paint_23 : decode cX4_paint 23 = .ok (.istore 8, 2) := by decide +kernel
theorem dX4_paint_25 : decode cX4_paint 25 = .ok (.iload 8, 2) := by decide +kernel
theorem dX4_paint_27 : decode cX4_paint 27 = .ok (.iload_n 3, 1) := by decide +kernel
theorem dX4_paint_28 : decode cX4_paint 28 = .ok (.if_icmp .gt 65, 3) := by decide +kernel
theorem dX4_paint_31 : decode cX4_paint 31 = .ok (.iload 8, 2) := by decide +kernel
theorem dX4_paint_33 : decode cX4_paint 33 = .ok (.aload_n 0, 1) := by decide +kernel
theorem dX4_paint_34 : decode cX4_paint 34 = .ok (.getfield 9, 3) := by decide +kernel
theorem dX4_paint_37 : decode cX4_paint 37 = .ok (.if_icmp .ge 56, 3) := by decide +kernel
theorem dX4_paint_40 : decode cX4_paint 40 = .ok (.iload 6, 2) := by decide +kernel
theorem dX4_paint_42 : decode cX4_paint 42 = .ok (.aload_n 0, 1) := by decide +kernel
theorem dX4_paint_43 : decode cX4_paint 43 = .ok (.getfield 28, 3) := by decide +kernel
theorem dX4_paint_46 : decode cX4_paint 46 = .ok (.aload_n 0, 1) := by decide +kernel
theorem dX4_paint_47 : decode cX4_paint 47 = .ok (.iload 8, 2) := by decide +kernel
theorem dX4_paint_49 : decode cX4_paint 49 = .ok (.invokevirtual 101, 3) := by decide +kernel
theorem dX4_paint_52 : decode cX4_paint 52 = .ok (.iload 7, 2) := by decide +kernel
theorem dX4_paint_54 : decode cX4_paint 54 = .ok (.invokevirtual 104, 3) := by decide +kernel
theorem dX4_paint_57 : decode cX4_paint 57 = .ok (.iload 5, 2) := by decide +kernel
theorem dX4_paint_59 : decode cX4_paint 59 = .ok (.if_icmp .eq 7, 3) := by decide +kernel
theorem dX4_paint_62 : decode cX4_paint 62 = .ok (.iconst 1, 1) := by decide +kernel
theorem dX4_paint_63 : decode cX4_paint 63 = .ok (.goto 4, 3) := by decide +kernel
theorem dX4_paint_66 : decode cX4_paint 66 = .ok (.iconst 0, 1) := by decide +kernel
theorem dX4_paint_67 : decode cX4_paint 67 = .ok (.iadd, 1) := by decide +kernel
theorem dX4_paint_68 : decode cX4_paint 68 = .ok (.istore 6, 2) := by decide +kernel
theorem dX4_paint_70 : decode cX4_paint 70 = .ok (.aload_n 0, 1) := by decide +kernel
theorem dX4_paint_71 : decode cX4_paint 71 = .ok (.getfield 28, 3) := by decide +kernel
theorem dX4_paint_74 : decode cX4_paint 74 = .ok (.aload_n 0, 1) := by decide +kernel
theorem dX4_paint_75 : decode cX4_paint 75 = .ok (.iload 8, 2) := by decide +kernel
theorem dX4_paint_77 : decode cX4_paint 77 = .ok (.invokevirtual 101, 3) := by decide +kernel
theorem dX4_paint_80 : decode cX4_paint 80 = .ok (.iload 7, 2) := by decide +kernel
theorem dX4_paint_82 : decode cX4_paint 82 = .ok (.iload 5, 2) := by decide +kernel
theorem dX4_paint_84 : decode cX4_paint 84 = .ok (.invokevirtual 108, 3) := by decide +kernel
theorem dX4_paint_87 : decode cX4_paint 87 = .ok (.iinc 8 1, 3) := by decide +kernel
theorem dX4_paint_90 : decode cX4_paint 90 = .ok (.goto (-65), 3) := by decide +kernel
theorem dX4_paint_93 : decode cX4_paint 93 = .ok (.iinc 7 1, 3) := by decide +kernel
theorem dX4_paint_96 : decode cX4_paint 96 = .ok (.goto (-90), 3) := by decide +kernel
theorem dX4_paint_99 : decode cX4_paint 99 = .ok (.iload 6, 2) := by decide +kernel
theorem dX4_paint_101 : decode cX4_paint 101 = .ok (.ireturn, 1) := by decide +kernel
theorem dX4_changeTolerance_0 : decode cX4_changeTolerance 0 = .ok (.aload_n 0, 1) := by decide +kernel
theorem dX4_changeTolerance_1 : decode cX4_changeTolerance 1 = .ok (.getfield 22, 3) := by decide +kernel
theorem dX4_changeTolerance_4 : decode cX4_changeTolerance 4 = .ok (.istore_n 2, 1) := by decide +kernel
theorem dX4_changeTolerance_5 : decode cX4_changeTolerance 5 = .ok (.aload_n 0, 1) := by decide +kernel
theorem dX4_changeTolerance_6 : decode cX4_changeTolerance 6 = .ok (.iload_n 1, 1) := by decide +kernel
theorem dX4_changeTolerance_7 : decode cX4_changeTolerance 7 = .ok (.putfield 22, 3) := by decide +kernel
theorem dX4_changeTolerance_10 : decode cX4_changeTolerance 10 = .ok (.iload_n 2, 1) := by decide +kernel
theorem dX4_changeTolerance_11 : decode cX4_changeTolerance 11 = .ok (.ireturn, 1) := by decide +kernel
theorem dX4_changeLimit_0 : decode cX4_changeLimit 0 = .ok (.aload_n 0, 1) := by decide +kernel
theorem dX4_changeLimit_1 : decode cX4_changeLimit 1 = .ok (.getfield 18, 3) := by decide +kernel
theorem dX4_changeLimit_4 : decode cX4_changeLimit 4 = .ok (.istore_n 2, 1) := by decide +kernel
theorem dX4_changeLimit_5 : decode cX4_changeLimit 5 = .ok (.aload_n 0, 1) := by decide +kernel
theorem dX4_changeLimit_6 : decode cX4_changeLimit 6 = .ok (.iload_n 1, 1) := by decide +kernel
theorem dX4_changeLimit_7 : decode cX4_changeLimit 7 = .ok (.putfield 18, 3) := by decide +kernel
theorem dX4_changeLimit_10 : decode cX4_changeLimit 10 = .ok (.aload_n 0, 1) := by decide +kernel
theorem dX4_changeLimit_11 : decode cX4_changeLimit 11 = .ok (.invokevirtual 112, 3) := by decide +kernel
theorem dX4_changeLimit_14 : decode cX4_changeLimit 14 = .ok (.iload_n 2, 1) := by decide +kernel
theorem dX4_changeLimit_15 : decode cX4_changeLimit 15 = .ok (.ireturn, 1) := by decide +kernel
theorem dX4_plantMistake_0 : decode cX4_plantMistake 0 = .ok (.aload_n 0, 1) := by decide +kernel
theorem dX4_plantMistake_1 : decode cX4_plantMistake 1 = .ok (.getfield 46, 3) := by decide +kernel
theorem dX4_plantMistake_4 : decode cX4_plantMistake 4 = .ok (.iload_n 1, 1) := by decide +kernel
theorem dX4_plantMistake_5 : decode cX4_plantMistake 5 = .ok (.iload_n 2, 1) := by decide +kernel
theorem dX4_plantMistake_6 : decode cX4_plantMistake 6 = .ok (.invokevirtual 115, 3) := by decide +kernel
theorem dX4_plantMistake_9 : decode cX4_plantMistake 9 = .ok (.aload_n 0, 1) := by decide +kernel
theorem dX4_plantMistake_10 : decode cX4_plantMistake 10 = .ok (.getfield 46, 3) := by decide +kernel
theorem dX4_plantMistake_13 : decode cX4_plantMistake 13 = .ok (.iconst (-1), 1) := by decide +kernel
theorem dX4_plantMistake_14 : decode cX4_plantMistake 14 = .ok (.invokevirtual 118, 3) := by decide +kernel
theorem dX4_plantMistake_17 : decode cX4_plantMistake 17 = .ok (.ireturn, 1) := by decide +kernel
theorem dX4_weaveRows_0 : decode cX4_weaveRows 0 = .ok (.iconst 0, 1) := by decide +kernel
theorem dX4_weaveRows_1 : decode cX4_weaveRows 1 = .ok (.istore_n 2, 1) := by decide +kernel
theorem dX4_weaveRows_2 : decode cX4_weaveRows 2 = .ok (.iload_n 2, 1) := by decide +kernel
theorem dX4_weaveRows_3 : decode cX4_weaveRows 3 = .ok (.iload_n 1, 1) := by decide +kernel
theorem dX4_weaveRows_4 : decode cX4_weaveRows 4 = .ok (.if_icmp .ge 16, 3) := by decide +kernel
theorem dX4_weaveRows_7 : decode cX4_weaveRows 7 = .ok (.aload_n 0, 1) := by decide +kernel
theorem dX4_weaveRows_8 : decode cX4_weaveRows 8 = .ok (.invokevirtual 121, 3) := by decide +kernel
theorem dX4_weaveRows_11 : decode cX4_weaveRows 11 = .ok (.ifCond .eq 9, 3) := by decide +kernel
theorem dX4_weaveRows_14 : decode cX4_weaveRows 14 = .ok (.iinc 2 1, 3) := by decide +kernel
theorem dX4_weaveRows_17 : decode cX4_weaveRows 17 = .ok (.goto (-15), 3) := by decide +kernel
theorem dX4_weaveRows_20 : decode cX4_weaveRows 20 = .ok (.iload_n 2, 1) := by decide +kernel
theorem dX4_weaveRows_21 : decode cX4_weaveRows 21 = .ok (.ireturn, 1) := by decide +kernel
theorem dX4_weaveNext_0 : decode cX4_weaveNext 0 = .ok (.aload_n 0, 1) := by decide +kernel
theorem dX4_weaveNext_1 : decode cX4_weaveNext 1 = .ok (.getfield 60, 3) := by decide +kernel
theorem dX4_weaveNext_4 : decode cX4_weaveNext 4 = .ok (.istore_n 1, 1) := by decide +kernel
theorem dX4_weaveNext_5 : decode cX4_weaveNext 5 = .ok (.iload_n 1, 1) := by decide +kernel
theorem dX4_weaveNext_6 : decode cX4_weaveNext 6 = .ok (.aload_n 0, 1) := by decide +kernel
theorem dX4_weaveNext_7 : decode cX4_weaveNext 7 = .ok (.getfield 15, 3) := by decide +kernel
theorem dX4_weaveNext_10 : decode cX4_weaveNext 10 = .ok (.if_icmp .lt 5, 3) := by decide +kernel
theorem dX4_weaveNext_13 : decode cX4_weaveNext 13 = .ok (.iconst 0, 1) := by decide +kernel
theorem dX4_weaveNext_14 : decode cX4_weaveNext 14 = .ok (.ireturn, 1) := by decide +kernel
theorem dX4_weaveNext_15 : decode cX4_weaveNext 15 = .ok (.aload_n 0, 1) := by decide +kernel
theorem dX4_weaveNext_16 : decode cX4_weaveNext 16 = .ok (.iload_n 1, 1) := by decide +kernel
theorem dX4_weaveNext_17 : decode cX4_weaveNext 17 = .ok (.invokevirtual 125, 3) := by decide +kernel
theorem dX4_weaveNext_20 : decode cX4_weaveNext 20 = .ok (.aload_n 0, 1) := by decide +kernel
theorem dX4_weaveNext_21 : decode cX4_weaveNext 21 = .ok (.iload_n 1, 1) := by decide +kernel
theorem dX4_weaveNext_22 : decode cX4_weaveNext 22 = .ok (.invokevirtual 128, 3) := by decide +kernel
theorem dX4_weaveNext_25 : decode cX4_weaveNext 25 = .ok (.ifCond .ne 5, 3) := by decide +kernel
theorem dX4_weaveNext_28 : decode cX4_weaveNext 28 = .ok (.iconst 0, 1) := by decide +kernel
theorem dX4_weaveNext_29 : decode cX4_weaveNext 29 = .ok (.ireturn, 1) := by decide +kernel
theorem dX4_weaveNext_30 : decode cX4_weaveNext 30 = .ok (.iconst 0, 1) := by decide +kernel
theorem dX4_weaveNext_31 : decode cX4_weaveNext 31 = .ok (.istore_n 2, 1) := by decide +kernel
theorem dX4_weaveNext_32 : decode cX4_weaveNext 32 = .ok (.iload_n 2, 1) := by decide +kernel
theorem dX4_weaveNext_33 : decode cX4_weaveNext 33 = .ok (.aload_n 0, 1) := by decide +kernel
theorem dX4_weaveNext_34 : decode cX4_weaveNext 34 = .ok (.getfield 9, 3) := by decide +kernel
theorem dX4_weaveNext_37 : decode cX4_weaveNext 37 = .ok (.if_icmp .ge 57, 3) := by decide +kernel
theorem dX4_weaveNext_40 : decode cX4_weaveNext 40 = .ok (.aload_n 0, 1) := by decide +kernel
theorem dX4_weaveNext_41 : decode cX4_weaveNext 41 = .ok (.getfield 32, 3) := by decide +kernel
theorem dX4_weaveNext_44 : decode cX4_weaveNext 44 = .ok (.iload_n 2, 1) := by decide +kernel
theorem dX4_weaveNext_45 : decode cX4_weaveNext 45 = .ok (.iload_n 1, 1) := by decide +kernel
theorem dX4_weaveNext_46 : decode cX4_weaveNext 46 = .ok (.invokevirtual 104, 3) := by decide +kernel
theorem dX4_weaveNext_49 : decode cX4_weaveNext 49 = .ok (.istore_n 3, 1) := by decide +kernel
theorem dX4_weaveNext_50 : decode cX4_weaveNext 50 = .ok (.aload_n 0, 1) := by decide +kernel
theorem dX4_weaveNext_51 : decode cX4_weaveNext 51 = .ok (.getfield 32, 3) := by decide +kernel
theorem dX4_weaveNext_54 : decode cX4_weaveNext 54 = .ok (.iload_n 2, 1) := by decide +kernel
theorem dX4_weaveNext_55 : decode cX4_weaveNext 55 = .ok (.iload_n 1, 1) := by decide +kernel
theorem dX4_weaveNext_56 : decode cX4_weaveNext 56 = .ok (.invokevirtual 131, 3) := by decide +kernel
theorem dX4_weaveNext_59 : decode cX4_weaveNext 59 = .ok (.ifCond .eq 12, 3) := by decide +kernel
theorem dX4_weaveNext_62 : decode cX4_weaveNext 62 = .ok (.aload_n 0, 1) := by decide +kernel
theorem dX4_weaveNext_63 : decode cX4_weaveNext 63 = .ok (.getfield 53, 3) := by decide +kernel
theorem dX4_weaveNext_66 : decode cX4_weaveNext 66 = .ok (.iload_n 3, 1) := by decide +kernel
theorem dX4_weaveNext_67 : decode cX4_weaveNext 67 = .ok (.invokevirtual 134, 3) := by decide +kernel
theorem dX4_weaveNext_70 : decode cX4_weaveNext 70 = .ok (.pop, 1) := by decide +kernel
theorem dX4_weaveNext_71 : decode cX4_weaveNext 71 = .ok (.aload_n 0, 1) := by decide +kernel
theorem dX4_weaveNext_72 : decode cX4_weaveNext 72 = .ok (.getfield 35, 3) := by decide +kernel
theorem dX4_weaveNext_75 : decode cX4_weaveNext 75 = .ok (.iload_n 2, 1) := by decide +kernel
theorem dX4_weaveNext_76 : decode cX4_weaveNext 76 = .ok (.iload_n 1, 1) := by decide +kernel
theorem dX4_weaveNext_77 : decode cX4_weaveNext 77 = .ok (.aload_n 0, 1) := by decide +kernel
theorem dX4_weaveNext_78 : decode cX4_weaveNext 78 = .ok (.getfield 53, 3) := by decide +kernel
theorem dX4_weaveNext_81 : decode cX4_weaveNext 81 = .ok (.iload_n 3, 1) := by decide +kernel
theorem dX4_weaveNext_82 : decode cX4_weaveNext 82 = .ok (.invokevirtual 134, 3) := by decide +kernel
theorem dX4_weaveNext_85 : decode cX4_weaveNext 85 = .ok (.invokevirtual 108, 3) := by decide +kernel
theorem dX4_weaveNext_88 : decode cX4_weaveNext 88 = .ok (.iinc 2 1, 3) := by decide +kernel
theorem dX4_weaveNext_91 : decode cX4_weaveNext 91 = .ok (.goto (-59), 3) := by decide +kernel
theorem dX4_weaveNext_94 : decode cX4_weaveNext 94 = .ok (.aload_n 0, 1) := by decide +kernel
theorem dX4_weaveNext_95 : decode cX4_weaveNext 95 = .ok (.getfield 46, 3) := by decide +kernel
theorem dX4_weaveNext_98 : decode cX4_weaveNext 98 = .ok (.iconst (-1), 1) := by decide +kernel
theorem dX4_weaveNext_99 : decode cX4_weaveNext 99 = .ok (.invokevirtual 57, 3) := by decide +kernel
theorem dX4_weaveNext_102 : decode cX4_weaveNext 102 = .ok (.aload_n 0, 1) := by decide +kernel
theorem dX4_weaveNext_103 : decode cX4_weaveNext 103 = .ok (.dup, 1) := by decide +kernel
theorem dX4_weaveNext_104 : decode cX4_weaveNext 104 = .ok (.getfield 60, 3) := by decide +kernel
theorem dX4_weaveNext_107 : decode cX4_weaveNext 107 = .ok (.iconst 1, 1) := by decide +kernel
theorem dX4_weaveNext_108 : decode cX4_weaveNext 108 = .ok (.iadd, 1) := by decide +kernel
theorem dX4_weaveNext_109 : decode cX4_weaveNext 109 = .ok (.putfield 60, 3) := by decide +kernel
theorem dX4_weaveNext_112 : decode cX4_weaveNext 112 = .ok (.iconst 1, 1) := by decide +kernel
theorem dX4_weaveNext_113 : decode cX4_weaveNext 113 = .ok (.ireturn, 1) := by decide +kernel
theorem dX4_layColors_0 : decode cX4_layColors 0 = .ok (.iconst 0, 1) := by decide +kernel
theorem dX4_layColors_1 : decode cX4_layColors 1 = .ok (.istore_n 2, 1) := by decide +kernel
theorem dX4_layColors_2 : decode cX4_layColors 2 = .ok (.iload_n 2, 1) := by decide +kernel
theorem dX4_layColors_3 : decode cX4_layColors 3 = .ok (.aload_n 0, 1) := by decide +kernel
theorem dX4_layColors_4 : decode cX4_layColors 4 = .ok (.getfield 9, 3) := by decide +kernel
theorem dX4_layColors_7 : decode cX4_layColors 7 = .ok (.if_icmp .ge 45, 3) := by decide +kernel
theorem dX4_layColors_10 : decode cX4_layColors 10 = .ok (.aload_n 0, 1) := by decide +kernel
theorem dX4_layColors_11 : decode cX4_layColors 11 = .ok (.getfield 46, 3) := by decide +kernel
theorem dX4_layColors_14 : decode cX4_layColors 14 = .ok (.iload_n 2, 1) := by decide +kernel
theorem dX4_layColors_15 : decode cX4_layColors 15 = .ok (.invokevirtual 137, 3) := by decide +kernel
theorem dX4_layColors_18 : decode cX4_layColors 18 = .ok (.istore_n 3, 1) := by decide +kernel
theorem dX4_layColors_19 : decode cX4_layColors 19 = .ok (.aload_n 0, 1) := by decide +kernel
theorem dX4_layColors_20 : decode cX4_layColors 20 = .ok (.getfield 32, 3) := by decide +kernel
theorem dX4_layColors_23 : decode cX4_layColors 23 = .ok (.iload_n 2, 1) := by decide +kernel
theorem dX4_layColors_24 : decode cX4_layColors 24 = .ok (.iload_n 1, 1) := by decide +kernel
theorem dX4_layColors_25 : decode cX4_layColors 25 = .ok (.iload_n 3, 1) := by decide +kernel
theorem dX4_layColors_26 : decode cX4_layColors 26 = .ok (.iconst (-1), 1) := by decide +kernel
theorem dX4_layColors_27 : decode cX4_layColors 27 = .ok (.if_icmp .ne 15, 3) := by decide +kernel
theorem dX4_layColors_30 : decode cX4_layColors 30 = .ok (.aload_n 0, 1) := by decide +kernel
theorem dX4_layColors_31 : decode cX4_layColors 31 = .ok (.getfield 28, 3) := by decide +kernel
theorem dX4_layColors_34 : decode cX4_layColors 34 = .ok (.iload_n 2, 1) := by decide +kernel
theorem dX4_layColors_35 : decode cX4_layColors 35 = .ok (.iload_n 1, 1) := by decide +kernel
theorem dX4_layColors_36 : decode cX4_layColors 36 = .ok (.invokevirtual 104, 3) := by decide +kernel
theorem dX4_layColors_39 : decode cX4_layColors 39 = .ok (.goto 4, 3) := by decide +kernel
theorem dX4_layColors_42 : decode cX4_layColors 42 = .ok (.iload_n 3, 1) := by decide +kernel
theorem dX4_layColors_43 : decode cX4_layColors 43 = .ok (.invokevirtual 108, 3) := by decide +kernel
theorem dX4_layColors_46 : decode cX4_layColors 46 = .ok (.iinc 2 1, 3) := by decide +kernel
theorem dX4_layColors_49 : decode cX4_layColors 49 = .ok (.goto (-47), 3) := by decide +kernel
theorem dX4_layColors_52 : decode cX4_layColors 52 = .ok (.return_, 1) := by decide +kernel
theorem dX4_hasYarnFor_0 : decode cX4_hasYarnFor 0 = .ok (.iconst 0, 1) := by decide +kernel
theorem dX4_hasYarnFor_1 : decode cX4_hasYarnFor 1 = .ok (.istore_n 2, 1) := by decide +kernel
theorem dX4_hasYarnFor_2 : decode cX4_hasYarnFor 2 = .ok (.iload_n 2, 1) := by decide +kernel
theorem dX4_hasYarnFor_3 : decode cX4_hasYarnFor 3 = .ok (.bipush 8, 2) := by decide +kernel
theorem dX4_hasYarnFor_5 : decode cX4_hasYarnFor 5 = .ok (.if_icmp .ge 35, 3) := by decide +kernel
theorem dX4_hasYarnFor_8 : decode cX4_hasYarnFor 8 = .ok (.aload_n 0, 1) := by decide +kernel
theorem dX4_hasYarnFor_9 : decode cX4_hasYarnFor 9 = .ok (.getfield 32, 3) := by decide +kernel
theorem dX4_hasYarnFor_12 : decode cX4_hasYarnFor 12 = .ok (.iload_n 2, 1) := by decide +kernel
theorem dX4_hasYarnFor_13 : decode cX4_hasYarnFor 13 = .ok (.iload_n 1, 1) := by decide +kernel
theorem dX4_hasYarnFor_14 : decode cX4_hasYarnFor 14 = .ok (.aload_n 0, 1) := by decide +kernel
theorem dX4_hasYarnFor_15 : decode cX4_hasYarnFor 15 = .ok (.getfield 9, 3) := by decide +kernel
theorem dX4_hasYarnFor_18 : decode cX4_hasYarnFor 18 = .ok (.invokevirtual 139, 3) := by decide +kernel
theorem dX4_hasYarnFor_21 : decode cX4_hasYarnFor 21 = .ok (.aload_n 0, 1) := by decide +kernel
theorem dX4_hasYarnFor_22 : decode cX4_hasYarnFor 22 = .ok (.getfield 53, 3) := by decide +kernel
theorem dX4_hasYarnFor_25 : decode cX4_hasYarnFor 25 = .ok (.iload_n 2, 1) := by decide +kernel
theorem dX4_hasYarnFor_26 : decode cX4_hasYarnFor 26 = .ok (.invokevirtual 143, 3) := by decide +kernel
theorem dX4_hasYarnFor_29 : decode cX4_hasYarnFor 29 = .ok (.if_icmp .le 5, 3) := by decide +kernel
theorem dX4_hasYarnFor_32 : decode cX4_hasYarnFor 32 = .ok (.iconst 0, 1) := by decide +kernel
theorem dX4_hasYarnFor_33 : decode cX4_hasYarnFor 33 = .ok (.ireturn, 1) := by decide +kernel
theorem dX4_hasYarnFor_34 : decode cX4_hasYarnFor 34 = .ok (.iinc 2 1, 3) := by decide +kernel
theorem dX4_hasYarnFor_37 : decode cX4_hasYarnFor 37 = .ok (.goto (-35), 3) := by decide +kernel
theorem dX4_hasYarnFor_40 : decode cX4_hasYarnFor 40 = .ok (.iconst 1, 1) := by decide +kernel
theorem dX4_hasYarnFor_41 : decode cX4_hasYarnFor 41 = .ok (.ireturn, 1) := by decide +kernel
theorem dX4_unweaveRows_0 : decode cX4_unweaveRows 0 = .ok (.iconst 0, 1) := by decide +kernel
theorem dX4_unweaveRows_1 : decode cX4_unweaveRows 1 = .ok (.istore_n 2, 1) := by decide +kernel
theorem dX4_unweaveRows_2 : decode cX4_unweaveRows 2 = .ok (.iconst 0, 1) := by decide +kernel
theorem dX4_unweaveRows_3 : decode cX4_unweaveRows 3 = .ok (.istore_n 3, 1) := by decide +kernel
theorem dX4_unweaveRows_4 : decode cX4_unweaveRows 4 = .ok (.iload_n 3, 1) := by decide +kernel
theorem dX4_unweaveRows_5 : decode cX4_unweaveRows 5 = .ok (.iload_n 1, 1) := by decide +kernel
theorem dX4_unweaveRows_6 : decode cX4_unweaveRows 6 = .ok (.if_icmp .ge 67, 3) := by decide +kernel
theorem dX4_unweaveRows_9 : decode cX4_unweaveRows 9 = .ok (.aload_n 0, 1) := by decide +kernel
theorem dX4_unweaveRows_10 : decode cX4_unweaveRows 10 = .ok (.getfield 60, 3) := by decide +kernel
theorem dX4_unweaveRows_13 : decode cX4_unweaveRows 13 = .ok (.ifCond .le 60, 3) := by decide +kernel
theorem dX4_unweaveRows_16 : decode cX4_unweaveRows 16 = .ok (.aload_n 0, 1) := by decide +kernel
theorem dX4_unweaveRows_17 : decode cX4_unweaveRows 17 = .ok (.dup, 1) := by decide +kernel
theorem dX4_unweaveRows_18 : decode cX4_unweaveRows 18 = .ok (.getfield 60, 3) := by decide +kernel
theorem dX4_unweaveRows_21 : decode cX4_unweaveRows 21 = .ok (.iconst 1, 1) := by decide +kernel
theorem dX4_unweaveRows_22 : decode cX4_unweaveRows 22 = .ok (.isub, 1) := by decide +kernel
theorem dX4_unweaveRows_23 : decode cX4_unweaveRows 23 = .ok (.putfield 60, 3) := by decide +kernel
theorem dX4_unweaveRows_26 : decode cX4_unweaveRows 26 = .ok (.iconst 0, 1) := by decide +kernel
theorem dX4_unweaveRows_27 : decode cX4_unweaveRows 27 = .ok (.istore 4, 2) := by decide +kernel
theorem dX4_unweaveRows_29 : decode cX4_unweaveRows 29 = .ok (.iload 4, 2) := by decide +kernel
theorem dX4_unweaveRows_31 : decode cX4_unweaveRows 31 = .ok (.aload_n 0, 1) := by decide +kernel
theorem dX4_unweaveRows_32 : decode cX4_unweaveRows 32 = .ok (.getfield 9, 3) := by decide +kernel
theorem dX4_unweaveRows_35 : decode cX4_unweaveRows 35 = .ok (.if_icmp .ge 32, 3) := by decide +kernel
theorem dX4_unweaveRows_38 : decode cX4_unweaveRows 38 = .ok (.aload_n 0, 1) := by decide +kernel
theorem dX4_unweaveRows_39 : decode cX4_unweaveRows 39 = .ok (.getfield 53, 3) := by decide +kernel
theorem dX4_unweaveRows_42 : decode cX4_unweaveRows 42 = .ok (.aload_n 0, 1) := by decide +kernel
theorem dX4_unweaveRows_43 : decode cX4_unweaveRows 43 = .ok (.getfield 35, 3) := by decide +kernel
theorem dX4_unweaveRows_46 : decode cX4_unweaveRows 46 = .ok (.iload 4, 2) := by decide +kernel
theorem dX4_unweaveRows_48 : decode cX4_unweaveRows 48 = .ok (.aload_n 0, 1) := by decide +kernel
theorem dX4_unweaveRows_49 : decode cX4_unweaveRows 49 = .ok (.getfield 60, 3) := by decide +kernel
theorem dX4_unweaveRows_52 : decode cX4_unweaveRows 52 = .ok (.invokevirtual 104, 3) := by decide +kernel
theorem dX4_unweaveRows_55 : decode cX4_unweaveRows 55 = .ok (.invokevirtual 146, 3) := by decide +kernel
theorem dX4_unweaveRows_58 : decode cX4_unweaveRows 58 = .ok (.iinc 2 1, 3) := by decide +kernel
theorem dX4_unweaveRows_61 : decode cX4_unweaveRows 61 = .ok (.iinc 4 1, 3) := by decide +kernel
theorem dX4_unweaveRows_64 : decode cX4_unweaveRows 64 = .ok (.goto (-35), 3) := by decide +kernel
theorem dX4_unweaveRows_67 : decode cX4_unweaveRows 67 = .ok (.iinc 3 1, 3) := by decide +kernel
theorem dX4_unweaveRows_70 : decode cX4_unweaveRows 70 = .ok (.goto (-66), 3) := by decide +kernel
theorem dX4_unweaveRows_73 : decode cX4_unweaveRows 73 = .ok (.aload_n 0, 1) := by decide +kernel
theorem dX4_unweaveRows_74 : decode cX4_unweaveRows 74 = .ok (.invokevirtual 112, 3) := by decide +kernel
theorem dX4_unweaveRows_77 : decode cX4_unweaveRows 77 = .ok (.iload_n 2, 1) := by decide +kernel
theorem dX4_unweaveRows_78 : decode cX4_unweaveRows 78 = .ok (.ireturn, 1) := by decide +kernel
theorem dX4_sewSlit_0 : decode cX4_sewSlit 0 = .ok (.aload_n 0, 1) := by decide +kernel
theorem dX4_sewSlit_1 : decode cX4_sewSlit 1 = .ok (.iload_n 1, 1) := by decide +kernel
theorem dX4_sewSlit_2 : decode cX4_sewSlit 2 = .ok (.invokevirtual 93, 3) := by decide +kernel
theorem dX4_sewSlit_5 : decode cX4_sewSlit 5 = .ok (.istore_n 2, 1) := by decide +kernel
theorem dX4_sewSlit_6 : decode cX4_sewSlit 6 = .ok (.iload_n 2, 1) := by decide +kernel
theorem dX4_sewSlit_7 : decode cX4_sewSlit 7 = .ok (.iconst (-1), 1) := by decide +kernel
theorem dX4_sewSlit_8 : decode cX4_sewSlit 8 = .ok (.if_icmp .eq 19, 3) := by decide +kernel
theorem dX4_sewSlit_11 : decode cX4_sewSlit 11 = .ok (.aload_n 0, 1) := by decide +kernel
theorem dX4_sewSlit_12 : decode cX4_sewSlit 12 = .ok (.getfield 38, 3) := by decide +kernel
theorem dX4_sewSlit_15 : decode cX4_sewSlit 15 = .ok (.iload_n 2, 1) := by decide +kernel
theorem dX4_sewSlit_16 : decode cX4_sewSlit 16 = .ok (.bipush 16, 2) := by decide +kernel
theorem dX4_sewSlit_18 : decode cX4_sewSlit 18 = .ok (.idiv, 1) := by decide +kernel
theorem dX4_sewSlit_19 : decode cX4_sewSlit 19 = .ok (.iload_n 2, 1) := by decide +kernel
theorem dX4_sewSlit_20 : decode cX4_sewSlit 20 = .ok (.bipush 16, 2) := by decide +kernel
theorem dX4_sewSlit_22 : decode cX4_sewSlit 22 = .ok (.irem, 1) := by decide +kernel
theorem dX4_sewSlit_23 : decode cX4_sewSlit 23 = .ok (.iconst 1, 1) := by decide +kernel
theorem dX4_sewSlit_24 : decode cX4_sewSlit 24 = .ok (.invokevirtual 108, 3) := by decide +kernel
theorem dX4_sewSlit_27 : decode cX4_sewSlit 27 = .ok (.aload_n 0, 1) := by decide +kernel
theorem dX4_sewSlit_28 : decode cX4_sewSlit 28 = .ok (.aload_n 0, 1) := by decide +kernel
theorem dX4_sewSlit_29 : decode cX4_sewSlit 29 = .ok (.getfield 18, 3) := by decide +kernel
theorem dX4_sewSlit_32 : decode cX4_sewSlit 32 = .ok (.invokevirtual 149, 3) := by decide +kernel
theorem dX4_sewSlit_35 : decode cX4_sewSlit 35 = .ok (.aload_n 0, 1) := by decide +kernel
theorem dX4_sewSlit_36 : decode cX4_sewSlit 36 = .ok (.invokevirtual 152, 3) := by decide +kernel
theorem dX4_sewSlit_39 : decode cX4_sewSlit 39 = .ok (.isub, 1) := by decide +kernel
theorem dX4_sewSlit_40 : decode cX4_sewSlit 40 = .ok (.ireturn, 1) := by decide +kernel
theorem dX4_forgetLostSlits_0 : decode cX4_forgetLostSlits 0 = .ok (.iconst 0, 1) := by decide +kernel
theorem dX4_forgetLostSlits_1 : decode cX4_forgetLostSlits 1 = .ok (.istore_n 1, 1) := by decide +kernel
theorem dX4_forgetLostSlits_2 : decode cX4_forgetLostSlits 2 = .ok (.iload_n 1, 1) := by decide +kernel
theorem dX4_forgetLostSlits_3 : decode cX4_forgetLostSlits 3 = .ok (.bipush 20, 2) := by decide +kernel
theorem dX4_forgetLostSlits_5 : decode cX4_forgetLostSlits 5 = .ok (.if_icmp .ge 55, 3) := by decide +kernel
theorem dX4_forgetLostSlits_8 : decode cX4_forgetLostSlits 8 = .ok (.iconst 0, 1) := by decide +kernel
theorem dX4_forgetLostSlits_9 : decode cX4_forgetLostSlits 9 = .ok (.istore_n 2, 1) := by decide +kernel
theorem dX4_forgetLostSlits_10 : decode cX4_forgetLostSlits 10 = .ok (.iload_n 2, 1) := by decide +kernel
theorem dX4_forgetLostSlits_11 : decode cX4_forgetLostSlits 11 = .ok (.bipush 16, 2) := by decide +kernel
theorem dX4_forgetLostSlits_13 : decode cX4_forgetLostSlits 13 = .ok (.if_icmp .ge 41, 3) := by decide +kernel
theorem dX4_forgetLostSlits_16 : decode cX4_forgetLostSlits 16 = .ok (.aload_n 0, 1) := by decide +kernel
theorem dX4_forgetLostSlits_17 : decode cX4_forgetLostSlits 17 = .ok (.iload_n 1, 1) := by decide +kernel
theorem dX4_forgetLostSlits_18 : decode cX4_forgetLostSlits 18 = .ok (.iload_n 2, 1) := by decide +kernel
theorem dX4_forgetLostSlits_19 : decode cX4_forgetLostSlits 19 = .ok (.invokevirtual 97, 3) := by decide +kernel
theorem dX4_forgetLostSlits_22 : decode cX4_forgetLostSlits 22 = .ok (.ifCond .eq 26, 3) := by decide +kernel
theorem dX4_forgetLostSlits_25 : decode cX4_forgetLostSlits 25 = .ok (.aload_n 0, 1) := by decide +kernel
theorem dX4_forgetLostSlits_26 : decode cX4_forgetLostSlits 26 = .ok (.iload_n 1, 1) := by decide +kernel
theorem dX4_forgetLostSlits_27 : decode cX4_forgetLostSlits 27 = .ok (.iload_n 2, 1) := by decide +kernel
theorem dX4_forgetLostSlits_28 : decode cX4_forgetLostSlits 28 = .ok (.invokevirtual 156, 3) := by decide +kernel
theorem dX4_forgetLostSlits_31 : decode cX4_forgetLostSlits 31 = .ok (.aload_n 0, 1) := by decide +kernel
theorem dX4_forgetLostSlits_32 : decode cX4_forgetLostSlits 32 = .ok (.getfield 18, 3) := by decide +kernel
theorem dX4_forgetLostSlits_35 : decode cX4_forgetLostSlits 35 = .ok (.if_icmp .gt 13, 3) := by decide +kernel
theorem dX4_forgetLostSlits_38 : decode cX4_forgetLostSlits 38 = .ok (.aload_n 0, 1) := by decide +kernel
theorem dX4_forgetLostSlits_39 : decode cX4_forgetLostSlits 39 = .ok (.getfield 38, 3) := by decide +kernel
theorem dX4_forgetLostSlits_42 : decode cX4_forgetLostSlits 42 = .ok (.iload_n 1, 1) := by decide +kernel
theorem dX4_forgetLostSlits_43 : decode cX4_forgetLostSlits 43 = .ok (.iload_n 2, 1) := by decide +kernel
theorem dX4_forgetLostSlits_44 : decode cX4_forgetLostSlits 44 = .ok (.iconst 0, 1) := by decide +kernel
theorem dX4_forgetLostSlits_45 : decode cX4_forgetLostSlits 45 = .ok (.invokevirtual 108, 3) := by decide +kernel
theorem dX4_forgetLostSlits_48 : decode cX4_forgetLostSlits 48 = .ok (.iinc 2 1, 3) := by decide +kernel
theorem dX4_forgetLostSlits_51 : decode cX4_forgetLostSlits 51 = .ok (.goto (-41), 3) := by decide +kernel
theorem dX4_forgetLostSlits_54 : decode cX4_forgetLostSlits 54 = .ok (.iinc 1 1, 3) := by decide +kernel
theorem dX4_forgetLostSlits_57 : decode cX4_forgetLostSlits 57 = .ok (.goto (-55), 3) := by decide +kernel
theorem dX4_forgetLostSlits_60 : decode cX4_forgetLostSlits 60 = .ok (.return_, 1) := by decide +kernel
theorem dX4_hasCell_0 : decode cX4_hasCell 0 = .ok (.iconst 0, 1) := by decide +kernel
theorem dX4_hasCell_1 : decode cX4_hasCell 1 = .ok (.iload_n 1, 1) := by decide +kernel
theorem dX4_hasCell_2 : decode cX4_hasCell 2 = .ok (.aload_n 0, 1) := by decide +kernel
theorem dX4_hasCell_3 : decode cX4_hasCell 3 = .ok (.getfield 9, 3) := by decide +kernel
theorem dX4_hasCell_6 : decode cX4_hasCell 6 = .ok (.iconst 1, 1) := by decide +kernel
theorem dX4_hasCell_7 : decode cX4_hasCell 7 = .ok (.isub, 1) := by decide +kernel
theorem dX4_hasCell_8 : decode cX4_hasCell 8 = .ok (.invokestatic 73, 3) := by decide +kernel
theorem dX4_hasCell_11 : decode cX4_hasCell 11 = .ok (.ifCond .eq 21, 3) := by decide +kernel
theorem dX4_hasCell_14 : decode cX4_hasCell 14 = .ok (.iconst 0, 1) := by decide +kernel
theorem dX4_hasCell_15 : decode cX4_hasCell 15 = .ok (.iload_n 2, 1) := by decide +kernel
theorem dX4_hasCell_16 : decode cX4_hasCell 16 = .ok (.aload_n 0, 1) := by decide +kernel
theorem dX4_hasCell_17 : decode cX4_hasCell 17 = .ok (.getfield 15, 3) := by decide +kernel
theorem dX4_hasCell_20 : decode cX4_hasCell 20 = .ok (.iconst 1, 1) := by decide +kernel
theorem dX4_hasCell_21 : decode cX4_hasCell 21 = .ok (.isub, 1) := by decide +kernel
theorem dX4_hasCell_22 : decode cX4_hasCell 22 = .ok (.invokestatic 73, 3) := by decide +kernel
theorem dX4_hasCell_25 : decode cX4_hasCell 25 = .ok (.ifCond .eq 7, 3) := by decide +kernel
theorem dX4_hasCell_28 : decode cX4_hasCell 28 = .ok (.iconst 1, 1) := by decide +kernel
theorem dX4_hasCell_29 : decode cX4_hasCell 29 = .ok (.goto 4, 3) := by decide +kernel
theorem dX4_hasCell_32 : decode cX4_hasCell 32 = .ok (.iconst 0, 1) := by decide +kernel
theorem dX4_hasCell_33 : decode cX4_hasCell 33 = .ok (.ireturn, 1) := by decide +kernel
theorem dX4_isWoven_0 : decode cX4_isWoven 0 = .ok (.iload_n 1, 1) := by decide +kernel
theorem dX4_isWoven_1 : decode cX4_isWoven 1 = .ok (.ifCond .lt 15, 3) := by decide +kernel
theorem dX4_isWoven_4 : decode cX4_isWoven 4 = .ok (.iload_n 1, 1) := by decide +kernel
theorem dX4_isWoven_5 : decode cX4_isWoven 5 = .ok (.aload_n 0, 1) := by decide +kernel
theorem dX4_isWoven_6 : decode cX4_isWoven 6 = .ok (.getfield 60, 3) := by decide +kernel
theorem dX4_isWoven_9 : decode cX4_isWoven 9 = .ok (.if_icmp .ge 7, 3) := by decide +kernel
theorem dX4_isWoven_12 : decode cX4_isWoven 12 = .ok (.iconst 1, 1) := by decide +kernel
theorem dX4_isWoven_13 : decode cX4_isWoven 13 = .ok (.goto 4, 3) := by decide +kernel
theorem dX4_isWoven_16 : decode cX4_isWoven 16 = .ok (.iconst 0, 1) := by decide +kernel
theorem dX4_isWoven_17 : decode cX4_isWoven 17 = .ok (.ireturn, 1) := by decide +kernel
theorem dX4_mirror_0 : decode cX4_mirror 0 = .ok (.aload_n 0, 1) := by decide +kernel
theorem dX4_mirror_1 : decode cX4_mirror 1 = .ok (.getfield 9, 3) := by decide +kernel
theorem dX4_mirror_4 : decode cX4_mirror 4 = .ok (.iconst 1, 1) := by decide +kernel
theorem dX4_mirror_5 : decode cX4_mirror 5 = .ok (.isub, 1) := by decide +kernel
theorem dX4_mirror_6 : decode cX4_mirror 6 = .ok (.iload_n 1, 1) := by decide +kernel
theorem dX4_mirror_7 : decode cX4_mirror 7 = .ok (.isub, 1) := by decide +kernel
theorem dX4_mirror_8 : decode cX4_mirror 8 = .ok (.ireturn, 1) := by decide +kernel
theorem dX4_wovenColor_0 : decode cX4_wovenColor 0 = .ok (.iload_n 1, 1) := by decide +kernel
theorem dX4_wovenColor_1 : decode cX4_wovenColor 1 = .ok (.aload_n 0, 1) := by decide +kernel
theorem dX4_wovenColor_2 : decode cX4_wovenColor 2 = .ok (.getfield 9, 3) := by decide +kernel
theorem dX4_wovenColor_5 : decode cX4_wovenColor 5 = .ok (.if_icmp .ge 23, 3) := by decide +kernel
theorem dX4_wovenColor_8 : decode cX4_wovenColor 8 = .ok (.iload_n 2, 1) := by decide +kernel
theorem dX4_wovenColor_9 : decode cX4_wovenColor 9 = .ok (.aload_n 0, 1) := by decide +kernel
theorem dX4_wovenColor_10 : decode cX4_wovenColor 10 = .ok (.getfield 60, 3) := by decide +kernel
theorem dX4_wovenColor_13 : decode cX4_wovenColor 13 = .ok (.if_icmp .ge 15, 3) := by decide +kernel
theorem dX4_wovenColor_16 : decode cX4_wovenColor 16 = .ok (.aload_n 0, 1) := by decide +kernel
theorem dX4_wovenColor_17 : decode cX4_wovenColor 17 = .ok (.getfield 32, 3) := by decide +kernel
theorem dX4_wovenColor_20 : decode cX4_wovenColor 20 = .ok (.iload_n 1, 1) := by decide +kernel
theorem dX4_wovenColor_21 : decode cX4_wovenColor 21 = .ok (.iload_n 2, 1) := by decide +kernel
theorem dX4_wovenColor_22 : decode cX4_wovenColor 22 = .ok (.invokevirtual 104, 3) := by decide +kernel
theorem dX4_wovenColor_25 : decode cX4_wovenColor 25 = .ok (.goto 4, 3) := by decide +kernel
theorem dX4_wovenColor_28 : decode cX4_wovenColor 28 = .ok (.iconst (-1), 1) := by decide +kernel
theorem dX4_wovenColor_29 : decode cX4_wovenColor 29 = .ok (.ireturn, 1) := by decide +kernel
theorem dX4_shadeAt_0 : decode cX4_shadeAt 0 = .ok (.aload_n 0, 1) := by decide +kernel
theorem dX4_shadeAt_1 : decode cX4_shadeAt 1 = .ok (.getfield 53, 3) := by decide +kernel
theorem dX4_shadeAt_4 : decode cX4_shadeAt 4 = .ok (.aload_n 0, 1) := by decide +kernel
theorem dX4_shadeAt_5 : decode cX4_shadeAt 5 = .ok (.getfield 35, 3) := by decide +kernel
theorem dX4_shadeAt_8 : decode cX4_shadeAt 8 = .ok (.iload_n 1, 1) := by decide +kernel
theorem dX4_shadeAt_9 : decode cX4_shadeAt 9 = .ok (.iload_n 2, 1) := by decide +kernel
theorem dX4_shadeAt_10 : decode cX4_shadeAt 10 = .ok (.invokevirtual 104, 3) := by decide +kernel
theorem dX4_shadeAt_13 : decode cX4_shadeAt 13 = .ok (.invokevirtual 159, 3) := by decide +kernel
theorem dX4_shadeAt_16 : decode cX4_shadeAt 16 = .ok (.freturn, 1) := by decide +kernel
theorem dX4_isWrong_0 : decode cX4_isWrong 0 = .ok (.aload_n 0, 1) := by decide +kernel
theorem dX4_isWrong_1 : decode cX4_isWrong 1 = .ok (.getfield 32, 3) := by decide +kernel
theorem dX4_isWrong_4 : decode cX4_isWrong 4 = .ok (.iload_n 1, 1) := by decide +kernel
theorem dX4_isWrong_5 : decode cX4_isWrong 5 = .ok (.iload_n 2, 1) := by decide +kernel
theorem dX4_isWrong_6 : decode cX4_isWrong 6 = .ok (.invokevirtual 104, 3) := by decide +kernel
theorem dX4_isWrong_9 : decode cX4_isWrong 9 = .ok (.aload_n 0, 1) := by decide +kernel
theorem dX4_isWrong_10 : decode cX4_isWrong 10 = .ok (.getfield 28, 3) := by decide +kernel
theorem dX4_isWrong_13 : decode cX4_isWrong 13 = .ok (.iload_n 1, 1) := by decide +kernel
theorem dX4_isWrong_14 : decode cX4_isWrong 14 = .ok (.iload_n 2, 1) := by decide +kernel
theorem dX4_isWrong_15 : decode cX4_isWrong 15 = .ok (.invokevirtual 104, 3) := by decide +kernel
theorem dX4_isWrong_18 : decode cX4_isWrong 18 = .ok (.if_icmp .eq 7, 3) := by decide +kernel
theorem dX4_isWrong_21 : decode cX4_isWrong 21 = .ok (.iconst 1, 1) := by decide +kernel
theorem dX4_isWrong_22 : decode cX4_isWrong 22 = .ok (.goto 4, 3) := by decide +kernel
theorem dX4_isWrong_25 : decode cX4_isWrong 25 = .ok (.iconst 0, 1) := by decide +kernel
theorem dX4_isWrong_26 : decode cX4_isWrong 26 = .ok (.ireturn, 1) := by decide +kernel
theorem dX4_cellValue_0 : decode cX4_cellValue 0 = .ok (.aload_n 0, 1) := by decide +kernel
theorem dX4_cellValue_1 : decode cX4_cellValue 1 = .ok (.iload_n 1, 1) := by decide +kernel
theorem dX4_cellValue_2 : decode cX4_cellValue 2 = .ok (.invokevirtual 101, 3) := by decide +kernel
theorem dX4_cellValue_5 : decode cX4_cellValue 5 = .ok (.istore 4, 2) := by decide +kernel
theorem dX4_cellValue_7 : decode cX4_cellValue 7 = .ok (.iload_n 3, 1) := by decide +kernel
theorem dX4_cellValue_8 : decode cX4_cellValue 8 = .ok (.ifCond .ne 14, 3) := by decide +kernel
theorem dX4_cellValue_11 : decode cX4_cellValue 11 = .ok (.aload_n 0, 1) := by decide +kernel
theorem dX4_cellValue_12 : decode cX4_cellValue 12 = .ok (.getfield 28, 3) := by decide +kernel
theorem dX4_cellValue_15 : decode cX4_cellValue 15 = .ok (.iload 4, 2) := by decide +kernel
theorem dX4_cellValue_17 : decode cX4_cellValue 17 = .ok (.iload_n 2, 1) := by decide +kernel
theorem dX4_cellValue_18 : decode cX4_cellValue 18 = .ok (.invokevirtual 104, 3) := by decide +kernel
theorem dX4_cellValue_21 : decode cX4_cellValue 21 = .ok (.ireturn, 1) := by decide +kernel
theorem dX4_cellValue_22 : decode cX4_cellValue 22 = .ok (.iload_n 3, 1) := by decide +kernel
theorem dX4_cellValue_23 : decode cX4_cellValue 23 = .ok (.iconst 1, 1) := by decide +kernel
theorem dX4_cellValue_24 : decode cX4_cellValue 24 = .ok (.if_icmp .ne 11, 3) := by decide +kernel
theorem dX4_cellValue_27 : decode cX4_cellValue 27 = .ok (.aload_n 0, 1) := by decide +kernel
theorem dX4_cellValue_28 : decode cX4_cellValue 28 = .ok (.iload 4, 2) := by decide +kernel
theorem dX4_cellValue_30 : decode cX4_cellValue 30 = .ok (.iload_n 2, 1) := by decide +kernel
theorem dX4_cellValue_31 : decode cX4_cellValue 31 = .ok (.invokevirtual 163, 3) := by decide +kernel
theorem dX4_cellValue_34 : decode cX4_cellValue 34 = .ok (.ireturn, 1) := by decide +kernel
theorem dX4_cellValue_35 : decode cX4_cellValue 35 = .ok (.iload_n 3, 1) := by decide +kernel
theorem dX4_cellValue_36 : decode cX4_cellValue 36 = .ok (.iconst 2, 1) := by decide +kernel
theorem dX4_cellValue_37 : decode cX4_cellValue 37 = .ok (.if_icmp .ne 26, 3) := by decide +kernel
theorem dX4_cellValue_40 : decode cX4_cellValue 40 = .ok (.aload_n 0, 1) := by decide +kernel
theorem dX4_cellValue_41 : decode cX4_cellValue 41 = .ok (.iload_n 2, 1) := by decide +kernel
theorem dX4_cellValue_42 : decode cX4_cellValue 42 = .ok (.invokevirtual 166, 3) := by decide +kernel
theorem dX4_cellValue_45 : decode cX4_cellValue 45 = .ok (.ifCond .eq 16, 3) := by decide +kernel
theorem dX4_cellValue_48 : decode cX4_cellValue 48 = .ok (.aload_n 0, 1) := by decide +kernel
theorem dX4_cellValue_49 : decode cX4_cellValue 49 = .ok (.getfield 35, 3) := by decide +kernel
theorem dX4_cellValue_52 : decode cX4_cellValue 52 = .ok (.iload 4, 2) := by decide +kernel
theorem dX4_cellValue_54 : decode cX4_cellValue 54 = .ok (.iload_n 2, 1) := by decide +kernel
theorem dX4_cellValue_55 : decode cX4_cellValue 55 = .ok (.invokevirtual 104, 3) := by decide +kernel
theorem dX4_cellValue_58 : decode cX4_cellValue 58 = .ok (.goto 4, 3) := by decide +kernel
theorem dX4_cellValue_61 : decode cX4_cellValue 61 = .ok (.iconst (-1), 1) := by decide +kernel
theorem dX4_cellValue_62 : decode cX4_cellValue 62 = .ok (.ireturn, 1) := by decide +kernel
theorem dX4_cellValue_63 : decode cX4_cellValue 63 = .ok (.iload 4, 2) := by decide +kernel
theorem dX4_cellValue_65 : decode cX4_cellValue 65 = .ok (.ireturn, 1) := by decide +kernel
theorem dX4_rowValue_0 : decode cX4_rowValue 0 = .ok (.iload_n 2, 1) := by decide +kernel
theorem dX4_rowValue_1 : decode cX4_rowValue 1 = .ok (.ifCond .ne 16, 3) := by decide +kernel
theorem dX4_rowValue_4 : decode cX4_rowValue 4 = .ok (.aload_n 0, 1) := by decide +kernel
theorem dX4_rowValue_5 : decode cX4_rowValue 5 = .ok (.getfield 32, 3) := by decide +kernel
theorem dX4_rowValue_8 : decode cX4_rowValue 8 = .ok (.iload_n 1, 1) := by decide +kernel
theorem dX4_rowValue_9 : decode cX4_rowValue 9 = .ok (.aload_n 0, 1) := by decide +kernel
theorem dX4_rowValue_10 : decode cX4_rowValue 10 = .ok (.getfield 9, 3) := by decide +kernel
theorem dX4_rowValue_13 : decode cX4_rowValue 13 = .ok (.invokevirtual 169, 3) := by decide +kernel
theorem dX4_rowValue_16 : decode cX4_rowValue 16 = .ok (.ireturn, 1) := by decide +kernel
theorem dX4_rowValue_17 : decode cX4_rowValue 17 = .ok (.iload_n 2, 1) := by decide +kernel
theorem dX4_rowValue_18 : decode cX4_rowValue 18 = .ok (.iconst 1, 1) := by decide +kernel
theorem dX4_rowValue_19 : decode cX4_rowValue 19 = .ok (.if_icmp .ne 9, 3) := by decide +kernel
theorem dX4_rowValue_22 : decode cX4_rowValue 22 = .ok (.aload_n 0, 1) := by decide +kernel
theorem dX4_rowValue_23 : decode cX4_rowValue 23 = .ok (.iload_n 1, 1) := by decide +kernel
theorem dX4_rowValue_24 : decode cX4_rowValue 24 = .ok (.invokevirtual 172, 3) := by decide +kernel
theorem dX4_rowValue_27 : decode cX4_rowValue 27 = .ok (.ireturn, 1) := by decide +kernel
theorem dX4_rowValue_28 : decode cX4_rowValue 28 = .ok (.iload_n 2, 1) := by decide +kernel
theorem dX4_rowValue_29 : decode cX4_rowValue 29 = .ok (.iconst 2, 1) := by decide +kernel
theorem dX4_rowValue_30 : decode cX4_rowValue 30 = .ok (.if_icmp .ne 9, 3) := by decide +kernel
theorem dX4_rowValue_33 : decode cX4_rowValue 33 = .ok (.aload_n 0, 1) := by decide +kernel
theorem dX4_rowValue_34 : decode cX4_rowValue 34 = .ok (.iload_n 1, 1) := by decide +kernel
theorem dX4_rowValue_35 : decode cX4_rowValue 35 = .ok (.invokevirtual 175, 3) := by decide +kernel
theorem dX4_rowValue_38 : decode cX4_rowValue 38 = .ok (.ireturn, 1) := by decide +kernel
theorem dX4_rowValue_39 : decode cX4_rowValue 39 = .ok (.iload_n 2, 1) := by decide +kernel
theorem dX4_rowValue_40 : decode cX4_rowValue 40 = .ok (.iconst 3, 1) := by decide +kernel
theorem dX4_rowValue_41 : decode cX4_rowValue 41 = .ok (.if_icmp .ne 21, 3) := by decide +kernel
theorem dX4_rowValue_44 : decode cX4_rowValue 44 = .ok (.aload_n 0, 1) := by decide +kernel
theorem dX4_rowValue_45 : decode cX4_rowValue 45 = .ok (.getfield 9, 3) := by decide +kernel
theorem dX4_rowValue_48 : decode cX4_rowValue 48 = .ok (.aload_n 0, 1) := by decide +kernel
theorem dX4_rowValue_49 : decode cX4_rowValue 49 = .ok (.getfield 32, 3) := by decide +kernel
theorem dX4_rowValue_52 : decode cX4_rowValue 52 = .ok (.iload_n 1, 1) := by decide +kernel
theorem dX4_rowValue_53 : decode cX4_rowValue 53 = .ok (.aload_n 0, 1) := by decide +kernel
theorem dX4_rowValue_54 : decode cX4_rowValue 54 = .ok (.getfield 9, 3) := by decide +kernel
theorem dX4_rowValue_57 : decode cX4_rowValue 57 = .ok (.invokevirtual 169, 3) := by decide +kernel
theorem dX4_rowValue_60 : decode cX4_rowValue 60 = .ok (.iadd, 1) := by decide +kernel
theorem dX4_rowValue_61 : decode cX4_rowValue 61 = .ok (.ireturn, 1) := by decide +kernel
theorem dX4_rowValue_62 : decode cX4_rowValue 62 = .ok (.aload_n 0, 1) := by decide +kernel
theorem dX4_rowValue_63 : decode cX4_rowValue 63 = .ok (.iload_n 1, 1) := by decide +kernel
theorem dX4_rowValue_64 : decode cX4_rowValue 64 = .ok (.invokevirtual 178, 3) := by decide +kernel
theorem dX4_rowValue_67 : decode cX4_rowValue 67 = .ok (.ireturn, 1) := by decide +kernel
theorem dX4_newShuttles_0 : decode cX4_newShuttles 0 = .ok (.iconst 0, 1) := by decide +kernel
theorem dX4_newShuttles_1 : decode cX4_newShuttles 1 = .ok (.istore_n 2, 1) := by decide +kernel
theorem dX4_newShuttles_2 : decode cX4_newShuttles 2 = .ok (.iconst 0, 1) := by decide +kernel
theorem dX4_newShuttles_3 : decode cX4_newShuttles 3 = .ok (.istore_n 3, 1) := by decide +kernel
theorem dX4_newShuttles_4 : decode cX4_newShuttles 4 = .ok (.iload_n 3, 1) := by decide +kernel
theorem dX4_newShuttles_5 : decode cX4_newShuttles 5 = .ok (.aload_n 0, 1) := by decide +kernel
theorem dX4_newShuttles_6 : decode cX4_newShuttles 6 = .ok (.getfield 9, 3) := by decide +kernel
theorem dX4_newShuttles_9 : decode cX4_newShuttles 9 = .ok (.if_icmp .ge 38, 3) := by decide +kernel
theorem dX4_newShuttles_12 : decode cX4_newShuttles 12 = .ok (.iload_n 2, 1) := by decide +kernel
theorem dX4_newShuttles_13 : decode cX4_newShuttles 13 = .ok (.aload_n 0, 1) := by decide +kernel
theorem dX4_newShuttles_14 : decode cX4_newShuttles 14 = .ok (.getfield 32, 3) := by decide +kernel
theorem dX4_newShuttles_17 : decode cX4_newShuttles 17 = .ok (.iload_n 3, 1) := by decide +kernel
theorem dX4_newShuttles_18 : decode cX4_newShuttles 18 = .ok (.iload_n 1, 1) := by decide +kernel
theorem dX4_newShuttles_19 : decode cX4_newShuttles 19 = .ok (.invokevirtual 131, 3) := by decide +kernel
theorem dX4_newShuttles_22 : decode cX4_newShuttles 22 = .ok (.ifCond .eq 16, 3) := by decide +kernel
theorem dX4_newShuttles_25 : decode cX4_newShuttles 25 = .ok (.aload_n 0, 1) := by decide +kernel
theorem dX4_newShuttles_26 : decode cX4_newShuttles 26 = .ok (.iload_n 3, 1) := by decide +kernel
theorem dX4_newShuttles_27 : decode cX4_newShuttles 27 = .ok (.iload_n 1, 1) := by decide +kernel
theorem dX4_newShuttles_28 : decode cX4_newShuttles 28 = .ok (.invokevirtual 181, 3) := by decide +kernel
theorem dX4_newShuttles_31 : decode cX4_newShuttles 31 = .ok (.ifCond .eq 7, 3) := by decide +kernel
theorem dX4_newShuttles_34 : decode cX4_newShuttles 34 = .ok (.iconst 1, 1) := by decide +kernel
theorem dX4_newShuttles_35 : decode cX4_newShuttles 35 = .ok (.goto 4, 3) := by decide +kernel
theorem dX4_newShuttles_38 : decode cX4_newShuttles 38 = .ok (.iconst 0, 1) := by decide +kernel
theorem dX4_newShuttles_39 : decode cX4_newShuttles 39 = .ok (.iadd, 1) := by decide +kernel
theorem dX4_newShuttles_40 : decode cX4_newShuttles 40 = .ok (.istore_n 2, 1) := by decide +kernel
theorem dX4_newShuttles_41 : decode cX4_newShuttles 41 = .ok (.iinc 3 1, 3) := by decide +kernel
theorem dX4_newShuttles_44 : decode cX4_newShuttles 44 = .ok (.goto (-40), 3) := by decide +kernel
theorem dX4_newShuttles_47 : decode cX4_newShuttles 47 = .ok (.iload_n 2, 1) := by decide +kernel
theorem dX4_newShuttles_48 : decode cX4_newShuttles 48 = .ok (.ireturn, 1) := by decide +kernel
theorem dX4_isNewRun_0 : decode cX4_isNewRun 0 = .ok (.aload_n 0, 1) := by decide +kernel
theorem dX4_isNewRun_1 : decode cX4_isNewRun 1 = .ok (.getfield 32, 3) := by decide +kernel
theorem dX4_isNewRun_4 : decode cX4_isNewRun 4 = .ok (.iload_n 1, 1) := by decide +kernel
theorem dX4_isNewRun_5 : decode cX4_isNewRun 5 = .ok (.iload_n 2, 1) := by decide +kernel
theorem dX4_isNewRun_6 : decode cX4_isNewRun 6 = .ok (.invokevirtual 104, 3) := by decide +kernel
theorem dX4_isNewRun_9 : decode cX4_isNewRun 9 = .ok (.istore_n 3, 1) := by decide +kernel
theorem dX4_isNewRun_10 : decode cX4_isNewRun 10 = .ok (.iload_n 1, 1) := by decide +kernel
theorem dX4_isNewRun_11 : decode cX4_isNewRun 11 = .ok (.istore 4, 2) := by decide +kernel
theorem dX4_isNewRun_13 : decode cX4_isNewRun 13 = .ok (.iload 4, 2) := by decide +kernel
theorem dX4_isNewRun_15 : decode cX4_isNewRun 15 = .ok (.aload_n 0, 1) := by decide +kernel
theorem dX4_isNewRun_16 : decode cX4_isNewRun 16 = .ok (.getfield 9, 3) := by decide +kernel
theorem dX4_isNewRun_19 : decode cX4_isNewRun 19 = .ok (.if_icmp .ge 41, 3) := by decide +kernel
theorem dX4_isNewRun_22 : decode cX4_isNewRun 22 = .ok (.aload_n 0, 1) := by decide +kernel
theorem dX4_isNewRun_23 : decode cX4_isNewRun 23 = .ok (.getfield 32, 3) := by decide +kernel
theorem dX4_isNewRun_26 : decode cX4_isNewRun 26 = .ok (.iload 4, 2) := by decide +kernel
theorem dX4_isNewRun_28 : decode cX4_isNewRun 28 = .ok (.iload_n 2, 1) := by decide +kernel
theorem dX4_isNewRun_29 : decode cX4_isNewRun 29 = .ok (.invokevirtual 104, 3) := by decide +kernel
theorem dX4_isNewRun_32 : decode cX4_isNewRun 32 = .ok (.iload_n 3, 1) := by decide +kernel
theorem dX4_isNewRun_33 : decode cX4_isNewRun 33 = .ok (.if_icmp .ne 27, 3) := by decide +kernel
theorem dX4_isNewRun_36 : decode cX4_isNewRun 36 = .ok (.aload_n 0, 1) := by decide +kernel
theorem dX4_isNewRun_37 : decode cX4_isNewRun 37 = .ok (.getfield 32, 3) := by decide +kernel
theorem dX4_isNewRun_40 : decode cX4_isNewRun 40 = .ok (.iload 4, 2) := by decide +kernel
theorem dX4_isNewRun_42 : decode cX4_isNewRun 42 = .ok (.iload_n 2, 1) := by decide +kernel
theorem dX4_isNewRun_43 : decode cX4_isNewRun 43 = .ok (.iconst 1, 1) := by decide +kernel
theorem dX4_isNewRun_44 : decode cX4_isNewRun 44 = .ok (.isub, 1) := by decide +kernel
theorem dX4_isNewRun_45 : decode cX4_isNewRun 45 = .ok (.invokevirtual 104, 3) := by decide +kernel
theorem dX4_isNewRun_48 : decode cX4_isNewRun 48 = .ok (.iload_n 3, 1) := by decide +kernel
theorem dX4_isNewRun_49 : decode cX4_isNewRun 49 = .ok (.if_icmp .ne 5, 3) := by decide +kernel
theorem dX4_isNewRun_52 : decode cX4_isNewRun 52 = .ok (.iconst 0, 1) := by decide +kernel
theorem dX4_isNewRun_53 : decode cX4_isNewRun 53 = .ok (.ireturn, 1) := by decide +kernel
theorem dX4_isNewRun_54 : decode cX4_isNewRun 54 = .ok (.iinc 4 1, 3) := by decide +kernel
theorem dX4_isNewRun_57 : decode cX4_isNewRun 57 = .ok (.goto (-44), 3) := by decide +kernel
theorem dX4_isNewRun_60 : decode cX4_isNewRun 60 = .ok (.iconst 1, 1) := by decide +kernel
theorem dX4_isNewRun_61 : decode cX4_isNewRun 61 = .ok (.ireturn, 1) := by decide +kernel
theorem dX4_wrongCells_0 : decode cX4_wrongCells 0 = .ok (.iconst 0, 1) := by decide +kernel
theorem dX4_wrongCells_1 : decode cX4_wrongCells 1 = .ok (.istore_n 2, 1) := by decide +kernel
theorem dX4_wrongCells_2 : decode cX4_wrongCells 2 = .ok (.iconst 0, 1) := by decide +kernel
theorem dX4_wrongCells_3 : decode cX4_wrongCells 3 = .ok (.istore_n 3, 1) := by decide +kernel
theorem dX4_wrongCells_4 : decode cX4_wrongCells 4 = .ok (.iload_n 3, 1) := by decide +kernel
theorem dX4_wrongCells_5 : decode cX4_wrongCells 5 = .ok (.aload_n 0, 1) := by decide +kernel
theorem dX4_wrongCells_6 : decode cX4_wrongCells 6 = .ok (.getfield 9, 3) := by decide +kernel
theorem dX4_wrongCells_9 : decode cX4_wrongCells 9 = .ok (.if_icmp .ge 26, 3) := by decide +kernel
theorem dX4_wrongCells_12 : decode cX4_wrongCells 12 = .ok (.iload_n 2, 1) := by decide +kernel
theorem dX4_wrongCells_13 : decode cX4_wrongCells 13 = .ok (.aload_n 0, 1) := by decide +kernel
theorem dX4_wrongCells_14 : decode cX4_wrongCells 14 = .ok (.iload_n 3, 1) := by decide +kernel
theorem dX4_wrongCells_15 : decode cX4_wrongCells 15 = .ok (.iload_n 1, 1) := by decide +kernel
theorem dX4_wrongCells_16 : decode cX4_wrongCells 16 = .ok (.invokevirtual 184, 3) := by decide +kernel
theorem dX4_wrongCells_19 : decode cX4_wrongCells 19 = .ok (.ifCond .eq 7, 3) := by decide +kernel
theorem dX4_wrongCells_22 : decode cX4_wrongCells 22 = .ok (.iconst 1, 1) := by decide +kernel
theorem dX4_wrongCells_23 : decode cX4_wrongCells 23 = .ok (.goto 4, 3) := by decide +kernel
theorem dX4_wrongCells_26 : decode cX4_wrongCells 26 = .ok (.iconst 0, 1) := by decide +kernel
theorem dX4_wrongCells_27 : decode cX4_wrongCells 27 = .ok (.iadd, 1) := by decide +kernel
theorem dX4_wrongCells_28 : decode cX4_wrongCells 28 = .ok (.istore_n 2, 1) := by decide +kernel
theorem dX4_wrongCells_29 : decode cX4_wrongCells 29 = .ok (.iinc 3 1, 3) := by decide +kernel
theorem dX4_wrongCells_32 : decode cX4_wrongCells 32 = .ok (.goto (-28), 3) := by decide +kernel
theorem dX4_wrongCells_35 : decode cX4_wrongCells 35 = .ok (.iload_n 2, 1) := by decide +kernel
theorem dX4_wrongCells_36 : decode cX4_wrongCells 36 = .ok (.ireturn, 1) := by decide +kernel
theorem dX4_lotsInRow_0 : decode cX4_lotsInRow 0 = .ok (.iconst 0, 1) := by decide +kernel
theorem dX4_lotsInRow_1 : decode cX4_lotsInRow 1 = .ok (.istore_n 2, 1) := by decide +kernel
theorem dX4_lotsInRow_2 : decode cX4_lotsInRow 2 = .ok (.iconst 0, 1) := by decide +kernel
theorem dX4_lotsInRow_3 : decode cX4_lotsInRow 3 = .ok (.istore_n 3, 1) := by decide +kernel
theorem dX4_lotsInRow_4 : decode cX4_lotsInRow 4 = .ok (.iload_n 3, 1) := by decide +kernel
theorem dX4_lotsInRow_5 : decode cX4_lotsInRow 5 = .ok (.aload_n 0, 1) := by decide +kernel
theorem dX4_lotsInRow_6 : decode cX4_lotsInRow 6 = .ok (.getfield 53, 3) := by decide +kernel
theorem dX4_lotsInRow_9 : decode cX4_lotsInRow 9 = .ok (.getfield 90, 3) := by decide +kernel
theorem dX4_lotsInRow_12 : decode cX4_lotsInRow 12 = .ok (.if_icmp .ge 33, 3) := by decide +kernel
theorem dX4_lotsInRow_15 : decode cX4_lotsInRow 15 = .ok (.iload_n 2, 1) := by decide +kernel
theorem dX4_lotsInRow_16 : decode cX4_lotsInRow 16 = .ok (.aload_n 0, 1) := by decide +kernel
theorem dX4_lotsInRow_17 : decode cX4_lotsInRow 17 = .ok (.getfield 35, 3) := by decide +kernel
theorem dX4_lotsInRow_20 : decode cX4_lotsInRow 20 = .ok (.iload_n 3, 1) := by decide +kernel
theorem dX4_lotsInRow_21 : decode cX4_lotsInRow 21 = .ok (.iload_n 1, 1) := by decide +kernel
theorem dX4_lotsInRow_22 : decode cX4_lotsInRow 22 = .ok (.aload_n 0, 1) := by decide +kernel
theorem dX4_lotsInRow_23 : decode cX4_lotsInRow 23 = .ok (.getfield 9, 3) := by decide +kernel
theorem dX4_lotsInRow_26 : decode cX4_lotsInRow 26 = .ok (.invokevirtual 187, 3) := by decide +kernel
theorem dX4_lotsInRow_29 : decode cX4_lotsInRow 29 = .ok (.ifCond .le 7, 3) := by decide +kernel
theorem dX4_lotsInRow_32 : decode cX4_lotsInRow 32 = .ok (.iconst 1, 1) := by decide +kernel
theorem dX4_lotsInRow_33 : decode cX4_lotsInRow 33 = .ok (.goto 4, 3) := by decide +kernel
theorem dX4_lotsInRow_36 : decode cX4_lotsInRow 36 = .ok (.iconst 0, 1) := by decide +kernel
theorem dX4_lotsInRow_37 : decode cX4_lotsInRow 37 = .ok (.iadd, 1) := by decide +kernel
theorem dX4_lotsInRow_38 : decode cX4_lotsInRow 38 = .ok (.istore_n 2, 1) := by decide +kernel
theorem dX4_lotsInRow_39 : decode cX4_lotsInRow 39 = .ok (.iinc 3 1, 3) := by decide +kernel
theorem dX4_lotsInRow_42 : decode cX4_lotsInRow 42 = .ok (.goto (-38), 3) := by decide +kernel
theorem dX4_lotsInRow_45 : decode cX4_lotsInRow 45 = .ok (.iload_n 2, 1) := by decide +kernel
theorem dX4_lotsInRow_46 : decode cX4_lotsInRow 46 = .ok (.ireturn, 1) := by decide +kernel
theorem dX4_firstWrongRow_0 : decode cX4_firstWrongRow 0 = .ok (.iconst 0, 1) := by decide +kernel
theorem dX4_firstWrongRow_1 : decode cX4_firstWrongRow 1 = .ok (.istore_n 1, 1) := by decide +kernel
theorem dX4_firstWrongRow_2 : decode cX4_firstWrongRow 2 = .ok (.iload_n 1, 1) := by decide +kernel
theorem dX4_firstWrongRow_3 : decode cX4_firstWrongRow 3 = .ok (.aload_n 0, 1) := by decide +kernel
theorem dX4_firstWrongRow_4 : decode cX4_firstWrongRow 4 = .ok (.getfield 60, 3) := by decide +kernel
theorem dX4_firstWrongRow_7 : decode cX4_firstWrongRow 7 = .ok (.if_icmp .ge 19, 3) := by decide +kernel
theorem dX4_firstWrongRow_10 : decode cX4_firstWrongRow 10 = .ok (.aload_n 0, 1) := by decide +kernel
theorem dX4_firstWrongRow_11 : decode cX4_firstWrongRow 11 = .ok (.iload_n 1, 1) := by decide +kernel
theorem dX4_firstWrongRow_12 : decode cX4_firstWrongRow 12 = .ok (.invokevirtual 175, 3) := by decide +kernel
theorem dX4_firstWrongRow_15 : decode cX4_firstWrongRow 15 = .ok (.ifCond .le 5, 3) := by decide +kernel
theorem dX4_firstWrongRow_18 : decode cX4_firstWrongRow 18 = .ok (.iload_n 1, 1) := by decide +kernel
theorem dX4_firstWrongRow_19 : decode cX4_firstWrongRow 19 = .ok (.ireturn, 1) := by decide +kernel
theorem dX4_firstWrongRow_20 : decode cX4_firstWrongRow 20 = .ok (.iinc 1 1, 3) := by decide +kernel
theorem dX4_firstWrongRow_23 : decode cX4_firstWrongRow 23 = .ok (.goto (-21), 3) := by decide +kernel
theorem dX4_firstWrongRow_26 : decode cX4_firstWrongRow 26 = .ok (.iconst (-1), 1) := by decide +kernel
theorem dX4_firstWrongRow_27 : decode cX4_firstWrongRow 27 = .ok (.ireturn, 1) := by decide +kernel
theorem dX4_lotValue_0 : decode cX4_lotValue 0 = .ok (.iload_n 2, 1) := by decide +kernel
theorem dX4_lotValue_1 : decode cX4_lotValue 1 = .ok (.ifCond .ne 15, 3) := by decide +kernel
theorem dX4_lotValue_4 : decode cX4_lotValue 4 = .ok (.aload_n 0, 1) := by decide +kernel
theorem dX4_lotValue_5 : decode cX4_lotValue 5 = .ok (.getfield 53, 3) := by decide +kernel
theorem dX4_lotValue_8 : decode cX4_lotValue 8 = .ok (.getfield 190, 3) := by decide +kernel
theorem dX4_lotValue_11 : decode cX4_lotValue 11 = .ok (.iload_n 1, 1) := by decide +kernel
theorem dX4_lotValue_12 : decode cX4_lotValue 12 = .ok (.invokevirtual 137, 3) := by decide +kernel
theorem dX4_lotValue_15 : decode cX4_lotValue 15 = .ok (.ireturn, 1) := by decide +kernel
theorem dX4_lotValue_16 : decode cX4_lotValue 16 = .ok (.iload_n 2, 1) := by decide +kernel
theorem dX4_lotValue_17 : decode cX4_lotValue 17 = .ok (.iconst 1, 1) := by decide +kernel
theorem dX4_lotValue_18 : decode cX4_lotValue 18 = .ok (.if_icmp .ne 15, 3) := by decide +kernel
theorem dX4_lotValue_21 : decode cX4_lotValue 21 = .ok (.aload_n 0, 1) := by decide +kernel
theorem dX4_lotValue_22 : decode cX4_lotValue 22 = .ok (.getfield 53, 3) := by decide +kernel
theorem dX4_lotValue_25 : decode cX4_lotValue 25 = .ok (.getfield 193, 3) := by decide +kernel
theorem dX4_lotValue_28 : decode cX4_lotValue 28 = .ok (.iload_n 1, 1) := by decide +kernel
theorem dX4_lotValue_29 : decode cX4_lotValue 29 = .ok (.invokevirtual 137, 3) := by decide +kernel
theorem dX4_lotValue_32 : decode cX4_lotValue 32 = .ok (.ireturn, 1) := by decide +kernel
theorem dX4_lotValue_33 : decode cX4_lotValue 33 = .ok (.iload_n 2, 1) := by decide +kernel
theorem dX4_lotValue_34 : decode cX4_lotValue 34 = .ok (.iconst 2, 1) := by decide +kernel
theorem dX4_lotValue_35 : decode cX4_lotValue 35 = .ok (.if_icmp .ne 15, 3) := by decide +kernel
theorem dX4_lotValue_38 : decode cX4_lotValue 38 = .ok (.aload_n 0, 1) := by decide +kernel
theorem dX4_lotValue_39 : decode cX4_lotValue 39 = .ok (.getfield 53, 3) := by decide +kernel
theorem dX4_lotValue_42 : decode cX4_lotValue 42 = .ok (.getfield 196, 3) := by decide +kernel
theorem dX4_lotValue_45 : decode cX4_lotValue 45 = .ok (.iload_n 1, 1) := by decide +kernel
theorem dX4_lotValue_46 : decode cX4_lotValue 46 = .ok (.invokevirtual 137, 3) := by decide +kernel
theorem dX4_lotValue_49 : decode cX4_lotValue 49 = .ok (.ireturn, 1) := by decide +kernel
theorem dX4_lotValue_50 : decode cX4_lotValue 50 = .ok (.iload_n 2, 1) := by decide +kernel
theorem dX4_lotValue_51 : decode cX4_lotValue 51 = .ok (.iconst 3, 1) := by decide +kernel
theorem dX4_lotValue_52 : decode cX4_lotValue 52 = .ok (.if_icmp .ne 15, 3) := by decide +kernel
theorem dX4_lotValue_55 : decode cX4_lotValue 55 = .ok (.aload_n 0, 1) := by decide +kernel
theorem dX4_lotValue_56 : decode cX4_lotValue 56 = .ok (.getfield 53, 3) := by decide +kernel
theorem dX4_lotValue_59 : decode cX4_lotValue 59 = .ok (.getfield 199, 3) := by decide +kernel
theorem dX4_lotValue_62 : decode cX4_lotValue 62 = .ok (.iload_n 1, 1) := by decide +kernel
theorem dX4_lotValue_63 : decode cX4_lotValue 63 = .ok (.invokevirtual 137, 3) := by decide +kernel
theorem dX4_lotValue_66 : decode cX4_lotValue 66 = .ok (.ireturn, 1) := by decide +kernel
theorem dX4_lotValue_67 : decode cX4_lotValue 67 = .ok (.iload_n 2, 1) := by decide +kernel
theorem dX4_lotValue_68 : decode cX4_lotValue 68 = .ok (.iconst 4, 1) := by decide +kernel
theorem dX4_lotValue_69 : decode cX4_lotValue 69 = .ok (.if_icmp .ne 17, 3) := by decide +kernel
theorem dX4_lotValue_72 : decode cX4_lotValue 72 = .ok (.aload_n 0, 1) := by decide +kernel
theorem dX4_lotValue_73 : decode cX4_lotValue 73 = .ok (.aload_n 0, 1) := by decide +kernel
theorem dX4_lotValue_74 : decode cX4_lotValue 74 = .ok (.getfield 35, 3) := by decide +kernel
theorem dX4_lotValue_77 : decode cX4_lotValue 77 = .ok (.iload_n 1, 1) := by decide +kernel
theorem dX4_lotValue_78 : decode cX4_lotValue 78 = .ok (.aload_n 0, 1) := by decide +kernel
theorem dX4_lotValue_79 : decode cX4_lotValue 79 = .ok (.getfield 60, 3) := by decide +kernel
theorem dX4_lotValue_82 : decode cX4_lotValue 82 = .ok (.invokevirtual 202, 3) := by decide +kernel
theorem dX4_lotValue_85 : decode cX4_lotValue 85 = .ok (.ireturn, 1) := by decide +kernel
theorem dX4_lotValue_86 : decode cX4_lotValue 86 = .ok (.aload_n 0, 1) := by decide +kernel
theorem dX4_lotValue_87 : decode cX4_lotValue 87 = .ok (.getfield 53, 3) := by decide +kernel
theorem dX4_lotValue_90 : decode cX4_lotValue 90 = .ok (.aload_n 0, 1) := by decide +kernel
theorem dX4_lotValue_91 : decode cX4_lotValue 91 = .ok (.getfield 53, 3) := by decide +kernel
theorem dX4_lotValue_94 : decode cX4_lotValue 94 = .ok (.getfield 190, 3) := by decide +kernel
theorem dX4_lotValue_97 : decode cX4_lotValue 97 = .ok (.iload_n 1, 1) := by decide +kernel
theorem dX4_lotValue_98 : decode cX4_lotValue 98 = .ok (.invokevirtual 137, 3) := by decide +kernel
theorem dX4_lotValue_101 : decode cX4_lotValue 101 = .ok (.invokevirtual 206, 3) := by decide +kernel
theorem dX4_lotValue_104 : decode cX4_lotValue 104 = .ok (.iload_n 1, 1) := by decide +kernel
theorem dX4_lotValue_105 : decode cX4_lotValue 105 = .ok (.if_icmp .ne 7, 3) := by decide +kernel
theorem dX4_lotValue_108 : decode cX4_lotValue 108 = .ok (.iconst 1, 1) := by decide +kernel
theorem dX4_lotValue_109 : decode cX4_lotValue 109 = .ok (.goto 4, 3) := by decide +kernel
theorem dX4_lotValue_112 : decode cX4_lotValue 112 = .ok (.iconst 0, 1) := by decide +kernel
theorem dX4_lotValue_113 : decode cX4_lotValue 113 = .ok (.ireturn, 1) := by decide +kernel
theorem dX4_colorValue_0 : decode cX4_colorValue 0 = .ok (.iload_n 2, 1) := by decide +kernel
theorem dX4_colorValue_1 : decode cX4_colorValue 1 = .ok (.ifCond .ne 17, 3) := by decide +kernel
theorem dX4_colorValue_4 : decode cX4_colorValue 4 = .ok (.aload_n 0, 1) := by decide +kernel
theorem dX4_colorValue_5 : decode cX4_colorValue 5 = .ok (.aload_n 0, 1) := by decide +kernel
theorem dX4_colorValue_6 : decode cX4_colorValue 6 = .ok (.getfield 28, 3) := by decide +kernel
theorem dX4_colorValue_9 : decode cX4_colorValue 9 = .ok (.iload_n 1, 1) := by decide +kernel
theorem dX4_colorValue_10 : decode cX4_colorValue 10 = .ok (.aload_n 0, 1) := by decide +kernel
theorem dX4_colorValue_11 : decode cX4_colorValue 11 = .ok (.getfield 15, 3) := by decide +kernel
theorem dX4_colorValue_14 : decode cX4_colorValue 14 = .ok (.invokevirtual 202, 3) := by decide +kernel
theorem dX4_colorValue_17 : decode cX4_colorValue 17 = .ok (.ireturn, 1) := by decide +kernel
theorem dX4_colorValue_18 : decode cX4_colorValue 18 = .ok (.iload_n 2, 1) := by decide +kernel
theorem dX4_colorValue_19 : decode cX4_colorValue 19 = .ok (.iconst 1, 1) := by decide +kernel
theorem dX4_colorValue_20 : decode cX4_colorValue 20 = .ok (.if_icmp .ne 17, 3) := by decide +kernel
theorem dX4_colorValue_23 : decode cX4_colorValue 23 = .ok (.aload_n 0, 1) := by decide +kernel
theorem dX4_colorValue_24 : decode cX4_colorValue 24 = .ok (.aload_n 0, 1) := by decide +kernel
theorem dX4_colorValue_25 : decode cX4_colorValue 25 = .ok (.getfield 32, 3) := by decide +kernel
theorem dX4_colorValue_28 : decode cX4_colorValue 28 = .ok (.iload_n 1, 1) := by decide +kernel
theorem dX4_colorValue_29 : decode cX4_colorValue 29 = .ok (.aload_n 0, 1) := by decide +kernel
theorem dX4_colorValue_30 : decode cX4_colorValue 30 = .ok (.getfield 60, 3) := by decide +kernel
theorem dX4_colorValue_33 : decode cX4_colorValue 33 = .ok (.invokevirtual 202, 3) := by decide +kernel
theorem dX4_colorValue_36 : decode cX4_colorValue 36 = .ok (.ireturn, 1) := by decide +kernel
theorem dX4_colorValue_37 : decode cX4_colorValue 37 = .ok (.iload_n 2, 1) := by decide +kernel
theorem dX4_colorValue_38 : decode cX4_colorValue 38 = .ok (.iconst 2, 1) := by decide +kernel
theorem dX4_colorValue_39 : decode cX4_colorValue 39 = .ok (.if_icmp .ne 12, 3) := by decide +kernel
theorem dX4_colorValue_42 : decode cX4_colorValue 42 = .ok (.aload_n 0, 1) := by decide +kernel
theorem dX4_colorValue_43 : decode cX4_colorValue 43 = .ok (.getfield 53, 3) := by decide +kernel
theorem dX4_colorValue_46 : decode cX4_colorValue 46 = .ok (.iload_n 1, 1) := by decide +kernel
theorem dX4_colorValue_47 : decode cX4_colorValue 47 = .ok (.invokevirtual 143, 3) := by decide +kernel
theorem dX4_colorValue_50 : decode cX4_colorValue 50 = .ok (.ireturn, 1) := by decide +kernel
theorem dX4_colorValue_51 : decode cX4_colorValue 51 = .ok (.iload_n 2, 1) := by decide +kernel
theorem dX4_colorValue_52 : decode cX4_colorValue 52 = .ok (.iconst 3, 1) := by decide +kernel
theorem dX4_colorValue_53 : decode cX4_colorValue 53 = .ok (.if_icmp .ne 12, 3) := by decide +kernel
theorem dX4_colorValue_56 : decode cX4_colorValue 56 = .ok (.aload_n 0, 1) := by decide +kernel
theorem dX4_colorValue_57 : decode cX4_colorValue 57 = .ok (.getfield 53, 3) := by decide +kernel
theorem dX4_colorValue_60 : decode cX4_colorValue 60 = .ok (.iload_n 1, 1) := by decide +kernel
theorem dX4_colorValue_61 : decode cX4_colorValue 61 = .ok (.invokevirtual 209, 3) := by decide +kernel
theorem dX4_colorValue_64 : decode cX4_colorValue 64 = .ok (.ireturn, 1) := by decide +kernel
theorem dX4_colorValue_65 : decode cX4_colorValue 65 = .ok (.iload_n 2, 1) := by decide +kernel
theorem dX4_colorValue_66 : decode cX4_colorValue 66 = .ok (.iconst 4, 1) := by decide +kernel
theorem dX4_colorValue_67 : decode cX4_colorValue 67 = .ok (.if_icmp .ne 9, 3) := by decide +kernel
theorem dX4_colorValue_70 : decode cX4_colorValue 70 = .ok (.aload_n 0, 1) := by decide +kernel
theorem dX4_colorValue_71 : decode cX4_colorValue 71 = .ok (.iload_n 1, 1) := by decide +kernel
theorem dX4_colorValue_72 : decode cX4_colorValue 72 = .ok (.invokevirtual 212, 3) := by decide +kernel
theorem dX4_colorValue_75 : decode cX4_colorValue 75 = .ok (.ireturn, 1) := by decide +kernel
theorem dX4_colorValue_76 : decode cX4_colorValue 76 = .ok (.aload_n 0, 1) := by decide +kernel
theorem dX4_colorValue_77 : decode cX4_colorValue 77 = .ok (.iload_n 1, 1) := by decide +kernel
theorem dX4_colorValue_78 : decode cX4_colorValue 78 = .ok (.invokevirtual 215, 3) := by decide +kernel
theorem dX4_colorValue_81 : decode cX4_colorValue 81 = .ok (.ireturn, 1) := by decide +kernel
theorem dX4_cellsIn_0 : decode cX4_cellsIn 0 = .ok (.iconst 0, 1) := by decide +kernel
theorem dX4_cellsIn_1 : decode cX4_cellsIn 1 = .ok (.istore 4, 2) := by decide +kernel
theorem dX4_cellsIn_3 : decode cX4_cellsIn 3 = .ok (.iconst 0, 1) := by decide +kernel
theorem dX4_cellsIn_4 : decode cX4_cellsIn 4 = .ok (.istore 5, 2) := by decide +kernel
theorem dX4_cellsIn_6 : decode cX4_cellsIn 6 = .ok (.iload 5, 2) := by decide +kernel
theorem dX4_cellsIn_8 : decode cX4_cellsIn 8 = .ok (.iload_n 3, 1) := by decide +kernel
theorem dX4_cellsIn_9 : decode cX4_cellsIn 9 = .ok (.if_icmp .ge 25, 3) := by decide +kernel
theorem dX4_cellsIn_12 : decode cX4_cellsIn 12 = .ok (.iload 4, 2) := by decide +kernel
theorem dX4_cellsIn_14 : decode cX4_cellsIn 14 = .ok (.aload_n 1, 1) := by decide +kernel
theorem dX4_cellsIn_15 : decode cX4_cellsIn 15 = .ok (.iload_n 2, 1) := by decide +kernel
theorem dX4_cellsIn_16 : decode cX4_cellsIn 16 = .ok (.iload 5, 2) := by decide +kernel
theorem dX4_cellsIn_18 : decode cX4_cellsIn 18 = .ok (.aload_n 0, 1) := by decide +kernel
theorem dX4_cellsIn_19 : decode cX4_cellsIn 19 = .ok (.getfield 9, 3) := by decide +kernel
theorem dX4_cellsIn_22 : decode cX4_cellsIn 22 = .ok (.invokevirtual 187, 3) := by decide +kernel
theorem dX4_cellsIn_25 : decode cX4_cellsIn 25 = .ok (.iadd, 1) := by decide +kernel
theorem dX4_cellsIn_26 : decode cX4_cellsIn 26 = .ok (.istore 4, 2) := by decide +kernel
theorem dX4_cellsIn_28 : decode cX4_cellsIn 28 = .ok (.iinc 5 1, 3) := by decide +kernel
theorem dX4_cellsIn_31 : decode cX4_cellsIn 31 = .ok (.goto (-25), 3) := by decide +kernel
theorem dX4_cellsIn_34 : decode cX4_cellsIn 34 = .ok (.iload 4, 2) := by decide +kernel
theorem dX4_cellsIn_36 : decode cX4_cellsIn 36 = .ok (.ireturn, 1) := by decide +kernel
theorem dX4_wovenRuns_0 : decode cX4_wovenRuns 0 = .ok (.iconst 0, 1) := by decide +kernel
theorem dX4_wovenRuns_1 : decode cX4_wovenRuns 1 = .ok (.istore_n 2, 1) := by decide +kernel
theorem dX4_wovenRuns_2 : decode cX4_wovenRuns 2 = .ok (.iconst 0, 1) := by decide +kernel
theorem dX4_wovenRuns_3 : decode cX4_wovenRuns 3 = .ok (.istore_n 3, 1) := by decide +kernel
theorem dX4_wovenRuns_4 : decode cX4_wovenRuns 4 = .ok (.iload_n 3, 1) := by decide +kernel
theorem dX4_wovenRuns_5 : decode cX4_wovenRuns 5 = .ok (.aload_n 0, 1) := by decide +kernel
theorem dX4_wovenRuns_6 : decode cX4_wovenRuns 6 = .ok (.getfield 60, 3) := by decide +kernel
theorem dX4_wovenRuns_9 : decode cX4_wovenRuns 9 = .ok (.if_icmp .ge 25, 3) := by decide +kernel
theorem dX4_wovenRuns_12 : decode cX4_wovenRuns 12 = .ok (.iload_n 2, 1) := by decide +kernel
theorem dX4_wovenRuns_13 : decode cX4_wovenRuns 13 = .ok (.aload_n 0, 1) := by decide +kernel
theorem dX4_wovenRuns_14 : decode cX4_wovenRuns 14 = .ok (.getfield 32, 3) := by decide +kernel
theorem dX4_wovenRuns_17 : decode cX4_wovenRuns 17 = .ok (.iload_n 1, 1) := by decide +kernel
theorem dX4_wovenRuns_18 : decode cX4_wovenRuns 18 = .ok (.iload_n 3, 1) := by decide +kernel
theorem dX4_wovenRuns_19 : decode cX4_wovenRuns 19 = .ok (.aload_n 0, 1) := by decide +kernel
theorem dX4_wovenRuns_20 : decode cX4_wovenRuns 20 = .ok (.getfield 9, 3) := by decide +kernel
theorem dX4_wovenRuns_23 : decode cX4_wovenRuns 23 = .ok (.invokevirtual 218, 3) := by decide +kernel
theorem dX4_wovenRuns_26 : decode cX4_wovenRuns 26 = .ok (.iadd, 1) := by decide +kernel
theorem dX4_wovenRuns_27 : decode cX4_wovenRuns 27 = .ok (.istore_n 2, 1) := by decide +kernel
theorem dX4_wovenRuns_28 : decode cX4_wovenRuns 28 = .ok (.iinc 3 1, 3) := by decide +kernel
theorem dX4_wovenRuns_31 : decode cX4_wovenRuns 31 = .ok (.goto (-27), 3) := by decide +kernel
theorem dX4_wovenRuns_34 : decode cX4_wovenRuns 34 = .ok (.iload_n 2, 1) := by decide +kernel
theorem dX4_wovenRuns_35 : decode cX4_wovenRuns 35 = .ok (.ireturn, 1) := by decide +kernel
theorem dX4_unitsToCome_0 : decode cX4_unitsToCome 0 = .ok (.iconst 0, 1) := by decide +kernel
theorem dX4_unitsToCome_1 : decode cX4_unitsToCome 1 = .ok (.istore_n 2, 1) := by decide +kernel
theorem dX4_unitsToCome_2 : decode cX4_unitsToCome 2 = .ok (.aload_n 0, 1) := by decide +kernel
theorem dX4_unitsToCome_3 : decode cX4_unitsToCome 3 = .ok (.getfield 60, 3) := by decide +kernel
theorem dX4_unitsToCome_6 : decode cX4_unitsToCome 6 = .ok (.istore_n 3, 1) := by decide +kernel
theorem dX4_unitsToCome_7 : decode cX4_unitsToCome 7 = .ok (.iload_n 3, 1) := by decide +kernel
theorem dX4_unitsToCome_8 : decode cX4_unitsToCome 8 = .ok (.aload_n 0, 1) := by decide +kernel
theorem dX4_unitsToCome_9 : decode cX4_unitsToCome 9 = .ok (.getfield 15, 3) := by decide +kernel
theorem dX4_unitsToCome_12 : decode cX4_unitsToCome 12 = .ok (.if_icmp .ge 25, 3) := by decide +kernel
theorem dX4_unitsToCome_15 : decode cX4_unitsToCome 15 = .ok (.iload_n 2, 1) := by decide +kernel
theorem dX4_unitsToCome_16 : decode cX4_unitsToCome 16 = .ok (.aload_n 0, 1) := by decide +kernel
theorem dX4_unitsToCome_17 : decode cX4_unitsToCome 17 = .ok (.getfield 28, 3) := by decide +kernel
theorem dX4_unitsToCome_20 : decode cX4_unitsToCome 20 = .ok (.iload_n 1, 1) := by decide +kernel
theorem dX4_unitsToCome_21 : decode cX4_unitsToCome 21 = .ok (.iload_n 3, 1) := by decide +kernel
theorem dX4_unitsToCome_22 : decode cX4_unitsToCome 22 = .ok (.aload_n 0, 1) := by decide +kernel
theorem dX4_unitsToCome_23 : decode cX4_unitsToCome 23 = .ok (.getfield 9, 3) := by decide +kernel
theorem dX4_unitsToCome_26 : decode cX4_unitsToCome 26 = .ok (.invokevirtual 139, 3) := by decide +kernel
theorem dX4_unitsToCome_29 : decode cX4_unitsToCome 29 = .ok (.iadd, 1) := by decide +kernel
theorem dX4_unitsToCome_30 : decode cX4_unitsToCome 30 = .ok (.istore_n 2, 1) := by decide +kernel
theorem dX4_unitsToCome_31 : decode cX4_unitsToCome 31 = .ok (.iinc 3 1, 3) := by decide +kernel
theorem dX4_unitsToCome_34 : decode cX4_unitsToCome 34 = .ok (.goto (-27), 3) := by decide +kernel
theorem dX4_unitsToCome_37 : decode cX4_unitsToCome 37 = .ok (.iload_n 2, 1) := by decide +kernel
theorem dX4_unitsToCome_38 : decode cX4_unitsToCome 38 = .ok (.ireturn, 1) := by decide +kernel
theorem dX4_possibleRows_0 : decode cX4_possibleRows 0 = .ok (.aload_n 0, 1) := by decide +kernel
theorem dX4_possibleRows_1 : decode cX4_possibleRows 1 = .ok (.getfield 15, 3) := by decide +kernel
theorem dX4_possibleRows_4 : decode cX4_possibleRows 4 = .ok (.aload_n 0, 1) := by decide +kernel
theorem dX4_possibleRows_5 : decode cX4_possibleRows 5 = .ok (.getfield 60, 3) := by decide +kernel
theorem dX4_possibleRows_8 : decode cX4_possibleRows 8 = .ok (.isub, 1) := by decide +kernel
theorem dX4_possibleRows_9 : decode cX4_possibleRows 9 = .ok (.istore_n 1, 1) := by decide +kernel
theorem dX4_possibleRows_10 : decode cX4_possibleRows 10 = .ok (.iconst 0, 1) := by decide +kernel
theorem dX4_possibleRows_11 : decode cX4_possibleRows 11 = .ok (.istore_n 2, 1) := by decide +kernel
theorem dX4_possibleRows_12 : decode cX4_possibleRows 12 = .ok (.iload_n 2, 1) := by decide +kernel
theorem dX4_possibleRows_13 : decode cX4_possibleRows 13 = .ok (.bipush 8, 2) := by decide +kernel
theorem dX4_possibleRows_15 : decode cX4_possibleRows 15 = .ok (.if_icmp .ge 19, 3) := by decide +kernel
theorem dX4_possibleRows_18 : decode cX4_possibleRows 18 = .ok (.iload_n 1, 1) := by decide +kernel
theorem dX4_possibleRows_19 : decode cX4_possibleRows 19 = .ok (.aload_n 0, 1) := by decide +kernel
theorem dX4_possibleRows_20 : decode cX4_possibleRows 20 = .ok (.iload_n 2, 1) := by decide +kernel
theorem dX4_possibleRows_21 : decode cX4_possibleRows 21 = .ok (.invokevirtual 221, 3) := by decide +kernel
theorem dX4_possibleRows_24 : decode cX4_possibleRows 24 = .ok (.invokestatic 224, 3) := by decide +kernel
theorem dX4_possibleRows_27 : decode cX4_possibleRows 27 = .ok (.istore_n 1, 1) := by decide +kernel
theorem dX4_possibleRows_28 : decode cX4_possibleRows 28 = .ok (.iinc 2 1, 3) := by decide +kernel
theorem dX4_possibleRows_31 : decode cX4_possibleRows 31 = .ok (.goto (-19), 3) := by decide +kernel
theorem dX4_possibleRows_34 : decode cX4_possibleRows 34 = .ok (.iload_n 1, 1) := by decide +kernel
theorem dX4_possibleRows_35 : decode cX4_possibleRows 35 = .ok (.ireturn, 1) := by decide +kernel
theorem dX4_rowsWithYarnOf_0 : decode cX4_rowsWithYarnOf 0 = .ok (.aload_n 0, 1) := by decide +kernel
theorem dX4_rowsWithYarnOf_1 : decode cX4_rowsWithYarnOf 1 = .ok (.getfield 53, 3) := by decide +kernel
theorem dX4_rowsWithYarnOf_4 : decode cX4_rowsWithYarnOf 4 = .ok (.iload_n 1, 1) := by decide +kernel
theorem dX4_rowsWithYarnOf_5 : decode cX4_rowsWithYarnOf 5 = .ok (.invokevirtual 143, 3) := by decide +kernel
theorem dX4_rowsWithYarnOf_8 : decode cX4_rowsWithYarnOf 8 = .ok (.istore_n 2, 1) := by decide +kernel
theorem dX4_rowsWithYarnOf_9 : decode cX4_rowsWithYarnOf 9 = .ok (.aload_n 0, 1) := by decide +kernel
theorem dX4_rowsWithYarnOf_10 : decode cX4_rowsWithYarnOf 10 = .ok (.getfield 60, 3) := by decide +kernel
theorem dX4_rowsWithYarnOf_13 : decode cX4_rowsWithYarnOf 13 = .ok (.istore_n 3, 1) := by decide +kernel
theorem dX4_rowsWithYarnOf_14 : decode cX4_rowsWithYarnOf 14 = .ok (.iload_n 3, 1) := by decide +kernel
theorem dX4_rowsWithYarnOf_15 : decode cX4_rowsWithYarnOf 15 = .ok (.aload_n 0, 1) := by decide +kernel
theorem dX4_rowsWithYarnOf_16 : decode cX4_rowsWithYarnOf 16 = .ok (.getfield 15, 3) := by decide +kernel
theorem dX4_rowsWithYarnOf_19 : decode cX4_rowsWithYarnOf 19 = .ok (.if_icmp .ge 36, 3) := by decide +kernel
theorem dX4_rowsWithYarnOf_22 : decode cX4_rowsWithYarnOf 22 = .ok (.iload_n 2, 1) := by decide +kernel
theorem dX4_rowsWithYarnOf_23 : decode cX4_rowsWithYarnOf 23 = .ok (.aload_n 0, 1) := by decide +kernel
theorem dX4_rowsWithYarnOf_24 : decode cX4_rowsWithYarnOf 24 = .ok (.getfield 28, 3) := by decide +kernel
theorem dX4_rowsWithYarnOf_27 : decode cX4_rowsWithYarnOf 27 = .ok (.iload_n 1, 1) := by decide +kernel
theorem dX4_rowsWithYarnOf_28 : decode cX4_rowsWithYarnOf 28 = .ok (.iload_n 3, 1) := by decide +kernel
theorem dX4_rowsWithYarnOf_29 : decode cX4_rowsWithYarnOf 29 = .ok (.aload_n 0, 1) := by decide +kernel
theorem dX4_rowsWithYarnOf_30 : decode cX4_rowsWithYarnOf 30 = .ok (.getfield 9, 3) := by decide +kernel
theorem dX4_rowsWithYarnOf_33 : decode cX4_rowsWithYarnOf 33 = .ok (.invokevirtual 139, 3) := by decide +kernel
theorem dX4_rowsWithYarnOf_36 : decode cX4_rowsWithYarnOf 36 = .ok (.isub, 1) := by decide +kernel
theorem dX4_rowsWithYarnOf_37 : decode cX4_rowsWithYarnOf 37 = .ok (.istore_n 2, 1) := by decide +kernel
theorem dX4_rowsWithYarnOf_38 : decode cX4_rowsWithYarnOf 38 = .ok (.iload_n 2, 1) := by decide +kernel
theorem dX4_rowsWithYarnOf_39 : decode cX4_rowsWithYarnOf 39 = .ok (.ifCond .ge 10, 3) := by decide +kernel
theorem dX4_rowsWithYarnOf_42 : decode cX4_rowsWithYarnOf 42 = .ok (.iload_n 3, 1) := by decide +kernel
theorem dX4_rowsWithYarnOf_43 : decode cX4_rowsWithYarnOf 43 = .ok (.aload_n 0, 1) := by decide +kernel
theorem dX4_rowsWithYarnOf_44 : decode cX4_rowsWithYarnOf 44 = .ok (.getfield 60, 3) := by decide +kernel
theorem dX4_rowsWithYarnOf_47 : decode cX4_rowsWithYarnOf 47 = .ok (.isub, 1) := by decide +kernel
theorem dX4_rowsWithYarnOf_48 : decode cX4_rowsWithYarnOf 48 = .ok (.ireturn, 1) := by decide +kernel
theorem dX4_rowsWithYarnOf_49 : decode cX4_rowsWithYarnOf 49 = .ok (.iinc 3 1, 3) := by decide +kernel
theorem dX4_rowsWithYarnOf_52 : decode cX4_rowsWithYarnOf 52 = .ok (.goto (-38), 3) := by decide +kernel
theorem dX4_rowsWithYarnOf_55 : decode cX4_rowsWithYarnOf 55 = .ok (.aload_n 0, 1) := by decide +kernel
theorem dX4_rowsWithYarnOf_56 : decode cX4_rowsWithYarnOf 56 = .ok (.getfield 15, 3) := by decide +kernel
theorem dX4_rowsWithYarnOf_59 : decode cX4_rowsWithYarnOf 59 = .ok (.aload_n 0, 1) := by decide +kernel
theorem dX4_rowsWithYarnOf_60 : decode cX4_rowsWithYarnOf 60 = .ok (.getfield 60, 3) := by decide +kernel
theorem dX4_rowsWithYarnOf_63 : decode cX4_rowsWithYarnOf 63 = .ok (.isub, 1) := by decide +kernel
theorem dX4_rowsWithYarnOf_64 : decode cX4_rowsWithYarnOf 64 = .ok (.ireturn, 1) := by decide +kernel
theorem dX4_slitRows_0 : decode cX4_slitRows 0 = .ok (.aload_n 0, 1) := by decide +kernel
theorem dX4_slitRows_1 : decode cX4_slitRows 1 = .ok (.iload_n 1, 1) := by decide +kernel
theorem dX4_slitRows_2 : decode cX4_slitRows 2 = .ok (.iload_n 2, 1) := by decide +kernel
theorem dX4_slitRows_3 : decode cX4_slitRows 3 = .ok (.iconst 1, 1) := by decide +kernel
theorem dX4_slitRows_4 : decode cX4_slitRows 4 = .ok (.isub, 1) := by decide +kernel
theorem dX4_slitRows_5 : decode cX4_slitRows 5 = .ok (.invokevirtual 229, 3) := by decide +kernel
theorem dX4_slitRows_8 : decode cX4_slitRows 8 = .ok (.ifCond .eq 5, 3) := by decide +kernel
theorem dX4_slitRows_11 : decode cX4_slitRows 11 = .ok (.iconst 0, 1) := by decide +kernel
theorem dX4_slitRows_12 : decode cX4_slitRows 12 = .ok (.ireturn, 1) := by decide +kernel
theorem dX4_slitRows_13 : decode cX4_slitRows 13 = .ok (.iconst 0, 1) := by decide +kernel
theorem dX4_slitRows_14 : decode cX4_slitRows 14 = .ok (.istore_n 3, 1) := by decide +kernel
theorem dX4_slitRows_15 : decode cX4_slitRows 15 = .ok (.iload_n 2, 1) := by decide +kernel
theorem dX4_slitRows_16 : decode cX4_slitRows 16 = .ok (.istore 4, 2) := by decide +kernel
theorem dX4_slitRows_18 : decode cX4_slitRows 18 = .ok (.iload 4, 2) := by decide +kernel
theorem dX4_slitRows_20 : decode cX4_slitRows 20 = .ok (.aload_n 0, 1) := by decide +kernel
theorem dX4_slitRows_21 : decode cX4_slitRows 21 = .ok (.getfield 60, 3) := by decide +kernel
theorem dX4_slitRows_24 : decode cX4_slitRows 24 = .ok (.if_icmp .ge 22, 3) := by decide +kernel
theorem dX4_slitRows_27 : decode cX4_slitRows 27 = .ok (.aload_n 0, 1) := by decide +kernel
theorem dX4_slitRows_28 : decode cX4_slitRows 28 = .ok (.iload_n 1, 1) := by decide +kernel
theorem dX4_slitRows_29 : decode cX4_slitRows 29 = .ok (.iload 4, 2) := by decide +kernel
theorem dX4_slitRows_31 : decode cX4_slitRows 31 = .ok (.invokevirtual 229, 3) := by decide +kernel
theorem dX4_slitRows_34 : decode cX4_slitRows 34 = .ok (.ifCond .eq 12, 3) := by decide +kernel
theorem dX4_slitRows_37 : decode cX4_slitRows 37 = .ok (.iinc 3 1, 3) := by decide +kernel
theorem dX4_slitRows_40 : decode cX4_slitRows 40 = .ok (.iinc 4 1, 3) := by decide +kernel
theorem dX4_slitRows_43 : decode cX4_slitRows 43 = .ok (.goto (-25), 3) := by decide +kernel
theorem dX4_slitRows_46 : decode cX4_slitRows 46 = .ok (.iload_n 3, 1) := by decide +kernel
theorem dX4_slitRows_47 : decode cX4_slitRows 47 = .ok (.ireturn, 1) := by decide +kernel
theorem dX4_parts_0 : decode cX4_parts 0 = .ok (.iload_n 2, 1) := by decide +kernel
theorem dX4_parts_1 : decode cX4_parts 1 = .ok (.aload_n 0, 1) := by decide +kernel
theorem dX4_parts_2 : decode cX4_parts 2 = .ok (.getfield 60, 3) := by decide +kernel
theorem dX4_parts_5 : decode cX4_parts 5 = .ok (.if_icmp .ge 40, 3) := by decide +kernel
theorem dX4_parts_8 : decode cX4_parts 8 = .ok (.iload_n 1, 1) := by decide +kernel
theorem dX4_parts_9 : decode cX4_parts 9 = .ok (.iconst 1, 1) := by decide +kernel
theorem dX4_parts_10 : decode cX4_parts 10 = .ok (.iadd, 1) := by decide +kernel
theorem dX4_parts_11 : decode cX4_parts 11 = .ok (.aload_n 0, 1) := by decide +kernel
theorem dX4_parts_12 : decode cX4_parts 12 = .ok (.getfield 9, 3) := by decide +kernel
theorem dX4_parts_15 : decode cX4_parts 15 = .ok (.if_icmp .ge 30, 3) := by decide +kernel
theorem dX4_parts_18 : decode cX4_parts 18 = .ok (.aload_n 0, 1) := by decide +kernel
theorem dX4_parts_19 : decode cX4_parts 19 = .ok (.getfield 32, 3) := by decide +kernel
theorem dX4_parts_22 : decode cX4_parts 22 = .ok (.iload_n 1, 1) := by decide +kernel
theorem dX4_parts_23 : decode cX4_parts 23 = .ok (.iload_n 2, 1) := by decide +kernel
theorem dX4_parts_24 : decode cX4_parts 24 = .ok (.invokevirtual 104, 3) := by decide +kernel
theorem dX4_parts_27 : decode cX4_parts 27 = .ok (.aload_n 0, 1) := by decide +kernel
theorem dX4_parts_28 : decode cX4_parts 28 = .ok (.getfield 32, 3) := by decide +kernel
theorem dX4_parts_31 : decode cX4_parts 31 = .ok (.iload_n 1, 1) := by decide +kernel
theorem dX4_parts_32 : decode cX4_parts 32 = .ok (.iconst 1, 1) := by decide +kernel
theorem dX4_parts_33 : decode cX4_parts 33 = .ok (.iadd, 1) := by decide +kernel
theorem dX4_parts_34 : decode cX4_parts 34 = .ok (.iload_n 2, 1) := by decide +kernel
theorem dX4_parts_35 : decode cX4_parts 35 = .ok (.invokevirtual 104, 3) := by decide +kernel
theorem dX4_parts_38 : decode cX4_parts 38 = .ok (.if_icmp .eq 7, 3) := by decide +kernel
theorem dX4_parts_41 : decode cX4_parts 41 = .ok (.iconst 1, 1) := by decide +kernel
theorem dX4_parts_42 : decode cX4_parts 42 = .ok (.goto 4, 3) := by decide +kernel
theorem dX4_parts_45 : decode cX4_parts 45 = .ok (.iconst 0, 1) := by decide +kernel
theorem dX4_parts_46 : decode cX4_parts 46 = .ok (.ireturn, 1) := by decide +kernel
theorem dX4_slitCount_0 : decode cX4_slitCount 0 = .ok (.iconst 0, 1) := by decide +kernel
theorem dX4_slitCount_1 : decode cX4_slitCount 1 = .ok (.istore_n 2, 1) := by decide +kernel
theorem dX4_slitCount_2 : decode cX4_slitCount 2 = .ok (.iconst 0, 1) := by decide +kernel
theorem dX4_slitCount_3 : decode cX4_slitCount 3 = .ok (.istore_n 3, 1) := by decide +kernel
theorem dX4_slitCount_4 : decode cX4_slitCount 4 = .ok (.iload_n 3, 1) := by decide +kernel
theorem dX4_slitCount_5 : decode cX4_slitCount 5 = .ok (.aload_n 0, 1) := by decide +kernel
theorem dX4_slitCount_6 : decode cX4_slitCount 6 = .ok (.getfield 9, 3) := by decide +kernel
theorem dX4_slitCount_9 : decode cX4_slitCount 9 = .ok (.if_icmp .ge 46, 3) := by decide +kernel
theorem dX4_slitCount_12 : decode cX4_slitCount 12 = .ok (.iconst 0, 1) := by decide +kernel
theorem dX4_slitCount_13 : decode cX4_slitCount 13 = .ok (.istore 4, 2) := by decide +kernel
theorem dX4_slitCount_15 : decode cX4_slitCount 15 = .ok (.iload 4, 2) := by decide +kernel
theorem dX4_slitCount_17 : decode cX4_slitCount 17 = .ok (.aload_n 0, 1) := by decide +kernel
theorem dX4_slitCount_18 : decode cX4_slitCount 18 = .ok (.getfield 60, 3) := by decide +kernel
theorem dX4_slitCount_21 : decode cX4_slitCount 21 = .ok (.if_icmp .ge 28, 3) := by decide +kernel
theorem dX4_slitCount_24 : decode cX4_slitCount 24 = .ok (.iload_n 2, 1) := by decide +kernel
theorem dX4_slitCount_25 : decode cX4_slitCount 25 = .ok (.aload_n 0, 1) := by decide +kernel
theorem dX4_slitCount_26 : decode cX4_slitCount 26 = .ok (.iload_n 3, 1) := by decide +kernel
theorem dX4_slitCount_27 : decode cX4_slitCount 27 = .ok (.iload 4, 2) := by decide +kernel
theorem dX4_slitCount_29 : decode cX4_slitCount 29 = .ok (.invokevirtual 156, 3) := by decide +kernel
theorem dX4_slitCount_32 : decode cX4_slitCount 32 = .ok (.iload_n 1, 1) := by decide +kernel
theorem dX4_slitCount_33 : decode cX4_slitCount 33 = .ok (.if_icmp .le 7, 3) := by decide +kernel
theorem dX4_slitCount_36 : decode cX4_slitCount 36 = .ok (.iconst 1, 1) := by decide +kernel
theorem dX4_slitCount_37 : decode cX4_slitCount 37 = .ok (.goto 4, 3) := by decide +kernel
theorem dX4_slitCount_40 : decode cX4_slitCount 40 = .ok (.iconst 0, 1) := by decide +kernel
theorem dX4_slitCount_41 : decode cX4_slitCount 41 = .ok (.iadd, 1) := by decide +kernel
theorem dX4_slitCount_42 : decode cX4_slitCount 42 = .ok (.istore_n 2, 1) := by decide +kernel
theorem dX4_slitCount_43 : decode cX4_slitCount 43 = .ok (.iinc 4 1, 3) := by decide +kernel
theorem dX4_slitCount_46 : decode cX4_slitCount 46 = .ok (.goto (-31), 3) := by decide +kernel
theorem dX4_slitCount_49 : decode cX4_slitCount 49 = .ok (.iinc 3 1, 3) := by decide +kernel
theorem dX4_slitCount_52 : decode cX4_slitCount 52 = .ok (.goto (-48), 3) := by decide +kernel
theorem dX4_slitCount_55 : decode cX4_slitCount 55 = .ok (.iload_n 2, 1) := by decide +kernel
theorem dX4_slitCount_56 : decode cX4_slitCount 56 = .ok (.ireturn, 1) := by decide +kernel
theorem dX4_slitPlace_0 : decode cX4_slitPlace 0 = .ok (.iconst 0, 1) := by decide +kernel
theorem dX4_slitPlace_1 : decode cX4_slitPlace 1 = .ok (.istore_n 2, 1) := by decide +kernel
theorem dX4_slitPlace_2 : decode cX4_slitPlace 2 = .ok (.iconst 0, 1) := by decide +kernel
theorem dX4_slitPlace_3 : decode cX4_slitPlace 3 = .ok (.istore_n 3, 1) := by decide +kernel
theorem dX4_slitPlace_4 : decode cX4_slitPlace 4 = .ok (.iload_n 3, 1) := by decide +kernel
theorem dX4_slitPlace_5 : decode cX4_slitPlace 5 = .ok (.aload_n 0, 1) := by decide +kernel
theorem dX4_slitPlace_6 : decode cX4_slitPlace 6 = .ok (.getfield 9, 3) := by decide +kernel
theorem dX4_slitPlace_9 : decode cX4_slitPlace 9 = .ok (.if_icmp .ge 57, 3) := by decide +kernel
theorem dX4_slitPlace_12 : decode cX4_slitPlace 12 = .ok (.iconst 0, 1) := by decide +kernel
theorem dX4_slitPlace_13 : decode cX4_slitPlace 13 = .ok (.istore 4, 2) := by decide +kernel
theorem dX4_slitPlace_15 : decode cX4_slitPlace 15 = .ok (.iload 4, 2) := by decide +kernel
theorem dX4_slitPlace_17 : decode cX4_slitPlace 17 = .ok (.aload_n 0, 1) := by decide +kernel
theorem dX4_slitPlace_18 : decode cX4_slitPlace 18 = .ok (.getfield 60, 3) := by decide +kernel
theorem dX4_slitPlace_21 : decode cX4_slitPlace 21 = .ok (.if_icmp .ge 39, 3) := by decide +kernel
theorem dX4_slitPlace_24 : decode cX4_slitPlace 24 = .ok (.aload_n 0, 1) := by decide +kernel
theorem dX4_slitPlace_25 : decode cX4_slitPlace 25 = .ok (.iload_n 3, 1) := by decide +kernel
theorem dX4_slitPlace_26 : decode cX4_slitPlace 26 = .ok (.iload 4, 2) := by decide +kernel
theorem dX4_slitPlace_28 : decode cX4_slitPlace 28 = .ok (.invokevirtual 156, 3) := by decide +kernel
theorem dX4_slitPlace_31 : decode cX4_slitPlace 31 = .ok (.aload_n 0, 1) := by decide +kernel
theorem dX4_slitPlace_32 : decode cX4_slitPlace 32 = .ok (.getfield 18, 3) := by decide +kernel
theorem dX4_slitPlace_35 : decode cX4_slitPlace 35 = .ok (.if_icmp .le 19, 3) := by decide +kernel
theorem dX4_slitPlace_38 : decode cX4_slitPlace 38 = .ok (.iload_n 2, 1) := by decide +kernel
theorem dX4_slitPlace_39 : decode cX4_slitPlace 39 = .ok (.iload_n 1, 1) := by decide +kernel
theorem dX4_slitPlace_40 : decode cX4_slitPlace 40 = .ok (.if_icmp .ne 11, 3) := by decide +kernel
theorem dX4_slitPlace_43 : decode cX4_slitPlace 43 = .ok (.iload_n 3, 1) := by decide +kernel
theorem dX4_slitPlace_44 : decode cX4_slitPlace 44 = .ok (.bipush 16, 2) := by decide +kernel
theorem dX4_slitPlace_46 : decode cX4_slitPlace 46 = .ok (.imul, 1) := by decide +kernel
theorem dX4_slitPlace_47 : decode cX4_slitPlace 47 = .ok (.iload 4, 2) := by decide +kernel
theorem dX4_slitPlace_49 : decode cX4_slitPlace 49 = .ok (.iadd, 1) := by decide +kernel
theorem dX4_slitPlace_50 : decode cX4_slitPlace 50 = .ok (.ireturn, 1) := by decide +kernel
theorem dX4_slitPlace_51 : decode cX4_slitPlace 51 = .ok (.iinc 2 1, 3) := by decide +kernel
theorem dX4_slitPlace_54 : decode cX4_slitPlace 54 = .ok (.iinc 4 1, 3) := by decide +kernel
theorem dX4_slitPlace_57 : decode cX4_slitPlace 57 = .ok (.goto (-42), 3) := by decide +kernel
theorem dX4_slitPlace_60 : decode cX4_slitPlace 60 = .ok (.iinc 3 1, 3) := by decide +kernel
theorem dX4_slitPlace_63 : decode cX4_slitPlace 63 = .ok (.goto (-59), 3) := by decide +kernel
theorem dX4_slitPlace_66 : decode cX4_slitPlace 66 = .ok (.iconst (-1), 1) := by decide +kernel
theorem dX4_slitPlace_67 : decode cX4_slitPlace 67 = .ok (.ireturn, 1) := by decide +kernel
theorem dX4_slitValue_0 : decode cX4_slitValue 0 = .ok (.iload_n 3, 1) := by decide +kernel
theorem dX4_slitValue_1 : decode cX4_slitValue 1 = .ok (.ifCond .ne 5, 3) := by decide +kernel
theorem dX4_slitValue_4 : decode cX4_slitValue 4 = .ok (.iload_n 1, 1) := by decide +kernel
theorem dX4_slitValue_5 : decode cX4_slitValue 5 = .ok (.ireturn, 1) := by decide +kernel
theorem dX4_slitValue_6 : decode cX4_slitValue 6 = .ok (.iload_n 3, 1) := by decide +kernel
theorem dX4_slitValue_7 : decode cX4_slitValue 7 = .ok (.iconst 1, 1) := by decide +kernel
theorem dX4_slitValue_8 : decode cX4_slitValue 8 = .ok (.if_icmp .ne 5, 3) := by decide +kernel
theorem dX4_slitValue_11 : decode cX4_slitValue 11 = .ok (.iload_n 2, 1) := by decide +kernel
theorem dX4_slitValue_12 : decode cX4_slitValue 12 = .ok (.ireturn, 1) := by decide +kernel
theorem dX4_slitValue_13 : decode cX4_slitValue 13 = .ok (.iload_n 3, 1) := by decide +kernel
theorem dX4_slitValue_14 : decode cX4_slitValue 14 = .ok (.iconst 2, 1) := by decide +kernel
theorem dX4_slitValue_15 : decode cX4_slitValue 15 = .ok (.if_icmp .ne 14, 3) := by decide +kernel
theorem dX4_slitValue_18 : decode cX4_slitValue 18 = .ok (.iload_n 2, 1) := by decide +kernel
theorem dX4_slitValue_19 : decode cX4_slitValue 19 = .ok (.aload_n 0, 1) := by decide +kernel
theorem dX4_slitValue_20 : decode cX4_slitValue 20 = .ok (.iload_n 1, 1) := by decide +kernel
theorem dX4_slitValue_21 : decode cX4_slitValue 21 = .ok (.iload_n 2, 1) := by decide +kernel
theorem dX4_slitValue_22 : decode cX4_slitValue 22 = .ok (.invokevirtual 156, 3) := by decide +kernel
theorem dX4_slitValue_25 : decode cX4_slitValue 25 = .ok (.iadd, 1) := by decide +kernel
theorem dX4_slitValue_26 : decode cX4_slitValue 26 = .ok (.iconst 1, 1) := by decide +kernel
theorem dX4_slitValue_27 : decode cX4_slitValue 27 = .ok (.isub, 1) := by decide +kernel
theorem dX4_slitValue_28 : decode cX4_slitValue 28 = .ok (.ireturn, 1) := by decide +kernel
theorem dX4_slitValue_29 : decode cX4_slitValue 29 = .ok (.aload_n 0, 1) := by decide +kernel
theorem dX4_slitValue_30 : decode cX4_slitValue 30 = .ok (.iload_n 1, 1) := by decide +kernel
theorem dX4_slitValue_31 : decode cX4_slitValue 31 = .ok (.iload_n 2, 1) := by decide +kernel
theorem dX4_slitValue_32 : decode cX4_slitValue 32 = .ok (.invokevirtual 97, 3) := by decide +kernel
theorem dX4_slitValue_35 : decode cX4_slitValue 35 = .ok (.ifCond .eq 7, 3) := by decide +kernel
theorem dX4_slitValue_38 : decode cX4_slitValue 38 = .ok (.iconst 1, 1) := by decide +kernel
theorem dX4_slitValue_39 : decode cX4_slitValue 39 = .ok (.goto 4, 3) := by decide +kernel
theorem dX4_slitValue_42 : decode cX4_slitValue 42 = .ok (.iconst 0, 1) := by decide +kernel
theorem dX4_slitValue_43 : decode cX4_slitValue 43 = .ok (.ireturn, 1) := by decide +kernel
theorem dX4_isSewn_0 : decode cX4_isSewn 0 = .ok (.aload_n 0, 1) := by decide +kernel
theorem dX4_isSewn_1 : decode cX4_isSewn 1 = .ok (.getfield 38, 3) := by decide +kernel
theorem dX4_isSewn_4 : decode cX4_isSewn 4 = .ok (.iload_n 1, 1) := by decide +kernel
theorem dX4_isSewn_5 : decode cX4_isSewn 5 = .ok (.iload_n 2, 1) := by decide +kernel
theorem dX4_isSewn_6 : decode cX4_isSewn 6 = .ok (.invokevirtual 104, 3) := by decide +kernel
theorem dX4_isSewn_9 : decode cX4_isSewn 9 = .ok (.iconst 1, 1) := by decide +kernel
theorem dX4_isSewn_10 : decode cX4_isSewn 10 = .ok (.if_icmp .ne 7, 3) := by decide +kernel
theorem dX4_isSewn_13 : decode cX4_isSewn 13 = .ok (.iconst 1, 1) := by decide +kernel
theorem dX4_isSewn_14 : decode cX4_isSewn 14 = .ok (.goto 4, 3) := by decide +kernel
theorem dX4_isSewn_17 : decode cX4_isSewn 17 = .ok (.iconst 0, 1) := by decide +kernel
theorem dX4_isSewn_18 : decode cX4_isSewn 18 = .ok (.ireturn, 1) := by decide +kernel
theorem dX4_sewnSlits_0 : decode cX4_sewnSlits 0 = .ok (.aload_n 0, 1) := by decide +kernel
theorem dX4_sewnSlits_1 : decode cX4_sewnSlits 1 = .ok (.aload_n 0, 1) := by decide +kernel
theorem dX4_sewnSlits_2 : decode cX4_sewnSlits 2 = .ok (.getfield 38, 3) := by decide +kernel
theorem dX4_sewnSlits_5 : decode cX4_sewnSlits 5 = .ok (.iconst 1, 1) := by decide +kernel
theorem dX4_sewnSlits_6 : decode cX4_sewnSlits 6 = .ok (.aload_n 0, 1) := by decide +kernel
theorem dX4_sewnSlits_7 : decode cX4_sewnSlits 7 = .ok (.getfield 15, 3) := by decide +kernel
theorem dX4_sewnSlits_10 : decode cX4_sewnSlits 10 = .ok (.invokevirtual 202, 3) := by decide +kernel
theorem dX4_sewnSlits_13 : decode cX4_sewnSlits 13 = .ok (.ireturn, 1) := by decide +kernel
theorem dX4_rowsOfSewnSlits_0 : decode cX4_rowsOfSewnSlits 0 = .ok (.iconst 0, 1) := by decide +kernel
theorem dX4_rowsOfSewnSlits_1 : decode cX4_rowsOfSewnSlits 1 = .ok (.istore_n 1, 1) := by decide +kernel
theorem dX4_rowsOfSewnSlits_2 : decode cX4_rowsOfSewnSlits 2 = .ok (.iconst 0, 1) := by decide +kernel
theorem dX4_rowsOfSewnSlits_3 : decode cX4_rowsOfSewnSlits 3 = .ok (.istore_n 2, 1) := by decide +kernel
theorem dX4_rowsOfSewnSlits_4 : decode cX4_rowsOfSewnSlits 4 = .ok (.iload_n 2, 1) := by decide +kernel
theorem dX4_rowsOfSewnSlits_5 : decode cX4_rowsOfSewnSlits 5 = .ok (.aload_n 0, 1) := by decide +kernel
theorem dX4_rowsOfSewnSlits_6 : decode cX4_rowsOfSewnSlits 6 = .ok (.getfield 9, 3) := by decide +kernel
theorem dX4_rowsOfSewnSlits_9 : decode cX4_rowsOfSewnSlits 9 = .ok (.if_icmp .ge 47, 3) := by decide +kernel
theorem dX4_rowsOfSewnSlits_12 : decode cX4_rowsOfSewnSlits 12 = .ok (.iconst 0, 1) := by decide +kernel
theorem dX4_rowsOfSewnSlits_13 : decode cX4_rowsOfSewnSlits 13 = .ok (.istore_n 3, 1) := by decide +kernel
theorem dX4_rowsOfSewnSlits_14 : decode cX4_rowsOfSewnSlits 14 = .ok (.iload_n 3, 1) := by decide +kernel
theorem dX4_rowsOfSewnSlits_15 : decode cX4_rowsOfSewnSlits 15 = .ok (.aload_n 0, 1) := by decide +kernel
theorem dX4_rowsOfSewnSlits_16 : decode cX4_rowsOfSewnSlits 16 = .ok (.getfield 60, 3) := by decide +kernel
theorem dX4_rowsOfSewnSlits_19 : decode cX4_rowsOfSewnSlits 19 = .ok (.if_icmp .ge 31, 3) := by decide +kernel
theorem dX4_rowsOfSewnSlits_22 : decode cX4_rowsOfSewnSlits 22 = .ok (.iload_n 1, 1) := by decide +kernel
theorem dX4_rowsOfSewnSlits_23 : decode cX4_rowsOfSewnSlits 23 = .ok (.aload_n 0, 1) := by decide +kernel
theorem dX4_rowsOfSewnSlits_24 : decode cX4_rowsOfSewnSlits 24 = .ok (.iload_n 2, 1) := by decide +kernel
theorem dX4_rowsOfSewnSlits_25 : decode cX4_rowsOfSewnSlits 25 = .ok (.iload_n 3, 1) := by decide +kernel
theorem dX4_rowsOfSewnSlits_26 : decode cX4_rowsOfSewnSlits 26 = .ok (.invokevirtual 97, 3) := by decide +kernel
theorem dX4_rowsOfSewnSlits_29 : decode cX4_rowsOfSewnSlits 29 = .ok (.ifCond .eq 12, 3) := by decide +kernel
theorem dX4_rowsOfSewnSlits_32 : decode cX4_rowsOfSewnSlits 32 = .ok (.aload_n 0, 1) := by decide +kernel
theorem dX4_rowsOfSewnSlits_33 : decode cX4_rowsOfSewnSlits 33 = .ok (.iload_n 2, 1) := by decide +kernel
theorem dX4_rowsOfSewnSlits_34 : decode cX4_rowsOfSewnSlits 34 = .ok (.iload_n 3, 1) := by decide +kernel
theorem dX4_rowsOfSewnSlits_35 : decode cX4_rowsOfSewnSlits 35 = .ok (.invokevirtual 156, 3) := by decide +kernel
theorem dX4_rowsOfSewnSlits_38 : decode cX4_rowsOfSewnSlits 38 = .ok (.goto 4, 3) := by decide +kernel
theorem dX4_rowsOfSewnSlits_41 : decode cX4_rowsOfSewnSlits 41 = .ok (.iconst 0, 1) := by decide +kernel
theorem dX4_rowsOfSewnSlits_42 : decode cX4_rowsOfSewnSlits 42 = .ok (.iadd, 1) := by decide +kernel
theorem dX4_rowsOfSewnSlits_43 : decode cX4_rowsOfSewnSlits 43 = .ok (.istore_n 1, 1) := by decide +kernel
theorem dX4_rowsOfSewnSlits_44 : decode cX4_rowsOfSewnSlits 44 = .ok (.iinc 3 1, 3) := by decide +kernel
theorem dX4_rowsOfSewnSlits_47 : decode cX4_rowsOfSewnSlits 47 = .ok (.goto (-33), 3) := by decide +kernel
theorem dX4_rowsOfSewnSlits_50 : decode cX4_rowsOfSewnSlits 50 = .ok (.iinc 2 1, 3) := by decide +kernel
theorem dX4_rowsOfSewnSlits_53 : decode cX4_rowsOfSewnSlits 53 = .ok (.goto (-49), 3) := by decide +kernel
theorem dX4_rowsOfSewnSlits_56 : decode cX4_rowsOfSewnSlits 56 = .ok (.iload_n 1, 1) := by decide +kernel
theorem dX4_rowsOfSewnSlits_57 : decode cX4_rowsOfSewnSlits 57 = .ok (.ireturn, 1) := by decide +kernel
theorem dX4_wholeValueOf_0 : decode cX4_wholeValueOf 0 = .ok (.iload_n 1, 1) := by decide +kernel
theorem dX4_wholeValueOf_1 : decode cX4_wholeValueOf 1 = .ok (.tableswitch 161 0 13 #[71, 76, 81, 86, 94, 103, 108, 117, 122, 127, 134, 146, 151, 156], 71) := by decide +kernel
theorem dX4_wholeValueOf_72 : decode cX4_wholeValueOf 72 = .ok (.aload_n 0, 1) := by decide +kernel
theorem dX4_wholeValueOf_73 : decode cX4_wholeValueOf 73 = .ok (.getfield 9, 3) := by decide +kernel
theorem dX4_wholeValueOf_76 : decode cX4_wholeValueOf 76 = .ok (.ireturn, 1) := by decide +kernel
theorem dX4_wholeValueOf_77 : decode cX4_wholeValueOf 77 = .ok (.aload_n 0, 1) := by decide +kernel
theorem dX4_wholeValueOf_78 : decode cX4_wholeValueOf 78 = .ok (.getfield 15, 3) := by decide +kernel
theorem dX4_wholeValueOf_81 : decode cX4_wholeValueOf 81 = .ok (.ireturn, 1) := by decide +kernel
theorem dX4_wholeValueOf_82 : decode cX4_wholeValueOf 82 = .ok (.aload_n 0, 1) := by decide +kernel
theorem dX4_wholeValueOf_83 : decode cX4_wholeValueOf 83 = .ok (.getfield 60, 3) := by decide +kernel
theorem dX4_wholeValueOf_86 : decode cX4_wholeValueOf 86 = .ok (.ireturn, 1) := by decide +kernel
theorem dX4_wholeValueOf_87 : decode cX4_wholeValueOf 87 = .ok (.aload_n 0, 1) := by decide +kernel
theorem dX4_wholeValueOf_88 : decode cX4_wholeValueOf 88 = .ok (.getfield 53, 3) := by decide +kernel
theorem dX4_wholeValueOf_91 : decode cX4_wholeValueOf 91 = .ok (.getfield 90, 3) := by decide +kernel
theorem dX4_wholeValueOf_94 : decode cX4_wholeValueOf 94 = .ok (.ireturn, 1) := by decide +kernel
theorem dX4_wholeValueOf_95 : decode cX4_wholeValueOf 95 = .ok (.aload_n 0, 1) := by decide +kernel
theorem dX4_wholeValueOf_96 : decode cX4_wholeValueOf 96 = .ok (.getfield 46, 3) := by decide +kernel
theorem dX4_wholeValueOf_99 : decode cX4_wholeValueOf 99 = .ok (.iconst (-1), 1) := by decide +kernel
theorem dX4_wholeValueOf_100 : decode cX4_wholeValueOf 100 = .ok (.invokevirtual 118, 3) := by decide +kernel
theorem dX4_wholeValueOf_103 : decode cX4_wholeValueOf 103 = .ok (.ireturn, 1) := by decide +kernel
theorem dX4_wholeValueOf_104 : decode cX4_wholeValueOf 104 = .ok (.aload_n 0, 1) := by decide +kernel
theorem dX4_wholeValueOf_105 : decode cX4_wholeValueOf 105 = .ok (.invokevirtual 232, 3) := by decide +kernel
theorem dX4_wholeValueOf_108 : decode cX4_wholeValueOf 108 = .ok (.ireturn, 1) := by decide +kernel
theorem dX4_wholeValueOf_109 : decode cX4_wholeValueOf 109 = .ok (.aload_n 0, 1) := by decide +kernel
theorem dX4_wholeValueOf_110 : decode cX4_wholeValueOf 110 = .ok (.aload_n 0, 1) := by decide +kernel
theorem dX4_wholeValueOf_111 : decode cX4_wholeValueOf 111 = .ok (.getfield 18, 3) := by decide +kernel
theorem dX4_wholeValueOf_114 : decode cX4_wholeValueOf 114 = .ok (.invokevirtual 149, 3) := by decide +kernel
theorem dX4_wholeValueOf_117 : decode cX4_wholeValueOf 117 = .ok (.ireturn, 1) := by decide +kernel
theorem dX4_wholeValueOf_118 : decode cX4_wholeValueOf 118 = .ok (.aload_n 0, 1) := by decide +kernel
theorem dX4_wholeValueOf_119 : decode cX4_wholeValueOf 119 = .ok (.invokevirtual 152, 3) := by decide +kernel
theorem dX4_wholeValueOf_122 : decode cX4_wholeValueOf 122 = .ok (.ireturn, 1) := by decide +kernel
theorem dX4_wholeValueOf_123 : decode cX4_wholeValueOf 123 = .ok (.aload_n 0, 1) := by decide +kernel
theorem dX4_wholeValueOf_124 : decode cX4_wholeValueOf 124 = .ok (.invokevirtual 235, 3) := by decide +kernel
theorem dX4_wholeValueOf_127 : decode cX4_wholeValueOf 127 = .ok (.ireturn, 1) := by decide +kernel
theorem dX4_wholeValueOf_128 : decode cX4_wholeValueOf 128 = .ok (.aload_n 0, 1) := by decide +kernel
theorem dX4_wholeValueOf_129 : decode cX4_wholeValueOf 129 = .ok (.ldc 238, 2) := by decide +kernel
theorem dX4_wholeValueOf_131 : decode cX4_wholeValueOf 131 = .ok (.invokevirtual 239, 3) := by decide +kernel
theorem dX4_wholeValueOf_134 : decode cX4_wholeValueOf 134 = .ok (.ireturn, 1) := by decide +kernel
theorem dX4_wholeValueOf_135 : decode cX4_wholeValueOf 135 = .ok (.aload_n 0, 1) := by decide +kernel
theorem dX4_wholeValueOf_136 : decode cX4_wholeValueOf 136 = .ok (.aload_n 0, 1) := by decide +kernel
theorem dX4_wholeValueOf_137 : decode cX4_wholeValueOf 137 = .ok (.getfield 22, 3) := by decide +kernel
theorem dX4_wholeValueOf_140 : decode cX4_wholeValueOf 140 = .ok (.invokestatic 243, 3) := by decide +kernel
theorem dX4_wholeValueOf_143 : decode cX4_wholeValueOf 143 = .ok (.invokevirtual 239, 3) := by decide +kernel
theorem dX4_wholeValueOf_146 : decode cX4_wholeValueOf 146 = .ok (.ireturn, 1) := by decide +kernel
theorem dX4_wholeValueOf_147 : decode cX4_wholeValueOf 147 = .ok (.aload_n 0, 1) := by decide +kernel
theorem dX4_wholeValueOf_148 : decode cX4_wholeValueOf 148 = .ok (.invokevirtual 246, 3) := by decide +kernel
theorem dX4_wholeValueOf_151 : decode cX4_wholeValueOf 151 = .ok (.ireturn, 1) := by decide +kernel
theorem dX4_wholeValueOf_152 : decode cX4_wholeValueOf 152 = .ok (.aload_n 0, 1) := by decide +kernel
theorem dX4_wholeValueOf_153 : decode cX4_wholeValueOf 153 = .ok (.invokevirtual 249, 3) := by decide +kernel
theorem dX4_wholeValueOf_156 : decode cX4_wholeValueOf 156 = .ok (.ireturn, 1) := by decide +kernel
theorem dX4_wholeValueOf_157 : decode cX4_wholeValueOf 157 = .ok (.aload_n 0, 1) := by decide +kernel
theorem dX4_wholeValueOf_158 : decode cX4_wholeValueOf 158 = .ok (.getfield 18, 3) := by decide +kernel
theorem dX4_wholeValueOf_161 : decode cX4_wholeValueOf 161 = .ok (.ireturn, 1) := by decide +kernel
theorem dX4_wholeValueOf_162 : decode cX4_wholeValueOf 162 = .ok (.iload_n 2, 1) := by decide +kernel
theorem dX4_wholeValueOf_163 : decode cX4_wholeValueOf 163 = .ok (.ireturn, 1) := by decide +kernel
theorem dX4_allWrongCells_0 : decode cX4_allWrongCells 0 = .ok (.iconst 0, 1) := by decide +kernel
theorem dX4_allWrongCells_1 : decode cX4_allWrongCells 1 = .ok (.istore_n 1, 1) := by decide +kernel
theorem dX4_allWrongCells_2 : decode cX4_allWrongCells 2 = .ok (.iconst 0, 1) := by decide +kernel
theorem dX4_allWrongCells_3 : decode cX4_allWrongCells 3 = .ok (.istore_n 2, 1) := by decide +kernel
theorem dX4_allWrongCells_4 : decode cX4_allWrongCells 4 = .ok (.iload_n 2, 1) := by decide +kernel
theorem dX4_allWrongCells_5 : decode cX4_allWrongCells 5 = .ok (.aload_n 0, 1) := by decide +kernel
theorem dX4_allWrongCells_6 : decode cX4_allWrongCells 6 = .ok (.getfield 60, 3) := by decide +kernel
theorem dX4_allWrongCells_9 : decode cX4_allWrongCells 9 = .ok (.if_icmp .ge 17, 3) := by decide +kernel
theorem dX4_allWrongCells_12 : decode cX4_allWrongCells 12 = .ok (.iload_n 1, 1) := by decide +kernel
theorem dX4_allWrongCells_13 : decode cX4_allWrongCells 13 = .ok (.aload_n 0, 1) := by decide +kernel
theorem dX4_allWrongCells_14 : decode cX4_allWrongCells 14 = .ok (.iload_n 2, 1) := by decide +kernel
theorem dX4_allWrongCells_15 : decode cX4_allWrongCells 15 = .ok (.invokevirtual 175, 3) := by decide +kernel
theorem dX4_allWrongCells_18 : decode cX4_allWrongCells 18 = .ok (.iadd, 1) := by decide +kernel
theorem dX4_allWrongCells_19 : decode cX4_allWrongCells 19 = .ok (.istore_n 1, 1) := by decide +kernel
theorem dX4_allWrongCells_20 : decode cX4_allWrongCells 20 = .ok (.iinc 2 1, 3) := by decide +kernel
theorem dX4_allWrongCells_23 : decode cX4_allWrongCells 23 = .ok (.goto (-19), 3) := by decide +kernel
theorem dX4_allWrongCells_26 : decode cX4_allWrongCells 26 = .ok (.iload_n 1, 1) := by decide +kernel
theorem dX4_allWrongCells_27 : decode cX4_allWrongCells 27 = .ok (.ireturn, 1) := by decide +kernel
theorem dX4_mostShuttles_0 : decode cX4_mostShuttles 0 = .ok (.iconst 0, 1) := by decide +kernel
theorem dX4_mostShuttles_1 : decode cX4_mostShuttles 1 = .ok (.istore_n 1, 1) := by decide +kernel
theorem dX4_mostShuttles_2 : decode cX4_mostShuttles 2 = .ok (.iconst 0, 1) := by decide +kernel
theorem dX4_mostShuttles_3 : decode cX4_mostShuttles 3 = .ok (.istore_n 2, 1) := by decide +kernel
theorem dX4_mostShuttles_4 : decode cX4_mostShuttles 4 = .ok (.iload_n 2, 1) := by decide +kernel
theorem dX4_mostShuttles_5 : decode cX4_mostShuttles 5 = .ok (.aload_n 0, 1) := by decide +kernel
theorem dX4_mostShuttles_6 : decode cX4_mostShuttles 6 = .ok (.getfield 60, 3) := by decide +kernel
theorem dX4_mostShuttles_9 : decode cX4_mostShuttles 9 = .ok (.if_icmp .ge 26, 3) := by decide +kernel
theorem dX4_mostShuttles_12 : decode cX4_mostShuttles 12 = .ok (.iload_n 1, 1) := by decide +kernel
theorem dX4_mostShuttles_13 : decode cX4_mostShuttles 13 = .ok (.aload_n 0, 1) := by decide +kernel
theorem dX4_mostShuttles_14 : decode cX4_mostShuttles 14 = .ok (.getfield 32, 3) := by decide +kernel
theorem dX4_mostShuttles_17 : decode cX4_mostShuttles 17 = .ok (.iload_n 2, 1) := by decide +kernel
theorem dX4_mostShuttles_18 : decode cX4_mostShuttles 18 = .ok (.aload_n 0, 1) := by decide +kernel
theorem dX4_mostShuttles_19 : decode cX4_mostShuttles 19 = .ok (.getfield 9, 3) := by decide +kernel
theorem dX4_mostShuttles_22 : decode cX4_mostShuttles 22 = .ok (.invokevirtual 169, 3) := by decide +kernel
theorem dX4_mostShuttles_25 : decode cX4_mostShuttles 25 = .ok (.invokestatic 252, 3) := by decide +kernel
theorem dX4_mostShuttles_28 : decode cX4_mostShuttles 28 = .ok (.istore_n 1, 1) := by decide +kernel
theorem dX4_mostShuttles_29 : decode cX4_mostShuttles 29 = .ok (.iinc 2 1, 3) := by decide +kernel
theorem dX4_mostShuttles_32 : decode cX4_mostShuttles 32 = .ok (.goto (-28), 3) := by decide +kernel
theorem dX4_mostShuttles_35 : decode cX4_mostShuttles 35 = .ok (.iload_n 1, 1) := by decide +kernel
theorem dX4_mostShuttles_36 : decode cX4_mostShuttles 36 = .ok (.ireturn, 1) := by decide +kernel
theorem dX4_allNewShuttles_0 : decode cX4_allNewShuttles 0 = .ok (.iconst 0, 1) := by decide +kernel
theorem dX4_allNewShuttles_1 : decode cX4_allNewShuttles 1 = .ok (.istore_n 1, 1) := by decide +kernel
theorem dX4_allNewShuttles_2 : decode cX4_allNewShuttles 2 = .ok (.iconst 0, 1) := by decide +kernel
theorem dX4_allNewShuttles_3 : decode cX4_allNewShuttles 3 = .ok (.istore_n 2, 1) := by decide +kernel
theorem dX4_allNewShuttles_4 : decode cX4_allNewShuttles 4 = .ok (.iload_n 2, 1) := by decide +kernel
theorem dX4_allNewShuttles_5 : decode cX4_allNewShuttles 5 = .ok (.aload_n 0, 1) := by decide +kernel
theorem dX4_allNewShuttles_6 : decode cX4_allNewShuttles 6 = .ok (.getfield 60, 3) := by decide +kernel
theorem dX4_allNewShuttles_9 : decode cX4_allNewShuttles 9 = .ok (.if_icmp .ge 17, 3) := by decide +kernel
theorem dX4_allNewShuttles_12 : decode cX4_allNewShuttles 12 = .ok (.iload_n 1, 1) := by decide +kernel
theorem dX4_allNewShuttles_13 : decode cX4_allNewShuttles 13 = .ok (.aload_n 0, 1) := by decide +kernel
theorem dX4_allNewShuttles_14 : decode cX4_allNewShuttles 14 = .ok (.iload_n 2, 1) := by decide +kernel
theorem dX4_allNewShuttles_15 : decode cX4_allNewShuttles 15 = .ok (.invokevirtual 172, 3) := by decide +kernel
theorem dX4_allNewShuttles_18 : decode cX4_allNewShuttles 18 = .ok (.iadd, 1) := by decide +kernel
theorem dX4_allNewShuttles_19 : decode cX4_allNewShuttles 19 = .ok (.istore_n 1, 1) := by decide +kernel
theorem dX4_allNewShuttles_20 : decode cX4_allNewShuttles 20 = .ok (.iinc 2 1, 3) := by decide +kernel
theorem dX4_allNewShuttles_23 : decode cX4_allNewShuttles 23 = .ok (.goto (-19), 3) := by decide +kernel
theorem dX4_allNewShuttles_26 : decode cX4_allNewShuttles 26 = .ok (.iload_n 1, 1) := by decide +kernel
theorem dX4_allNewShuttles_27 : decode cX4_allNewShuttles 27 = .ok (.ireturn, 1) := by decide +kernel
theorem dX4_meanShadeOf_0 : decode cX4_meanShadeOf 0 = .ok (.fconst 0, 1) := by decide +kernel
theorem dX4_meanShadeOf_1 : decode cX4_meanShadeOf 1 = .ok (.fstore_n 2, 1) := by decide +kernel
theorem dX4_meanShadeOf_2 : decode cX4_meanShadeOf 2 = .ok (.iconst 0, 1) := by decide +kernel
theorem dX4_meanShadeOf_3 : decode cX4_meanShadeOf 3 = .ok (.istore_n 3, 1) := by decide +kernel
theorem dX4_meanShadeOf_4 : decode cX4_meanShadeOf 4 = .ok (.iconst 0, 1) := by decide +kernel
theorem dX4_meanShadeOf_5 : decode cX4_meanShadeOf 5 = .ok (.istore 4, 2) := by decide +kernel
theorem dX4_meanShadeOf_7 : decode cX4_meanShadeOf 7 = .ok (.iload 4, 2) := by decide +kernel
theorem dX4_meanShadeOf_9 : decode cX4_meanShadeOf 9 = .ok (.aload_n 0, 1) := by decide +kernel
theorem dX4_meanShadeOf_10 : decode cX4_meanShadeOf 10 = .ok (.getfield 60, 3) := by decide +kernel
theorem dX4_meanShadeOf_13 : decode cX4_meanShadeOf 13 = .ok (.if_icmp .ge 56, 3) := by decide +kernel
theorem dX4_meanShadeOf_16 : decode cX4_meanShadeOf 16 = .ok (.iconst 0, 1) := by decide +kernel
theorem dX4_meanShadeOf_17 : decode cX4_meanShadeOf 17 = .ok (.istore 5, 2) := by decide +kernel
theorem dX4_meanShadeOf_19 : decode cX4_meanShadeOf 19 = .ok (.iload 5, 2) := by decide +kernel
theorem dX4_meanShadeOf_21 : decode cX4_meanShadeOf 21 = .ok (.aload_n 0, 1) := by decide +kernel
theorem dX4_meanShadeOf_22 : decode cX4_meanShadeOf 22 = .ok (.getfield 9, 3) := by decide +kernel
theorem dX4_meanShadeOf_25 : decode cX4_meanShadeOf 25 = .ok (.if_icmp .ge 38, 3) := by decide +kernel
theorem dX4_meanShadeOf_28 : decode cX4_meanShadeOf 28 = .ok (.aload_n 0, 1) := by decide +kernel
theorem dX4_meanShadeOf_29 : decode cX4_meanShadeOf 29 = .ok (.getfield 32, 3) := by decide +kernel
theorem dX4_meanShadeOf_32 : decode cX4_meanShadeOf 32 = .ok (.iload 5, 2) := by decide +kernel
theorem dX4_meanShadeOf_34 : decode cX4_meanShadeOf 34 = .ok (.iload 4, 2) := by decide +kernel
theorem dX4_meanShadeOf_36 : decode cX4_meanShadeOf 36 = .ok (.invokevirtual 104, 3) := by decide +kernel
theorem dX4_meanShadeOf_39 : decode cX4_meanShadeOf 39 = .ok (.iload_n 1, 1) := by decide +kernel
theorem dX4_meanShadeOf_40 : decode cX4_meanShadeOf 40 = .ok (.if_icmp .ne 17, 3) := by decide +kernel
theorem dX4_meanShadeOf_43 : decode cX4_meanShadeOf 43 = .ok (.fload_n 2, 1) := by decide +kernel
theorem dX4_meanShadeOf_44 : decode cX4_meanShadeOf 44 = .ok (.aload_n 0, 1) := by decide +kernel
theorem dX4_meanShadeOf_45 : decode cX4_meanShadeOf 45 = .ok (.iload 5, 2) := by decide +kernel
theorem dX4_meanShadeOf_47 : decode cX4_meanShadeOf 47 = .ok (.iload 4, 2) := by decide +kernel
theorem dX4_meanShadeOf_49 : decode cX4_meanShadeOf 49 = .ok (.invokevirtual 255, 3) := by decide +kernel
theorem dX4_meanShadeOf_52 : decode cX4_meanShadeOf 52 = .ok (.fadd, 1) := by decide +kernel
theorem dX4_meanShadeOf_53 : decode cX4_meanShadeOf 53 = .ok (.fstore_n 2, 1) := by decide +kernel
theorem dX4_meanShadeOf_54 : decode cX4_meanShadeOf 54 = .ok (.iinc 3 1, 3) := by decide +kernel
theorem dX4_meanShadeOf_57 : decode cX4_meanShadeOf 57 = .ok (.iinc 5 1, 3) := by decide +kernel
theorem dX4_meanShadeOf_60 : decode cX4_meanShadeOf 60 = .ok (.goto (-41), 3) := by decide +kernel
theorem dX4_meanShadeOf_63 : decode cX4_meanShadeOf 63 = .ok (.iinc 4 1, 3) := by decide +kernel
theorem dX4_meanShadeOf_66 : decode cX4_meanShadeOf 66 = .ok (.goto (-59), 3) := by decide +kernel
theorem dX4_meanShadeOf_69 : decode cX4_meanShadeOf 69 = .ok (.iload_n 3, 1) := by decide +kernel
theorem dX4_meanShadeOf_70 : decode cX4_meanShadeOf 70 = .ok (.ifCond .le 10, 3) := by decide +kernel
theorem dX4_meanShadeOf_73 : decode cX4_meanShadeOf 73 = .ok (.fload_n 2, 1) := by decide +kernel
theorem dX4_meanShadeOf_74 : decode cX4_meanShadeOf 74 = .ok (.iload_n 3, 1) := by decide +kernel
theorem dX4_meanShadeOf_75 : decode cX4_meanShadeOf 75 = .ok (.i2f, 1) := by decide +kernel
theorem dX4_meanShadeOf_76 : decode cX4_meanShadeOf 76 = .ok (.fdiv, 1) := by decide +kernel
theorem dX4_meanShadeOf_77 : decode cX4_meanShadeOf 77 = .ok (.goto 4, 3) := by decide +kernel
theorem dX4_meanShadeOf_80 : decode cX4_meanShadeOf 80 = .ok (.fconst 0, 1) := by decide +kernel
theorem dX4_meanShadeOf_81 : decode cX4_meanShadeOf 81 = .ok (.freturn, 1) := by decide +kernel
theorem dX4_contrastOf_0 : decode cX4_contrastOf 0 = .ok (.fconst 0, 1) := by decide +kernel
theorem dX4_contrastOf_1 : decode cX4_contrastOf 1 = .ok (.fstore_n 2, 1) := by decide +kernel
theorem dX4_contrastOf_2 : decode cX4_contrastOf 2 = .ok (.aload_n 0, 1) := by decide +kernel
theorem dX4_contrastOf_3 : decode cX4_contrastOf 3 = .ok (.getfield 9, 3) := by decide +kernel
theorem dX4_contrastOf_6 : decode cX4_contrastOf 6 = .ok (.iconst 1, 1) := by decide +kernel
theorem dX4_contrastOf_7 : decode cX4_contrastOf 7 = .ok (.isub, 1) := by decide +kernel
theorem dX4_contrastOf_8 : decode cX4_contrastOf 8 = .ok (.istore_n 3, 1) := by decide +kernel
theorem dX4_contrastOf_9 : decode cX4_contrastOf 9 = .ok (.iconst 0, 1) := by decide +kernel
theorem dX4_contrastOf_10 : decode cX4_contrastOf 10 = .ok (.istore 4, 2) := by decide +kernel
theorem dX4_contrastOf_12 : decode cX4_contrastOf 12 = .ok (.iload 4, 2) := by decide +kernel
theorem dX4_contrastOf_14 : decode cX4_contrastOf 14 = .ok (.iload_n 3, 1) := by decide +kernel
theorem dX4_contrastOf_15 : decode cX4_contrastOf 15 = .ok (.if_icmp .ge 24, 3) := by decide +kernel
theorem dX4_contrastOf_18 : decode cX4_contrastOf 18 = .ok (.fload_n 2, 1) := by decide +kernel
theorem dX4_contrastOf_19 : decode cX4_contrastOf 19 = .ok (.aload_n 0, 1) := by decide +kernel
theorem dX4_contrastOf_20 : decode cX4_contrastOf 20 = .ok (.iload 4, 2) := by decide +kernel
theorem dX4_contrastOf_22 : decode cX4_contrastOf 22 = .ok (.iload_n 1, 1) := by decide +kernel
theorem dX4_contrastOf_23 : decode cX4_contrastOf 23 = .ok (.iload 4, 2) := by decide +kernel
theorem dX4_contrastOf_25 : decode cX4_contrastOf 25 = .ok (.iconst 1, 1) := by decide +kernel
theorem dX4_contrastOf_26 : decode cX4_contrastOf 26 = .ok (.iadd, 1) := by decide +kernel
theorem dX4_contrastOf_27 : decode cX4_contrastOf 27 = .ok (.iload_n 1, 1) := by decide +kernel
theorem dX4_contrastOf_28 : decode cX4_contrastOf 28 = .ok (.invokevirtual 259, 3) := by decide +kernel
theorem dX4_contrastOf_31 : decode cX4_contrastOf 31 = .ok (.fadd, 1) := by decide +kernel
theorem dX4_contrastOf_32 : decode cX4_contrastOf 32 = .ok (.fstore_n 2, 1) := by decide +kernel
theorem dX4_contrastOf_33 : decode cX4_contrastOf 33 = .ok (.iinc 4 1, 3) := by decide +kernel
theorem dX4_contrastOf_36 : decode cX4_contrastOf 36 = .ok (.goto (-24), 3) := by decide +kernel
theorem dX4_contrastOf_39 : decode cX4_contrastOf 39 = .ok (.iload_n 3, 1) := by decide +kernel
theorem dX4_contrastOf_40 : decode cX4_contrastOf 40 = .ok (.ifCond .le 10, 3) := by decide +kernel
theorem dX4_contrastOf_43 : decode cX4_contrastOf 43 = .ok (.fload_n 2, 1) := by decide +kernel
theorem dX4_contrastOf_44 : decode cX4_contrastOf 44 = .ok (.iload_n 3, 1) := by decide +kernel
theorem dX4_contrastOf_45 : decode cX4_contrastOf 45 = .ok (.i2f, 1) := by decide +kernel
theorem dX4_contrastOf_46 : decode cX4_contrastOf 46 = .ok (.fdiv, 1) := by decide +kernel
theorem dX4_contrastOf_47 : decode cX4_contrastOf 47 = .ok (.goto 4, 3) := by decide +kernel
theorem dX4_contrastOf_50 : decode cX4_contrastOf 50 = .ok (.fconst 0, 1) := by decide +kernel
theorem dX4_contrastOf_51 : decode cX4_contrastOf 51 = .ok (.freturn, 1) := by decide +kernel
theorem dX4_difference_0 : decode cX4_difference 0 = .ok (.aload_n 0, 1) := by decide +kernel
theorem dX4_difference_1 : decode cX4_difference 1 = .ok (.iload_n 1, 1) := by decide +kernel
theorem dX4_difference_2 : decode cX4_difference 2 = .ok (.iload_n 2, 1) := by decide +kernel
theorem dX4_difference_3 : decode cX4_difference 3 = .ok (.invokevirtual 255, 3) := by decide +kernel
theorem dX4_difference_6 : decode cX4_difference 6 = .ok (.aload_n 0, 1) := by decide +kernel
theorem dX4_difference_7 : decode cX4_difference 7 = .ok (.iload_n 3, 1) := by decide +kernel
theorem dX4_difference_8 : decode cX4_difference 8 = .ok (.iload 4, 2) := by decide +kernel
theorem dX4_difference_10 : decode cX4_difference 10 = .ok (.invokevirtual 255, 3) := by decide +kernel
theorem dX4_difference_13 : decode cX4_difference 13 = .ok (.fsub, 1) := by decide +kernel
theorem dX4_difference_14 : decode cX4_difference 14 = .ok (.fstore 5, 2) := by decide +kernel
theorem dX4_difference_16 : decode cX4_difference 16 = .ok (.fload 5, 2) := by decide +kernel
theorem dX4_difference_18 : decode cX4_difference 18 = .ok (.fconst 0, 1) := by decide +kernel
theorem dX4_difference_19 : decode cX4_difference 19 = .ok (.fcmp .g, 1) := by decide +kernel
theorem dX4_difference_20 : decode cX4_difference 20 = .ok (.ifCond .ge 9, 3) := by decide +kernel
theorem dX4_difference_23 : decode cX4_difference 23 = .ok (.fload 5, 2) := by decide +kernel
theorem dX4_difference_25 : decode cX4_difference 25 = .ok (.fneg, 1) := by decide +kernel
theorem dX4_difference_26 : decode cX4_difference 26 = .ok (.goto 5, 3) := by decide +kernel
theorem dX4_difference_29 : decode cX4_difference 29 = .ok (.fload 5, 2) := by decide +kernel
theorem dX4_difference_31 : decode cX4_difference 31 = .ok (.freturn, 1) := by decide +kernel
theorem dX4_isSeam_0 : decode cX4_isSeam 0 = .ok (.aload_n 0, 1) := by decide +kernel
theorem dX4_isSeam_1 : decode cX4_isSeam 1 = .ok (.iload_n 1, 1) := by decide +kernel
theorem dX4_isSeam_2 : decode cX4_isSeam 2 = .ok (.iload_n 2, 1) := by decide +kernel
theorem dX4_isSeam_3 : decode cX4_isSeam 3 = .ok (.invokevirtual 163, 3) := by decide +kernel
theorem dX4_isSeam_6 : decode cX4_isSeam 6 = .ok (.aload_n 0, 1) := by decide +kernel
theorem dX4_isSeam_7 : decode cX4_isSeam 7 = .ok (.iload_n 3, 1) := by decide +kernel
theorem dX4_isSeam_8 : decode cX4_isSeam 8 = .ok (.iload 4, 2) := by decide +kernel
theorem dX4_isSeam_10 : decode cX4_isSeam 10 = .ok (.invokevirtual 163, 3) := by decide +kernel
theorem dX4_isSeam_13 : decode cX4_isSeam 13 = .ok (.if_icmp .ne 29, 3) := by decide +kernel
theorem dX4_isSeam_16 : decode cX4_isSeam 16 = .ok (.aload_n 0, 1) := by decide +kernel
theorem dX4_isSeam_17 : decode cX4_isSeam 17 = .ok (.getfield 35, 3) := by decide +kernel
theorem dX4_isSeam_20 : decode cX4_isSeam 20 = .ok (.iload_n 1, 1) := by decide +kernel
theorem dX4_isSeam_21 : decode cX4_isSeam 21 = .ok (.iload_n 2, 1) := by decide +kernel
theorem dX4_isSeam_22 : decode cX4_isSeam 22 = .ok (.invokevirtual 104, 3) := by decide +kernel
theorem dX4_isSeam_25 : decode cX4_isSeam 25 = .ok (.aload_n 0, 1) := by decide +kernel
theorem dX4_isSeam_26 : decode cX4_isSeam 26 = .ok (.getfield 35, 3) := by decide +kernel
theorem dX4_isSeam_29 : decode cX4_isSeam 29 = .ok (.iload_n 3, 1) := by decide +kernel
theorem dX4_isSeam_30 : decode cX4_isSeam 30 = .ok (.iload 4, 2) := by decide +kernel
theorem dX4_isSeam_32 : decode cX4_isSeam 32 = .ok (.invokevirtual 104, 3) := by decide +kernel
theorem dX4_isSeam_35 : decode cX4_isSeam 35 = .ok (.if_icmp .eq 7, 3) := by decide +kernel
theorem dX4_isSeam_38 : decode cX4_isSeam 38 = .ok (.iconst 1, 1) := by decide +kernel
theorem dX4_isSeam_39 : decode cX4_isSeam 39 = .ok (.goto 4, 3) := by decide +kernel
theorem dX4_isSeam_42 : decode cX4_isSeam 42 = .ok (.iconst 0, 1) := by decide +kernel
theorem dX4_isSeam_43 : decode cX4_isSeam 43 = .ok (.ireturn, 1) := by decide +kernel
theorem dX4_gapsAbove_0 : decode cX4_gapsAbove 0 = .ok (.iconst 0, 1) := by decide +kernel
theorem dX4_gapsAbove_1 : decode cX4_gapsAbove 1 = .ok (.istore_n 2, 1) := by decide +kernel
theorem dX4_gapsAbove_2 : decode cX4_gapsAbove 2 = .ok (.iconst 0, 1) := by decide +kernel
theorem dX4_gapsAbove_3 : decode cX4_gapsAbove 3 = .ok (.istore_n 3, 1) := by decide +kernel
theorem dX4_gapsAbove_4 : decode cX4_gapsAbove 4 = .ok (.iload_n 3, 1) := by decide +kernel
theorem dX4_gapsAbove_5 : decode cX4_gapsAbove 5 = .ok (.aload_n 0, 1) := by decide +kernel
theorem dX4_gapsAbove_6 : decode cX4_gapsAbove 6 = .ok (.getfield 60, 3) := by decide +kernel
theorem dX4_gapsAbove_9 : decode cX4_gapsAbove 9 = .ok (.if_icmp .ge 77, 3) := by decide +kernel
theorem dX4_gapsAbove_12 : decode cX4_gapsAbove 12 = .ok (.iconst 0, 1) := by decide +kernel
theorem dX4_gapsAbove_13 : decode cX4_gapsAbove 13 = .ok (.istore 4, 2) := by decide +kernel
theorem dX4_gapsAbove_15 : decode cX4_gapsAbove 15 = .ok (.iload 4, 2) := by decide +kernel
theorem dX4_gapsAbove_17 : decode cX4_gapsAbove 17 = .ok (.aload_n 0, 1) := by decide +kernel
theorem dX4_gapsAbove_18 : decode cX4_gapsAbove 18 = .ok (.getfield 9, 3) := by decide +kernel
theorem dX4_gapsAbove_21 : decode cX4_gapsAbove 21 = .ok (.if_icmp .ge 59, 3) := by decide +kernel
theorem dX4_gapsAbove_24 : decode cX4_gapsAbove 24 = .ok (.iload_n 2, 1) := by decide +kernel
theorem dX4_gapsAbove_25 : decode cX4_gapsAbove 25 = .ok (.aload_n 0, 1) := by decide +kernel
theorem dX4_gapsAbove_26 : decode cX4_gapsAbove 26 = .ok (.iload 4, 2) := by decide +kernel
theorem dX4_gapsAbove_28 : decode cX4_gapsAbove 28 = .ok (.iload_n 3, 1) := by decide +kernel
theorem dX4_gapsAbove_29 : decode cX4_gapsAbove 29 = .ok (.iload 4, 2) := by decide +kernel
theorem dX4_gapsAbove_31 : decode cX4_gapsAbove 31 = .ok (.iconst 1, 1) := by decide +kernel
theorem dX4_gapsAbove_32 : decode cX4_gapsAbove 32 = .ok (.iadd, 1) := by decide +kernel
theorem dX4_gapsAbove_33 : decode cX4_gapsAbove 33 = .ok (.iload_n 3, 1) := by decide +kernel
theorem dX4_gapsAbove_34 : decode cX4_gapsAbove 34 = .ok (.invokevirtual 263, 3) := by decide +kernel
theorem dX4_gapsAbove_37 : decode cX4_gapsAbove 37 = .ok (.fload_n 1, 1) := by decide +kernel
theorem dX4_gapsAbove_38 : decode cX4_gapsAbove 38 = .ok (.fcmp .l, 1) := by decide +kernel
theorem dX4_gapsAbove_39 : decode cX4_gapsAbove 39 = .ok (.ifCond .le 7, 3) := by decide +kernel
theorem dX4_gapsAbove_42 : decode cX4_gapsAbove 42 = .ok (.iconst 1, 1) := by decide +kernel
theorem dX4_gapsAbove_43 : decode cX4_gapsAbove 43 = .ok (.goto 4, 3) := by decide +kernel
theorem dX4_gapsAbove_46 : decode cX4_gapsAbove 46 = .ok (.iconst 0, 1) := by decide +kernel
theorem dX4_gapsAbove_47 : decode cX4_gapsAbove 47 = .ok (.iadd, 1) := by decide +kernel
theorem dX4_gapsAbove_48 : decode cX4_gapsAbove 48 = .ok (.istore_n 2, 1) := by decide +kernel
theorem dX4_gapsAbove_49 : decode cX4_gapsAbove 49 = .ok (.iload_n 2, 1) := by decide +kernel
theorem dX4_gapsAbove_50 : decode cX4_gapsAbove 50 = .ok (.aload_n 0, 1) := by decide +kernel
theorem dX4_gapsAbove_51 : decode cX4_gapsAbove 51 = .ok (.iload 4, 2) := by decide +kernel
theorem dX4_gapsAbove_53 : decode cX4_gapsAbove 53 = .ok (.iload_n 3, 1) := by decide +kernel
theorem dX4_gapsAbove_54 : decode cX4_gapsAbove 54 = .ok (.iload 4, 2) := by decide +kernel
theorem dX4_gapsAbove_56 : decode cX4_gapsAbove 56 = .ok (.iload_n 3, 1) := by decide +kernel
theorem dX4_gapsAbove_57 : decode cX4_gapsAbove 57 = .ok (.iconst 1, 1) := by decide +kernel
theorem dX4_gapsAbove_58 : decode cX4_gapsAbove 58 = .ok (.iadd, 1) := by decide +kernel
theorem dX4_gapsAbove_59 : decode cX4_gapsAbove 59 = .ok (.invokevirtual 263, 3) := by decide +kernel
theorem dX4_gapsAbove_62 : decode cX4_gapsAbove 62 = .ok (.fload_n 1, 1) := by decide +kernel
theorem dX4_gapsAbove_63 : decode cX4_gapsAbove 63 = .ok (.fcmp .l, 1) := by decide +kernel
theorem dX4_gapsAbove_64 : decode cX4_gapsAbove 64 = .ok (.ifCond .le 7, 3) := by decide +kernel
theorem dX4_gapsAbove_67 : decode cX4_gapsAbove 67 = .ok (.iconst 1, 1) := by decide +kernel
theorem dX4_gapsAbove_68 : decode cX4_gapsAbove 68 = .ok (.goto 4, 3) := by decide +kernel
theorem dX4_gapsAbove_71 : decode cX4_gapsAbove 71 = .ok (.iconst 0, 1) := by decide +kernel
theorem dX4_gapsAbove_72 : decode cX4_gapsAbove 72 = .ok (.iadd, 1) := by decide +kernel
theorem dX4_gapsAbove_73 : decode cX4_gapsAbove 73 = .ok (.istore_n 2, 1) := by decide +kernel
theorem dX4_gapsAbove_74 : decode cX4_gapsAbove 74 = .ok (.iinc 4 1, 3) := by decide +kernel
theorem dX4_gapsAbove_77 : decode cX4_gapsAbove 77 = .ok (.goto (-62), 3) := by decide +kernel
theorem dX4_gapsAbove_80 : decode cX4_gapsAbove 80 = .ok (.iinc 3 1, 3) := by decide +kernel
theorem dX4_gapsAbove_83 : decode cX4_gapsAbove 83 = .ok (.goto (-79), 3) := by decide +kernel
theorem dX4_gapsAbove_86 : decode cX4_gapsAbove 86 = .ok (.iload_n 2, 1) := by decide +kernel
theorem dX4_gapsAbove_87 : decode cX4_gapsAbove 87 = .ok (.ireturn, 1) := by decide +kernel
theorem dX4_gap_0 : decode cX4_gap 0 = .ok (.aload_n 0, 1) := by decide +kernel
theorem dX4_gap_1 : decode cX4_gap 1 = .ok (.iload_n 1, 1) := by decide +kernel
theorem dX4_gap_2 : decode cX4_gap 2 = .ok (.iload_n 2, 1) := by decide +kernel
theorem dX4_gap_3 : decode cX4_gap 3 = .ok (.iload_n 3, 1) := by decide +kernel
theorem dX4_gap_4 : decode cX4_gap 4 = .ok (.iload 4, 2) := by decide +kernel
theorem dX4_gap_6 : decode cX4_gap 6 = .ok (.invokevirtual 266, 3) := by decide +kernel
theorem dX4_gap_9 : decode cX4_gap 9 = .ok (.ifCond .eq 15, 3) := by decide +kernel
theorem dX4_gap_12 : decode cX4_gap 12 = .ok (.aload_n 0, 1) := by decide +kernel
theorem dX4_gap_13 : decode cX4_gap 13 = .ok (.iload_n 1, 1) := by decide +kernel
theorem dX4_gap_14 : decode cX4_gap 14 = .ok (.iload_n 2, 1) := by decide +kernel
theorem dX4_gap_15 : decode cX4_gap 15 = .ok (.iload_n 3, 1) := by decide +kernel
theorem dX4_gap_16 : decode cX4_gap 16 = .ok (.iload 4, 2) := by decide +kernel
theorem dX4_gap_18 : decode cX4_gap 18 = .ok (.invokevirtual 259, 3) := by decide +kernel
theorem dX4_gap_21 : decode cX4_gap 21 = .ok (.goto 5, 3) := by decide +kernel
theorem dX4_gap_24 : decode cX4_gap 24 = .ok (.ldc 238, 2) := by decide +kernel
theorem dX4_gap_26 : decode cX4_gap 26 = .ok (.freturn, 1) := by decide +kernel
theorem dX4_widestGap_0 : decode cX4_widestGap 0 = .ok (.fconst 0, 1) := by decide +kernel
theorem dX4_widestGap_1 : decode cX4_widestGap 1 = .ok (.fstore_n 1, 1) := by decide +kernel
theorem dX4_widestGap_2 : decode cX4_widestGap 2 = .ok (.iconst 0, 1) := by decide +kernel
theorem dX4_widestGap_3 : decode cX4_widestGap 3 = .ok (.istore_n 2, 1) := by decide +kernel
theorem dX4_widestGap_4 : decode cX4_widestGap 4 = .ok (.iload_n 2, 1) := by decide +kernel
theorem dX4_widestGap_5 : decode cX4_widestGap 5 = .ok (.aload_n 0, 1) := by decide +kernel
theorem dX4_widestGap_6 : decode cX4_widestGap 6 = .ok (.getfield 60, 3) := by decide +kernel
theorem dX4_widestGap_9 : decode cX4_widestGap 9 = .ok (.if_icmp .ge 77, 3) := by decide +kernel
theorem dX4_widestGap_12 : decode cX4_widestGap 12 = .ok (.iconst 0, 1) := by decide +kernel
theorem dX4_widestGap_13 : decode cX4_widestGap 13 = .ok (.istore_n 3, 1) := by decide +kernel
theorem dX4_widestGap_14 : decode cX4_widestGap 14 = .ok (.iload_n 3, 1) := by decide +kernel
theorem dX4_widestGap_15 : decode cX4_widestGap 15 = .ok (.aload_n 0, 1) := by decide +kernel
theorem dX4_widestGap_16 : decode cX4_widestGap 16 = .ok (.getfield 9, 3) := by decide +kernel
theorem dX4_widestGap_19 : decode cX4_widestGap 19 = .ok (.if_icmp .ge 61, 3) := by decide +kernel
theorem dX4_widestGap_22 : decode cX4_widestGap 22 = .ok (.aload_n 0, 1) := by decide +kernel
theorem dX4_widestGap_23 : decode cX4_widestGap 23 = .ok (.iload_n 3, 1) := by decide +kernel
theorem dX4_widestGap_24 : decode cX4_widestGap 24 = .ok (.iload_n 2, 1) := by decide +kernel
theorem dX4_widestGap_25 : decode cX4_widestGap 25 = .ok (.iload_n 3, 1) := by decide +kernel
theorem dX4_widestGap_26 : decode cX4_widestGap 26 = .ok (.iconst 1, 1) := by decide +kernel
theorem dX4_widestGap_27 : decode cX4_widestGap 27 = .ok (.iadd, 1) := by decide +kernel
theorem dX4_widestGap_28 : decode cX4_widestGap 28 = .ok (.iload_n 2, 1) := by decide +kernel
theorem dX4_widestGap_29 : decode cX4_widestGap 29 = .ok (.invokevirtual 263, 3) := by decide +kernel
theorem dX4_widestGap_32 : decode cX4_widestGap 32 = .ok (.fstore 4, 2) := by decide +kernel
theorem dX4_widestGap_34 : decode cX4_widestGap 34 = .ok (.aload_n 0, 1) := by decide +kernel
theorem dX4_widestGap_35 : decode cX4_widestGap 35 = .ok (.iload_n 3, 1) := by decide +kernel
theorem dX4_widestGap_36 : decode cX4_widestGap 36 = .ok (.iload_n 2, 1) := by decide +kernel
theorem dX4_widestGap_37 : decode cX4_widestGap 37 = .ok (.iload_n 3, 1) := by decide +kernel
theorem dX4_widestGap_38 : decode cX4_widestGap 38 = .ok (.iload_n 2, 1) := by decide +kernel
theorem dX4_widestGap_39 : decode cX4_widestGap 39 = .ok (.iconst 1, 1) := by decide +kernel
theorem dX4_widestGap_40 : decode cX4_widestGap 40 = .ok (.iadd, 1) := by decide +kernel
theorem dX4_widestGap_41 : decode cX4_widestGap 41 = .ok (.invokevirtual 263, 3) := by decide +kernel
theorem dX4_widestGap_44 : decode cX4_widestGap 44 = .ok (.fstore 5, 2) := by decide +kernel
theorem dX4_widestGap_46 : decode cX4_widestGap 46 = .ok (.fload 4, 2) := by decide +kernel
theorem dX4_widestGap_48 : decode cX4_widestGap 48 = .ok (.fload_n 1, 1) := by decide +kernel
theorem dX4_widestGap_49 : decode cX4_widestGap 49 = .ok (.fcmp .l, 1) := by decide +kernel
theorem dX4_widestGap_50 : decode cX4_widestGap 50 = .ok (.ifCond .le 8, 3) := by decide +kernel
theorem dX4_widestGap_53 : decode cX4_widestGap 53 = .ok (.fload 4, 2) := by decide +kernel
theorem dX4_widestGap_55 : decode cX4_widestGap 55 = .ok (.goto 4, 3) := by decide +kernel
theorem dX4_widestGap_58 : decode cX4_widestGap 58 = .ok (.fload_n 1, 1) := by decide +kernel
theorem dX4_widestGap_59 : decode cX4_widestGap 59 = .ok (.fstore_n 1, 1) := by decide +kernel
theorem dX4_widestGap_60 : decode cX4_widestGap 60 = .ok (.fload 5, 2) := by decide +kernel
theorem dX4_widestGap_62 : decode cX4_widestGap 62 = .ok (.fload_n 1, 1) := by decide +kernel
theorem dX4_widestGap_63 : decode cX4_widestGap 63 = .ok (.fcmp .l, 1) := by decide +kernel
theorem dX4_widestGap_64 : decode cX4_widestGap 64 = .ok (.ifCond .le 8, 3) := by decide +kernel
theorem dX4_widestGap_67 : decode cX4_widestGap 67 = .ok (.fload 5, 2) := by decide +kernel
theorem dX4_widestGap_69 : decode cX4_widestGap 69 = .ok (.goto 4, 3) := by decide +kernel
theorem dX4_widestGap_72 : decode cX4_widestGap 72 = .ok (.fload_n 1, 1) := by decide +kernel
theorem dX4_widestGap_73 : decode cX4_widestGap 73 = .ok (.fstore_n 1, 1) := by decide +kernel
theorem dX4_widestGap_74 : decode cX4_widestGap 74 = .ok (.iinc 3 1, 3) := by decide +kernel
theorem dX4_widestGap_77 : decode cX4_widestGap 77 = .ok (.goto (-63), 3) := by decide +kernel
theorem dX4_widestGap_80 : decode cX4_widestGap 80 = .ok (.iinc 2 1, 3) := by decide +kernel
theorem dX4_widestGap_83 : decode cX4_widestGap 83 = .ok (.goto (-79), 3) := by decide +kernel
theorem dX4_widestGap_86 : decode cX4_widestGap 86 = .ok (.fload_n 1, 1) := by decide +kernel
theorem dX4_widestGap_87 : decode cX4_widestGap 87 = .ok (.freturn, 1) := by decide +kernel
theorem dX5_init_0 : decode cX5_init 0 = .ok (.aload_n 0, 1) := by decide +kernel
theorem dX5_init_1 : decode cX5_init 1 = .ok (.invokespecial 3, 3) := by decide +kernel
theorem dX5_init_4 : decode cX5_init 4 = .ok (.aload_n 0, 1) := by decide +kernel
theorem dX5_init_5 : decode cX5_init 5 = .ok (.new 9, 3) := by decide +kernel
theorem dX5_init_8 : decode cX5_init 8 = .ok (.dup, 1) := by decide +kernel
theorem dX5_init_9 : decode cX5_init 9 = .ok (.bipush 16, 2) := by decide +kernel
theorem dX5_init_11 : decode cX5_init 11 = .ok (.invokespecial 11, 3) := by decide +kernel
theorem dX5_init_14 : decode cX5_init 14 = .ok (.putfield 14, 3) := by decide +kernel
theorem dX5_init_17 : decode cX5_init 17 = .ok (.aload_n 0, 1) := by decide +kernel
theorem dX5_init_18 : decode cX5_init 18 = .ok (.new 9, 3) := by decide +kernel
theorem dX5_init_21 : decode cX5_init 21 = .ok (.dup, 1) := by decide +kernel
theorem dX5_init_22 : decode cX5_init 22 = .ok (.bipush 16, 2) := by decide +kernel
theorem dX5_init_24 : decode cX5_init 24 = .ok (.invokespecial 11, 3) := by decide +kernel
theorem dX5_init_27 : decode cX5_init 27 = .ok (.putfield 20, 3) := by decide +kernel
theorem dX5_init_30 : decode cX5_init 30 = .ok (.aload_n 0, 1) := by decide +kernel
theorem dX5_init_31 : decode cX5_init 31 = .ok (.new 9, 3) := by decide +kernel
theorem dX5_init_34 : decode cX5_init 34 = .ok (.dup, 1) := by decide +kernel
theorem dX5_init_35 : decode cX5_init 35 = .ok (.bipush 16, 2) := by decide +kernel
theorem dX5_init_37 : decode cX5_init 37 = .ok (.invokespecial 11, 3) := by decide +kernel
theorem dX5_init_40 : decode cX5_init 40 = .ok (.putfield 23, 3) := by decide +kernel
theorem dX5_init_43 : decode cX5_init 43 = .ok (.aload_n 0, 1) := by decide +kernel
theorem dX5_init_44 : decode cX5_init 44 = .ok (.new 9, 3) := by decide +kernel
theorem dX5_init_47 : decode cX5_init 47 = .ok (.dup, 1) := by decide +kernel
theorem dX5_init_48 : decode cX5_init 48 = .ok (.bipush 16, 2) := by decide +kernel
theorem dX5_init_50 : decode cX5_init 50 = .ok (.invokespecial 11, 3) := by decide +kernel
theorem dX5_init_53 : decode cX5_init 53 = .ok (.putfield 26, 3) := by decide +kernel
theorem dX5_init_56 : decode cX5_init 56 = .ok (.aload_n 0, 1) := by decide +kernel
theorem dX5_init_57 : decode cX5_init 57 = .ok (.bipush 16, 2) := by decide +kernel
theorem dX5_init_59 : decode cX5_init 59 = .ok (.newarray .float, 2) := by decide +kernel
theorem dX5_init_61 : decode cX5_init 61 = .ok (.putfield 29, 3) := by decide +kernel
theorem dX5_init_64 : decode cX5_init 64 = .ok (.return_, 1) := by decide +kernel
theorem dX5_has_0 : decode cX5_has 0 = .ok (.iload_n 1, 1) := by decide +kernel
theorem dX5_has_1 : decode cX5_has 1 = .ok (.ifCond .lt 15, 3) := by decide +kernel
theorem dX5_has_4 : decode cX5_has 4 = .ok (.iload_n 1, 1) := by decide +kernel
theorem dX5_has_5 : decode cX5_has 5 = .ok (.aload_n 0, 1) := by decide +kernel
theorem dX5_has_6 : decode cX5_has 6 = .ok (.getfield 33, 3) := by decide +kernel
theorem dX5_has_9 : decode cX5_has 9 = .ok (.if_icmp .ge 7, 3) := by decide +kernel
theorem dX5_has_12 : decode cX5_has 12 = .ok (.iconst 1, 1) := by decide +kernel
theorem dX5_has_13 : decode cX5_has 13 = .ok (.goto 4, 3) := by decide +kernel
theorem dX5_has_16 : decode cX5_has 16 = .ok (.iconst 0, 1) := by decide +kernel
theorem dX5_has_17 : decode cX5_has 17 = .ok (.ireturn, 1) := by decide +kernel
theorem dX5_include_0 : decode cX5_include 0 = .ok (.aload_n 0, 1) := by decide +kernel
theorem dX5_include_1 : decode cX5_include 1 = .ok (.getfield 33, 3) := by decide +kernel
theorem dX5_include_4 : decode cX5_include 4 = .ok (.bipush 16, 2) := by decide +kernel
theorem dX5_include_6 : decode cX5_include 6 = .ok (.if_icmp .lt 5, 3) := by decide +kernel
theorem dX5_include_9 : decode cX5_include 9 = .ok (.iconst (-1), 1) := by decide +kernel
theorem dX5_include_10 : decode cX5_include 10 = .ok (.ireturn, 1) := by decide +kernel
theorem dX5_include_11 : decode cX5_include 11 = .ok (.aload_n 0, 1) := by decide +kernel
theorem dX5_include_12 : decode cX5_include 12 = .ok (.getfield 14, 3) := by decide +kernel
theorem dX5_include_15 : decode cX5_include 15 = .ok (.aload_n 0, 1) := by decide +kernel
theorem dX5_include_16 : decode cX5_include 16 = .ok (.getfield 33, 3) := by decide +kernel
theorem dX5_include_19 : decode cX5_include 19 = .ok (.iload_n 1, 1) := by decide +kernel
theorem dX5_include_20 : decode cX5_include 20 = .ok (.invokevirtual 37, 3) := by decide +kernel
theorem dX5_include_23 : decode cX5_include 23 = .ok (.aload_n 0, 1) := by decide +kernel
theorem dX5_include_24 : decode cX5_include 24 = .ok (.getfield 20, 3) := by decide +kernel
theorem dX5_include_27 : decode cX5_include 27 = .ok (.aload_n 0, 1) := by decide +kernel
theorem dX5_include_28 : decode cX5_include 28 = .ok (.getfield 33, 3) := by decide +kernel
theorem dX5_include_31 : decode cX5_include 31 = .ok (.iload_n 2, 1) := by decide +kernel
theorem dX5_include_32 : decode cX5_include 32 = .ok (.invokevirtual 37, 3) := by decide +kernel
theorem dX5_include_35 : decode cX5_include 35 = .ok (.aload_n 0, 1) := by decide +kernel
theorem dX5_include_36 : decode cX5_include 36 = .ok (.getfield 23, 3) := by decide +kernel
theorem dX5_include_39 : decode cX5_include 39 = .ok (.aload_n 0, 1) := by decide +kernel
theorem dX5_include_40 : decode cX5_include 40 = .ok (.getfield 33, 3) := by decide +kernel
theorem dX5_include_43 : decode cX5_include 43 = .ok (.iload_n 2, 1) := by decide +kernel
theorem dX5_include_44 : decode cX5_include 44 = .ok (.invokevirtual 37, 3) := by decide +kernel
theorem dX5_include_47 : decode cX5_include 47 = .ok (.aload_n 0, 1) := by decide +kernel
theorem dX5_include_48 : decode cX5_include 48 = .ok (.getfield 26, 3) := by decide +kernel
theorem dX5_include_51 : decode cX5_include 51 = .ok (.aload_n 0, 1) := by decide +kernel
theorem dX5_include_52 : decode cX5_include 52 = .ok (.getfield 33, 3) := by decide +kernel
theorem dX5_include_55 : decode cX5_include 55 = .ok (.iload_n 3, 1) := by decide +kernel
theorem dX5_include_56 : decode cX5_include 56 = .ok (.invokevirtual 37, 3) := by decide +kernel
theorem dX5_include_59 : decode cX5_include 59 = .ok (.aload_n 0, 1) := by decide +kernel
theorem dX5_include_60 : decode cX5_include 60 = .ok (.aload_n 0, 1) := by decide +kernel
theorem dX5_include_61 : decode cX5_include 61 = .ok (.getfield 33, 3) := by decide +kernel
theorem dX5_include_64 : decode cX5_include 64 = .ok (.iload_n 3, 1) := by decide +kernel
theorem dX5_include_65 : decode cX5_include 65 = .ok (.invokestatic 41, 3) := by decide +kernel
theorem dX5_include_68 : decode cX5_include 68 = .ok (.invokevirtual 47, 3) := by decide +kernel
theorem dX5_include_71 : decode cX5_include 71 = .ok (.aload_n 0, 1) := by decide +kernel
theorem dX5_include_72 : decode cX5_include 72 = .ok (.dup, 1) := by decide +kernel
theorem dX5_include_73 : decode cX5_include 73 = .ok (.getfield 33, 3) := by decide +kernel
theorem dX5_include_76 : decode cX5_include 76 = .ok (.iconst 1, 1) := by decide +kernel
theorem dX5_include_77 : decode cX5_include 77 = .ok (.iadd, 1) := by decide +kernel
theorem dX5_include_78 : decode cX5_include 78 = .ok (.putfield 33, 3) := by decide +kernel
theorem dX5_include_81 : decode cX5_include 81 = .ok (.aload_n 0, 1) := by decide +kernel
theorem dX5_include_82 : decode cX5_include 82 = .ok (.getfield 33, 3) := by decide +kernel
theorem dX5_include_85 : decode cX5_include 85 = .ok (.iconst 1, 1) := by decide +kernel
theorem dX5_include_86 : decode cX5_include 86 = .ok (.isub, 1) := by decide +kernel
theorem dX5_include_87 : decode cX5_include 87 = .ok (.ireturn, 1) := by decide +kernel
theorem dX5_shadeOf_0 : decode cX5_shadeOf 0 = .ok (.iload_n 1, 1) := by decide +kernel
theorem dX5_shadeOf_1 : decode cX5_shadeOf 1 = .ok (.ifCond .lt 21, 3) := by decide +kernel
theorem dX5_shadeOf_4 : decode cX5_shadeOf 4 = .ok (.iload_n 1, 1) := by decide +kernel
theorem dX5_shadeOf_5 : decode cX5_shadeOf 5 = .ok (.aload_n 0, 1) := by decide +kernel
theorem dX5_shadeOf_6 : decode cX5_shadeOf 6 = .ok (.getfield 29, 3) := by decide +kernel
theorem dX5_shadeOf_9 : decode cX5_shadeOf 9 = .ok (.arraylength, 1) := by decide +kernel
theorem dX5_shadeOf_10 : decode cX5_shadeOf 10 = .ok (.if_icmp .ge 12, 3) := by decide +kernel
theorem dX5_shadeOf_13 : decode cX5_shadeOf 13 = .ok (.aload_n 0, 1) := by decide +kernel
theorem dX5_shadeOf_14 : decode cX5_shadeOf 14 = .ok (.getfield 29, 3) := by decide +kernel
theorem dX5_shadeOf_17 : decode cX5_shadeOf 17 = .ok (.iload_n 1, 1) := by decide +kernel
theorem dX5_shadeOf_18 : decode cX5_shadeOf 18 = .ok (.faload, 1) := by decide +kernel
theorem dX5_shadeOf_19 : decode cX5_shadeOf 19 = .ok (.goto 4, 3) := by decide +kernel
theorem dX5_shadeOf_22 : decode cX5_shadeOf 22 = .ok (.fconst 0, 1) := by decide +kernel
theorem dX5_shadeOf_23 : decode cX5_shadeOf 23 = .ok (.freturn, 1) := by decide +kernel
theorem dX5_putShade_0 : decode cX5_putShade 0 = .ok (.iload_n 1, 1) := by decide +kernel
theorem dX5_putShade_1 : decode cX5_putShade 1 = .ok (.ifCond .lt 19, 3) := by decide +kernel
theorem dX5_putShade_4 : decode cX5_putShade 4 = .ok (.iload_n 1, 1) := by decide +kernel
theorem dX5_putShade_5 : decode cX5_putShade 5 = .ok (.aload_n 0, 1) := by decide +kernel
theorem dX5_putShade_6 : decode cX5_putShade 6 = .ok (.getfield 29, 3) := by decide +kernel
theorem dX5_putShade_9 : decode cX5_putShade 9 = .ok (.arraylength, 1) := by decide +kernel
theorem dX5_putShade_10 : decode cX5_putShade 10 = .ok (.if_icmp .ge 10, 3) := by decide +kernel
theorem dX5_putShade_13 : decode cX5_putShade 13 = .ok (.aload_n 0, 1) := by decide +kernel
theorem dX5_putShade_14 : decode cX5_putShade 14 = .ok (.getfield 29, 3) := by decide +kernel
theorem dX5_putShade_17 : decode cX5_putShade 17 = .ok (.iload_n 1, 1) := by decide +kernel
theorem dX5_putShade_18 : decode cX5_putShade 18 = .ok (.fload_n 2, 1) := by decide +kernel
theorem dX5_putShade_19 : decode cX5_putShade 19 = .ok (.fastore, 1) := by decide +kernel
theorem dX5_putShade_20 : decode cX5_putShade 20 = .ok (.return_, 1) := by decide +kernel
theorem dX5_inUse_0 : decode cX5_inUse 0 = .ok (.iconst 0, 1) := by decide +kernel
theorem dX5_inUse_1 : decode cX5_inUse 1 = .ok (.istore_n 2, 1) := by decide +kernel
theorem dX5_inUse_2 : decode cX5_inUse 2 = .ok (.iload_n 2, 1) := by decide +kernel
theorem dX5_inUse_3 : decode cX5_inUse 3 = .ok (.aload_n 0, 1) := by decide +kernel
theorem dX5_inUse_4 : decode cX5_inUse 4 = .ok (.getfield 33, 3) := by decide +kernel
theorem dX5_inUse_7 : decode cX5_inUse 7 = .ok (.if_icmp .ge 34, 3) := by decide +kernel
theorem dX5_inUse_10 : decode cX5_inUse 10 = .ok (.aload_n 0, 1) := by decide +kernel
theorem dX5_inUse_11 : decode cX5_inUse 11 = .ok (.getfield 14, 3) := by decide +kernel
theorem dX5_inUse_14 : decode cX5_inUse 14 = .ok (.iload_n 2, 1) := by decide +kernel
theorem dX5_inUse_15 : decode cX5_inUse 15 = .ok (.invokevirtual 51, 3) := by decide +kernel
theorem dX5_inUse_18 : decode cX5_inUse 18 = .ok (.iload_n 1, 1) := by decide +kernel
theorem dX5_inUse_19 : decode cX5_inUse 19 = .ok (.if_icmp .ne 16, 3) := by decide +kernel
theorem dX5_inUse_22 : decode cX5_inUse 22 = .ok (.aload_n 0, 1) := by decide +kernel
theorem dX5_inUse_23 : decode cX5_inUse 23 = .ok (.getfield 23, 3) := by decide +kernel
theorem dX5_inUse_26 : decode cX5_inUse 26 = .ok (.iload_n 2, 1) := by decide +kernel
theorem dX5_inUse_27 : decode cX5_inUse 27 = .ok (.invokevirtual 51, 3) := by decide +kernel
theorem dX5_inUse_30 : decode cX5_inUse 30 = .ok (.ifCond .le 5, 3) := by decide +kernel
theorem dX5_inUse_33 : decode cX5_inUse 33 = .ok (.iload_n 2, 1) := by decide +kernel
theorem dX5_inUse_34 : decode cX5_inUse 34 = .ok (.ireturn, 1) := by decide +kernel
theorem dX5_inUse_35 : decode cX5_inUse 35 = .ok (.iinc 2 1, 3) := by decide +kernel
theorem dX5_inUse_38 : decode cX5_inUse 38 = .ok (.goto (-36), 3) := by decide +kernel
theorem dX5_inUse_41 : decode cX5_inUse 41 = .ok (.iconst (-1), 1) := by decide +kernel
theorem dX5_inUse_42 : decode cX5_inUse 42 = .ok (.ireturn, 1) := by decide +kernel
theorem dX5_countOf_0 : decode cX5_countOf 0 = .ok (.iconst 0, 1) := by decide +kernel
theorem dX5_countOf_1 : decode cX5_countOf 1 = .ok (.istore_n 2, 1) := by decide +kernel
theorem dX5_countOf_2 : decode cX5_countOf 2 = .ok (.iconst 0, 1) := by decide +kernel
theorem dX5_countOf_3 : decode cX5_countOf 3 = .ok (.istore_n 3, 1) := by decide +kernel
theorem dX5_countOf_4 : decode cX5_countOf 4 = .ok (.iload_n 3, 1) := by decide +kernel
theorem dX5_countOf_5 : decode cX5_countOf 5 = .ok (.aload_n 0, 1) := by decide +kernel
theorem dX5_countOf_6 : decode cX5_countOf 6 = .ok (.getfield 33, 3) := by decide +kernel
theorem dX5_countOf_9 : decode cX5_countOf 9 = .ok (.if_icmp .ge 29, 3) := by decide +kernel
theorem dX5_countOf_12 : decode cX5_countOf 12 = .ok (.iload_n 2, 1) := by decide +kernel
theorem dX5_countOf_13 : decode cX5_countOf 13 = .ok (.aload_n 0, 1) := by decide +kernel
theorem dX5_countOf_14 : decode cX5_countOf 14 = .ok (.getfield 14, 3) := by decide +kernel
theorem dX5_countOf_17 : decode cX5_countOf 17 = .ok (.iload_n 3, 1) := by decide +kernel
theorem dX5_countOf_18 : decode cX5_countOf 18 = .ok (.invokevirtual 51, 3) := by decide +kernel
theorem dX5_countOf_21 : decode cX5_countOf 21 = .ok (.iload_n 1, 1) := by decide +kernel
theorem dX5_countOf_22 : decode cX5_countOf 22 = .ok (.if_icmp .ne 7, 3) := by decide +kernel
theorem dX5_countOf_25 : decode cX5_countOf 25 = .ok (.iconst 1, 1) := by decide +kernel
theorem dX5_countOf_26 : decode cX5_countOf 26 = .ok (.goto 4, 3) := by decide +kernel
theorem dX5_countOf_29 : decode cX5_countOf 29 = .ok (.iconst 0, 1) := by decide +kernel
theorem dX5_countOf_30 : decode cX5_countOf 30 = .ok (.iadd, 1) := by decide +kernel
theorem dX5_countOf_31 : decode cX5_countOf 31 = .ok (.istore_n 2, 1) := by decide +kernel
theorem dX5_countOf_32 : decode cX5_countOf 32 = .ok (.iinc 3 1, 3) := by decide +kernel
theorem dX5_countOf_35 : decode cX5_countOf 35 = .ok (.goto (-31), 3) := by decide +kernel
theorem dX5_countOf_38 : decode cX5_countOf 38 = .ok (.iload_n 2, 1) := by decide +kernel
theorem dX5_countOf_39 : decode cX5_countOf 39 = .ok (.ireturn, 1) := by decide +kernel
theorem dX5_leftOf_0 : decode cX5_leftOf 0 = .ok (.iconst 0, 1) := by decide +kernel
theorem dX5_leftOf_1 : decode cX5_leftOf 1 = .ok (.istore_n 2, 1) := by decide +kernel
theorem dX5_leftOf_2 : decode cX5_leftOf 2 = .ok (.iconst 0, 1) := by decide +kernel
theorem dX5_leftOf_3 : decode cX5_leftOf 3 = .ok (.istore_n 3, 1) := by decide +kernel
theorem dX5_leftOf_4 : decode cX5_leftOf 4 = .ok (.iload_n 3, 1) := by decide +kernel
theorem dX5_leftOf_5 : decode cX5_leftOf 5 = .ok (.aload_n 0, 1) := by decide +kernel
theorem dX5_leftOf_6 : decode cX5_leftOf 6 = .ok (.getfield 33, 3) := by decide +kernel
theorem dX5_leftOf_9 : decode cX5_leftOf 9 = .ok (.if_icmp .ge 36, 3) := by decide +kernel
theorem dX5_leftOf_12 : decode cX5_leftOf 12 = .ok (.iload_n 2, 1) := by decide +kernel
theorem dX5_leftOf_13 : decode cX5_leftOf 13 = .ok (.aload_n 0, 1) := by decide +kernel
theorem dX5_leftOf_14 : decode cX5_leftOf 14 = .ok (.getfield 14, 3) := by decide +kernel
theorem dX5_leftOf_17 : decode cX5_leftOf 17 = .ok (.iload_n 3, 1) := by decide +kernel
theorem dX5_leftOf_18 : decode cX5_leftOf 18 = .ok (.invokevirtual 51, 3) := by decide +kernel
theorem dX5_leftOf_21 : decode cX5_leftOf 21 = .ok (.iload_n 1, 1) := by decide +kernel
theorem dX5_leftOf_22 : decode cX5_leftOf 22 = .ok (.if_icmp .ne 14, 3) := by decide +kernel
theorem dX5_leftOf_25 : decode cX5_leftOf 25 = .ok (.aload_n 0, 1) := by decide +kernel
theorem dX5_leftOf_26 : decode cX5_leftOf 26 = .ok (.getfield 23, 3) := by decide +kernel
theorem dX5_leftOf_29 : decode cX5_leftOf 29 = .ok (.iload_n 3, 1) := by decide +kernel
theorem dX5_leftOf_30 : decode cX5_leftOf 30 = .ok (.invokevirtual 51, 3) := by decide +kernel
theorem dX5_leftOf_33 : decode cX5_leftOf 33 = .ok (.goto 4, 3) := by decide +kernel
theorem dX5_leftOf_36 : decode cX5_leftOf 36 = .ok (.iconst 0, 1) := by decide +kernel
theorem dX5_leftOf_37 : decode cX5_leftOf 37 = .ok (.iadd, 1) := by decide +kernel
theorem dX5_leftOf_38 : decode cX5_leftOf 38 = .ok (.istore_n 2, 1) := by decide +kernel
theorem dX5_leftOf_39 : decode cX5_leftOf 39 = .ok (.iinc 3 1, 3) := by decide +kernel
theorem dX5_leftOf_42 : decode cX5_leftOf 42 = .ok (.goto (-38), 3) := by decide +kernel
theorem dX5_leftOf_45 : decode cX5_leftOf 45 = .ok (.iload_n 2, 1) := by decide +kernel
theorem dX5_leftOf_46 : decode cX5_leftOf 46 = .ok (.ireturn, 1) := by decide +kernel
theorem dX5_take_0 : decode cX5_take 0 = .ok (.aload_n 0, 1) := by decide +kernel
theorem dX5_take_1 : decode cX5_take 1 = .ok (.iload_n 1, 1) := by decide +kernel
theorem dX5_take_2 : decode cX5_take 2 = .ok (.invokevirtual 55, 3) := by decide +kernel
theorem dX5_take_5 : decode cX5_take 5 = .ok (.istore_n 2, 1) := by decide +kernel
theorem dX5_take_6 : decode cX5_take 6 = .ok (.aload_n 0, 1) := by decide +kernel
theorem dX5_take_7 : decode cX5_take 7 = .ok (.getfield 23, 3) := by decide +kernel
theorem dX5_take_10 : decode cX5_take 10 = .ok (.iload_n 2, 1) := by decide +kernel
theorem dX5_take_11 : decode cX5_take 11 = .ok (.aload_n 0, 1) := by decide +kernel
theorem dX5_take_12 : decode cX5_take 12 = .ok (.getfield 23, 3) := by decide +kernel
theorem dX5_take_15 : decode cX5_take 15 = .ok (.iload_n 2, 1) := by decide +kernel
theorem dX5_take_16 : decode cX5_take 16 = .ok (.invokevirtual 51, 3) := by decide +kernel
theorem dX5_take_19 : decode cX5_take 19 = .ok (.iconst 1, 1) := by decide +kernel
theorem dX5_take_20 : decode cX5_take 20 = .ok (.isub, 1) := by decide +kernel
theorem dX5_take_21 : decode cX5_take 21 = .ok (.invokevirtual 37, 3) := by decide +kernel
theorem dX5_take_24 : decode cX5_take 24 = .ok (.iload_n 2, 1) := by decide +kernel
theorem dX5_take_25 : decode cX5_take 25 = .ok (.ireturn, 1) := by decide +kernel
theorem dX5_giveBack_0 : decode cX5_giveBack 0 = .ok (.aload_n 0, 1) := by decide +kernel
theorem dX5_giveBack_1 : decode cX5_giveBack 1 = .ok (.getfield 23, 3) := by decide +kernel
theorem dX5_giveBack_4 : decode cX5_giveBack 4 = .ok (.iload_n 1, 1) := by decide +kernel
theorem dX5_giveBack_5 : decode cX5_giveBack 5 = .ok (.aload_n 0, 1) := by decide +kernel
theorem dX5_giveBack_6 : decode cX5_giveBack 6 = .ok (.getfield 23, 3) := by decide +kernel
theorem dX5_giveBack_9 : decode cX5_giveBack 9 = .ok (.iload_n 1, 1) := by decide +kernel
theorem dX5_giveBack_10 : decode cX5_giveBack 10 = .ok (.invokevirtual 51, 3) := by decide +kernel
theorem dX5_giveBack_13 : decode cX5_giveBack 13 = .ok (.iconst 1, 1) := by decide +kernel
theorem dX5_giveBack_14 : decode cX5_giveBack 14 = .ok (.iadd, 1) := by decide +kernel
theorem dX5_giveBack_15 : decode cX5_giveBack 15 = .ok (.invokevirtual 37, 3) := by decide +kernel
theorem dX5_giveBack_18 : decode cX5_giveBack 18 = .ok (.return_, 1) := by decide +kernel
theorem dX5_copyFrom_0 : decode cX5_copyFrom 0 = .ok (.aload_n 0, 1) := by decide +kernel
theorem dX5_copyFrom_1 : decode cX5_copyFrom 1 = .ok (.aload_n 1, 1) := by decide +kernel
theorem dX5_copyFrom_2 : decode cX5_copyFrom 2 = .ok (.getfield 33, 3) := by decide +kernel
theorem dX5_copyFrom_5 : decode cX5_copyFrom 5 = .ok (.putfield 33, 3) := by decide +kernel
theorem dX5_copyFrom_8 : decode cX5_copyFrom 8 = .ok (.aload_n 0, 1) := by decide +kernel
theorem dX5_copyFrom_9 : decode cX5_copyFrom 9 = .ok (.getfield 14, 3) := by decide +kernel
theorem dX5_copyFrom_12 : decode cX5_copyFrom 12 = .ok (.aload_n 1, 1) := by decide +kernel
theorem dX5_copyFrom_13 : decode cX5_copyFrom 13 = .ok (.getfield 14, 3) := by decide +kernel
theorem dX5_copyFrom_16 : decode cX5_copyFrom 16 = .ok (.invokevirtual 58, 3) := by decide +kernel
theorem dX5_copyFrom_19 : decode cX5_copyFrom 19 = .ok (.aload_n 0, 1) := by decide +kernel
theorem dX5_copyFrom_20 : decode cX5_copyFrom 20 = .ok (.getfield 20, 3) := by decide +kernel
theorem dX5_copyFrom_23 : decode cX5_copyFrom 23 = .ok (.aload_n 1, 1) := by decide +kernel
theorem dX5_copyFrom_24 : decode cX5_copyFrom 24 = .ok (.getfield 20, 3) := by decide +kernel
theorem dX5_copyFrom_27 : decode cX5_copyFrom 27 = .ok (.invokevirtual 58, 3) := by decide +kernel
theorem dX5_copyFrom_30 : decode cX5_copyFrom 30 = .ok (.aload_n 0, 1) := by decide +kernel
theorem dX5_copyFrom_31 : decode cX5_copyFrom 31 = .ok (.getfield 23, 3) := by decide +kernel
theorem dX5_copyFrom_34 : decode cX5_copyFrom 34 = .ok (.aload_n 1, 1) := by decide +kernel
theorem dX5_copyFrom_35 : decode cX5_copyFrom 35 = .ok (.getfield 23, 3) := by decide +kernel
theorem dX5_copyFrom_38 : decode cX5_copyFrom 38 = .ok (.invokevirtual 58, 3) := by decide +kernel
theorem dX5_copyFrom_41 : decode cX5_copyFrom 41 = .ok (.aload_n 0, 1) := by decide +kernel
theorem dX5_copyFrom_42 : decode cX5_copyFrom 42 = .ok (.getfield 26, 3) := by decide +kernel
theorem dX5_copyFrom_45 : decode cX5_copyFrom 45 = .ok (.aload_n 1, 1) := by decide +kernel
theorem dX5_copyFrom_46 : decode cX5_copyFrom 46 = .ok (.getfield 26, 3) := by decide +kernel
theorem dX5_copyFrom_49 : decode cX5_copyFrom 49 = .ok (.invokevirtual 58, 3) := by decide +kernel
theorem dX5_copyFrom_52 : decode cX5_copyFrom 52 = .ok (.iconst 0, 1) := by decide +kernel
theorem dX5_copyFrom_53 : decode cX5_copyFrom 53 = .ok (.istore_n 2, 1) := by decide +kernel
theorem dX5_copyFrom_54 : decode cX5_copyFrom 54 = .ok (.iload_n 2, 1) := by decide +kernel
theorem dX5_copyFrom_55 : decode cX5_copyFrom 55 = .ok (.bipush 16, 2) := by decide +kernel
theorem dX5_copyFrom_57 : decode cX5_copyFrom 57 = .ok (.if_icmp .ge 19, 3) := by decide +kernel
theorem dX5_copyFrom_60 : decode cX5_copyFrom 60 = .ok (.aload_n 0, 1) := by decide +kernel
theorem dX5_copyFrom_61 : decode cX5_copyFrom 61 = .ok (.iload_n 2, 1) := by decide +kernel
theorem dX5_copyFrom_62 : decode cX5_copyFrom 62 = .ok (.aload_n 1, 1) := by decide +kernel
theorem dX5_copyFrom_63 : decode cX5_copyFrom 63 = .ok (.iload_n 2, 1) := by decide +kernel
theorem dX5_copyFrom_64 : decode cX5_copyFrom 64 = .ok (.invokevirtual 62, 3) := by decide +kernel
theorem dX5_copyFrom_67 : decode cX5_copyFrom 67 = .ok (.invokevirtual 47, 3) := by decide +kernel
theorem dX5_copyFrom_70 : decode cX5_copyFrom 70 = .ok (.iinc 2 1, 3) := by decide +kernel
theorem dX5_copyFrom_73 : decode cX5_copyFrom 73 = .ok (.goto (-19), 3) := by decide +kernel
theorem dX5_copyFrom_76 : decode cX5_copyFrom 76 = .ok (.return_, 1) := by decide +kernel
theorem dX6_init_0 : decode cX6_init 0 = .ok (.aload_n 0, 1) := by decide +kernel
theorem dX6_init_1 : decode cX6_init 1 = .ok (.invokespecial 3, 3) := by decide +kernel
theorem dX6_init_4 : decode cX6_init 4 = .ok (.aload_n 0, 1) := by decide +kernel
theorem dX6_init_5 : decode cX6_init 5 = .ok (.iload_n 1, 1) := by decide +kernel
theorem dX6_init_6 : decode cX6_init 6 = .ok (.iconst 0, 1) := by decide +kernel
theorem dX6_init_7 : decode cX6_init 7 = .ok (.invokestatic 9, 3) := by decide +kernel
theorem dX6_init_10 : decode cX6_init 10 = .ok (.newarray .int, 2) := by decide +kernel
theorem dX6_init_12 : decode cX6_init 12 = .ok (.putfield 15, 3) := by decide +kernel
theorem dX6_init_15 : decode cX6_init 15 = .ok (.return_, 1) := by decide +kernel
theorem dX6_at_0 : decode cX6_at 0 = .ok (.iload_n 1, 1) := by decide +kernel
theorem dX6_at_1 : decode cX6_at 1 = .ok (.ifCond .lt 21, 3) := by decide +kernel
theorem dX6_at_4 : decode cX6_at 4 = .ok (.iload_n 1, 1) := by decide +kernel
theorem dX6_at_5 : decode cX6_at 5 = .ok (.aload_n 0, 1) := by decide +kernel
theorem dX6_at_6 : decode cX6_at 6 = .ok (.getfield 15, 3) := by decide +kernel
theorem dX6_at_9 : decode cX6_at 9 = .ok (.arraylength, 1) := by decide +kernel
theorem dX6_at_10 : decode cX6_at 10 = .ok (.if_icmp .ge 12, 3) := by decide +kernel
theorem dX6_at_13 : decode cX6_at 13 = .ok (.aload_n 0, 1) := by decide +kernel
theorem dX6_at_14 : decode cX6_at 14 = .ok (.getfield 15, 3) := by decide +kernel
theorem dX6_at_17 : decode cX6_at 17 = .ok (.iload_n 1, 1) := by decide +kernel
theorem dX6_at_18 : decode cX6_at 18 = .ok (.iaload, 1) := by decide +kernel
theorem dX6_at_19 : decode cX6_at 19 = .ok (.goto 4, 3) := by decide +kernel
theorem dX6_at_22 : decode cX6_at 22 = .ok (.iconst (-1), 1) := by decide +kernel
theorem dX6_at_23 : decode cX6_at 23 = .ok (.ireturn, 1) := by decide +kernel
theorem dX6_put_0 : decode cX6_put 0 = .ok (.iload_n 1, 1) := by decide +kernel
theorem dX6_put_1 : decode cX6_put 1 = .ok (.ifCond .lt 19, 3) := by decide +kernel
theorem dX6_put_4 : decode cX6_put 4 = .ok (.iload_n 1, 1) := by decide +kernel
theorem dX6_put_5 : decode cX6_put 5 = .ok (.aload_n 0, 1) := by decide +kernel
theorem dX6_put_6 : decode cX6_put 6 = .ok (.getfield 15, 3) := by decide +kernel
theorem dX6_put_9 : decode cX6_put 9 = .ok (.arraylength, 1) := by decide +kernel
theorem dX6_put_10 : decode cX6_put 10 = .ok (.if_icmp .ge 10, 3) := by decide +kernel
theorem dX6_put_13 : decode cX6_put 13 = .ok (.aload_n 0, 1) := by decide +kernel
theorem dX6_put_14 : decode cX6_put 14 = .ok (.getfield 15, 3) := by decide +kernel
theorem dX6_put_17 : decode cX6_put 17 = .ok (.iload_n 1, 1) := by decide +kernel
theorem dX6_put_18 : decode cX6_put 18 = .ok (.iload_n 2, 1) := by decide +kernel
theorem dX6_put_19 : decode cX6_put 19 = .ok (.iastore, 1) := by decide +kernel
theorem dX6_put_20 : decode cX6_put 20 = .ok (.return_, 1) := by decide +kernel
theorem dX6_putAll_0 : decode cX6_putAll 0 = .ok (.iconst 0, 1) := by decide +kernel
theorem dX6_putAll_1 : decode cX6_putAll 1 = .ok (.istore_n 2, 1) := by decide +kernel
theorem dX6_putAll_2 : decode cX6_putAll 2 = .ok (.iload_n 2, 1) := by decide +kernel
theorem dX6_putAll_3 : decode cX6_putAll 3 = .ok (.aload_n 0, 1) := by decide +kernel
theorem dX6_putAll_4 : decode cX6_putAll 4 = .ok (.getfield 15, 3) := by decide +kernel
theorem dX6_putAll_7 : decode cX6_putAll 7 = .ok (.arraylength, 1) := by decide +kernel
theorem dX6_putAll_8 : decode cX6_putAll 8 = .ok (.if_icmp .ge 16, 3) := by decide +kernel
theorem dX6_putAll_11 : decode cX6_putAll 11 = .ok (.aload_n 0, 1) := by decide +kernel
theorem dX6_putAll_12 : decode cX6_putAll 12 = .ok (.getfield 15, 3) := by decide +kernel
theorem dX6_putAll_15 : decode cX6_putAll 15 = .ok (.iload_n 2, 1) := by decide +kernel
theorem dX6_putAll_16 : decode cX6_putAll 16 = .ok (.iload_n 1, 1) := by decide +kernel
theorem dX6_putAll_17 : decode cX6_putAll 17 = .ok (.iastore, 1) := by decide +kernel
theorem dX6_putAll_18 : decode cX6_putAll 18 = .ok (.iinc 2 1, 3) := by decide +kernel
theorem dX6_putAll_21 : decode cX6_putAll 21 = .ok (.goto (-19), 3) := by decide +kernel
theorem dX6_putAll_24 : decode cX6_putAll 24 = .ok (.return_, 1) := by decide +kernel
theorem dX6_copyFrom_0 : decode cX6_copyFrom 0 = .ok (.iconst 0, 1) := by decide +kernel
theorem dX6_copyFrom_1 : decode cX6_copyFrom 1 = .ok (.istore_n 2, 1) := by decide +kernel
theorem dX6_copyFrom_2 : decode cX6_copyFrom 2 = .ok (.iload_n 2, 1) := by decide +kernel
theorem dX6_copyFrom_3 : decode cX6_copyFrom 3 = .ok (.aload_n 0, 1) := by decide +kernel
theorem dX6_copyFrom_4 : decode cX6_copyFrom 4 = .ok (.getfield 15, 3) := by decide +kernel
theorem dX6_copyFrom_7 : decode cX6_copyFrom 7 = .ok (.arraylength, 1) := by decide +kernel
theorem dX6_copyFrom_8 : decode cX6_copyFrom 8 = .ok (.if_icmp .ge 20, 3) := by decide +kernel
theorem dX6_copyFrom_11 : decode cX6_copyFrom 11 = .ok (.aload_n 0, 1) := by decide +kernel
theorem dX6_copyFrom_12 : decode cX6_copyFrom 12 = .ok (.getfield 15, 3) := by decide +kernel
theorem dX6_copyFrom_15 : decode cX6_copyFrom 15 = .ok (.iload_n 2, 1) := by decide +kernel
theorem dX6_copyFrom_16 : decode cX6_copyFrom 16 = .ok (.aload_n 1, 1) := by decide +kernel
theorem dX6_copyFrom_17 : decode cX6_copyFrom 17 = .ok (.iload_n 2, 1) := by decide +kernel
theorem dX6_copyFrom_18 : decode cX6_copyFrom 18 = .ok (.invokevirtual 21, 3) := by decide +kernel
theorem dX6_copyFrom_21 : decode cX6_copyFrom 21 = .ok (.iastore, 1) := by decide +kernel
theorem dX6_copyFrom_22 : decode cX6_copyFrom 22 = .ok (.iinc 2 1, 3) := by decide +kernel
theorem dX6_copyFrom_25 : decode cX6_copyFrom 25 = .ok (.goto (-23), 3) := by decide +kernel
theorem dX6_copyFrom_28 : decode cX6_copyFrom 28 = .ok (.return_, 1) := by decide +kernel
theorem dX6_countOthersThan_0 : decode cX6_countOthersThan 0 = .ok (.iconst 0, 1) := by decide +kernel
theorem dX6_countOthersThan_1 : decode cX6_countOthersThan 1 = .ok (.istore_n 2, 1) := by decide +kernel
theorem dX6_countOthersThan_2 : decode cX6_countOthersThan 2 = .ok (.iconst 0, 1) := by decide +kernel
theorem dX6_countOthersThan_3 : decode cX6_countOthersThan 3 = .ok (.istore_n 3, 1) := by decide +kernel
theorem dX6_countOthersThan_4 : decode cX6_countOthersThan 4 = .ok (.iload_n 3, 1) := by decide +kernel
theorem dX6_countOthersThan_5 : decode cX6_countOthersThan 5 = .ok (.aload_n 0, 1) := by decide +kernel
theorem dX6_countOthersThan_6 : decode cX6_countOthersThan 6 = .ok (.getfield 15, 3) := by decide +kernel
theorem dX6_countOthersThan_9 : decode cX6_countOthersThan 9 = .ok (.arraylength, 1) := by decide +kernel
theorem dX6_countOthersThan_10 : decode cX6_countOthersThan 10 = .ok (.if_icmp .ge 27, 3) := by decide +kernel
theorem dX6_countOthersThan_13 : decode cX6_countOthersThan 13 = .ok (.iload_n 2, 1) := by decide +kernel
theorem dX6_countOthersThan_14 : decode cX6_countOthersThan 14 = .ok (.aload_n 0, 1) := by decide +kernel
theorem dX6_countOthersThan_15 : decode cX6_countOthersThan 15 = .ok (.getfield 15, 3) := by decide +kernel
theorem dX6_countOthersThan_18 : decode cX6_countOthersThan 18 = .ok (.iload_n 3, 1) := by decide +kernel
theorem dX6_countOthersThan_19 : decode cX6_countOthersThan 19 = .ok (.iaload, 1) := by decide +kernel
theorem dX6_countOthersThan_20 : decode cX6_countOthersThan 20 = .ok (.iload_n 1, 1) := by decide +kernel
theorem dX6_countOthersThan_21 : decode cX6_countOthersThan 21 = .ok (.if_icmp .eq 7, 3) := by decide +kernel
theorem dX6_countOthersThan_24 : decode cX6_countOthersThan 24 = .ok (.iconst 1, 1) := by decide +kernel
theorem dX6_countOthersThan_25 : decode cX6_countOthersThan 25 = .ok (.goto 4, 3) := by decide +kernel
theorem dX6_countOthersThan_28 : decode cX6_countOthersThan 28 = .ok (.iconst 0, 1) := by decide +kernel
theorem dX6_countOthersThan_29 : decode cX6_countOthersThan 29 = .ok (.iadd, 1) := by decide +kernel
theorem dX6_countOthersThan_30 : decode cX6_countOthersThan 30 = .ok (.istore_n 2, 1) := by decide +kernel
theorem dX6_countOthersThan_31 : decode cX6_countOthersThan 31 = .ok (.iinc 3 1, 3) := by decide +kernel
theorem dX6_countOthersThan_34 : decode cX6_countOthersThan 34 = .ok (.goto (-30), 3) := by decide +kernel
theorem dX6_countOthersThan_37 : decode cX6_countOthersThan 37 = .ok (.iload_n 2, 1) := by decide +kernel
theorem dX6_countOthersThan_38 : decode cX6_countOthersThan 38 = .ok (.ireturn, 1) := by decide +kernel
theorem dX7_isShade_0 : decode cX7_isShade 0 = .ok (.iload_n 0, 1) := by decide +kernel
theorem dX7_isShade_1 : decode cX7_isShade 1 = .ok (.ldc 9, 2) := by decide +kernel
theorem dX7_isShade_3 : decode cX7_isShade 3 = .ok (.if_icmp .eq 13, 3) := by decide +kernel
theorem dX7_isShade_6 : decode cX7_isShade 6 = .ok (.iconst 0, 1) := by decide +kernel
theorem dX7_isShade_7 : decode cX7_isShade 7 = .ok (.iload_n 0, 1) := by decide +kernel
theorem dX7_isShade_8 : decode cX7_isShade 8 = .ok (.ldc 10, 2) := by decide +kernel
theorem dX7_isShade_10 : decode cX7_isShade 10 = .ok (.invokestatic 11, 3) := by decide +kernel
theorem dX7_isShade_13 : decode cX7_isShade 13 = .ok (.ifCond .eq 7, 3) := by decide +kernel
theorem dX7_isShade_16 : decode cX7_isShade 16 = .ok (.iconst 1, 1) := by decide +kernel
theorem dX7_isShade_17 : decode cX7_isShade 17 = .ok (.goto 4, 3) := by decide +kernel
theorem dX7_isShade_20 : decode cX7_isShade 20 = .ok (.iconst 0, 1) := by decide +kernel
theorem dX7_isShade_21 : decode cX7_isShade 21 = .ok (.ireturn, 1) := by decide +kernel
theorem dX7_fromBits_0 : decode cX7_fromBits 0 = .ok (.iload_n 0, 1) := by decide +kernel
theorem dX7_fromBits_1 : decode cX7_fromBits 1 = .ok (.ifCond .gt 5, 3) := by decide +kernel
theorem dX7_fromBits_4 : decode cX7_fromBits 4 = .ok (.fconst 0, 1) := by decide +kernel
theorem dX7_fromBits_5 : decode cX7_fromBits 5 = .ok (.freturn, 1) := by decide +kernel
theorem dX7_fromBits_6 : decode cX7_fromBits 6 = .ok (.iload_n 0, 1) := by decide +kernel
theorem dX7_fromBits_7 : decode cX7_fromBits 7 = .ok (.bipush 23, 2) := by decide +kernel
theorem dX7_fromBits_9 : decode cX7_fromBits 9 = .ok (.iushr, 1) := by decide +kernel
theorem dX7_fromBits_10 : decode cX7_fromBits 10 = .ok (.istore_n 1, 1) := by decide +kernel
theorem dX7_fromBits_11 : decode cX7_fromBits 11 = .ok (.iload_n 0, 1) := by decide +kernel
theorem dX7_fromBits_12 : decode cX7_fromBits 12 = .ok (.ldc 17, 2) := by decide +kernel
theorem dX7_fromBits_14 : decode cX7_fromBits 14 = .ok (.iand, 1) := by decide +kernel
theorem dX7_fromBits_15 : decode cX7_fromBits 15 = .ok (.istore_n 2, 1) := by decide +kernel
theorem dX7_fromBits_16 : decode cX7_fromBits 16 = .ok (.iload_n 1, 1) := by decide +kernel
theorem dX7_fromBits_17 : decode cX7_fromBits 17 = .ok (.ifCond .ne 7, 3) := by decide +kernel
theorem dX7_fromBits_20 : decode cX7_fromBits 20 = .ok (.iload_n 2, 1) := by decide +kernel
theorem dX7_fromBits_21 : decode cX7_fromBits 21 = .ok (.goto 7, 3) := by decide +kernel
theorem dX7_fromBits_24 : decode cX7_fromBits 24 = .ok (.iload_n 2, 1) := by decide +kernel
theorem dX7_fromBits_25 : decode cX7_fromBits 25 = .ok (.ldc 18, 2) := by decide +kernel
theorem dX7_fromBits_27 : decode cX7_fromBits 27 = .ok (.ior, 1) := by decide +kernel
theorem dX7_fromBits_28 : decode cX7_fromBits 28 = .ok (.i2f, 1) := by decide +kernel
theorem dX7_fromBits_29 : decode cX7_fromBits 29 = .ok (.fstore_n 3, 1) := by decide +kernel
theorem dX7_fromBits_30 : decode cX7_fromBits 30 = .ok (.iload_n 1, 1) := by decide +kernel
theorem dX7_fromBits_31 : decode cX7_fromBits 31 = .ok (.iconst 1, 1) := by decide +kernel
theorem dX7_fromBits_32 : decode cX7_fromBits 32 = .ok (.invokestatic 19, 3) := by decide +kernel
theorem dX7_fromBits_35 : decode cX7_fromBits 35 = .ok (.istore 4, 2) := by decide +kernel
theorem dX7_fromBits_37 : decode cX7_fromBits 37 = .ok (.iload 4, 2) := by decide +kernel
theorem dX7_fromBits_39 : decode cX7_fromBits 39 = .ok (.sipush 150, 3) := by decide +kernel
theorem dX7_fromBits_42 : decode cX7_fromBits 42 = .ok (.if_icmp .ge 14, 3) := by decide +kernel
theorem dX7_fromBits_45 : decode cX7_fromBits 45 = .ok (.fload_n 3, 1) := by decide +kernel
theorem dX7_fromBits_46 : decode cX7_fromBits 46 = .ok (.ldc 25, 2) := by decide +kernel
theorem dX7_fromBits_48 : decode cX7_fromBits 48 = .ok (.fmul, 1) := by decide +kernel
theorem dX7_fromBits_49 : decode cX7_fromBits 49 = .ok (.fstore_n 3, 1) := by decide +kernel
theorem dX7_fromBits_50 : decode cX7_fromBits 50 = .ok (.iinc 4 1, 3) := by decide +kernel
theorem dX7_fromBits_53 : decode cX7_fromBits 53 = .ok (.goto (-16), 3) := by decide +kernel
theorem dX7_fromBits_56 : decode cX7_fromBits 56 = .ok (.fload_n 3, 1) := by decide +kernel
theorem dX7_fromBits_57 : decode cX7_fromBits 57 = .ok (.freturn, 1) := by decide +kernel
theorem dX7_bitsOf_0 : decode cX7_bitsOf 0 = .ok (.fload_n 0, 1) := by decide +kernel
theorem dX7_bitsOf_1 : decode cX7_bitsOf 1 = .ok (.fconst 0, 1) := by decide +kernel
theorem dX7_bitsOf_2 : decode cX7_bitsOf 2 = .ok (.fcmp .l, 1) := by decide +kernel
theorem dX7_bitsOf_3 : decode cX7_bitsOf 3 = .ok (.ifCond .gt 5, 3) := by decide +kernel
theorem dX7_bitsOf_6 : decode cX7_bitsOf 6 = .ok (.iconst 0, 1) := by decide +kernel
theorem dX7_bitsOf_7 : decode cX7_bitsOf 7 = .ok (.ireturn, 1) := by decide +kernel
theorem dX7_bitsOf_8 : decode cX7_bitsOf 8 = .ok (.sipush 150, 3) := by decide +kernel
theorem dX7_bitsOf_11 : decode cX7_bitsOf 11 = .ok (.istore_n 1, 1) := by decide +kernel
theorem dX7_bitsOf_12 : decode cX7_bitsOf 12 = .ok (.fload_n 0, 1) := by decide +kernel
theorem dX7_bitsOf_13 : decode cX7_bitsOf 13 = .ok (.fstore_n 2, 1) := by decide +kernel
theorem dX7_bitsOf_14 : decode cX7_bitsOf 14 = .ok (.iload_n 1, 1) := by decide +kernel
theorem dX7_bitsOf_15 : decode cX7_bitsOf 15 = .ok (.iconst 1, 1) := by decide +kernel
theorem dX7_bitsOf_16 : decode cX7_bitsOf 16 = .ok (.if_icmp .le 20, 3) := by decide +kernel
theorem dX7_bitsOf_19 : decode cX7_bitsOf 19 = .ok (.fload_n 2, 1) := by decide +kernel
theorem dX7_bitsOf_20 : decode cX7_bitsOf 20 = .ok (.ldc 26, 2) := by decide +kernel
theorem dX7_bitsOf_22 : decode cX7_bitsOf 22 = .ok (.fcmp .g, 1) := by decide +kernel
theorem dX7_bitsOf_23 : decode cX7_bitsOf 23 = .ok (.ifCond .ge 13, 3) := by decide +kernel
theorem dX7_bitsOf_26 : decode cX7_bitsOf 26 = .ok (.fload_n 2, 1) := by decide +kernel
theorem dX7_bitsOf_27 : decode cX7_bitsOf 27 = .ok (.fconst 2, 1) := by decide +kernel
theorem dX7_bitsOf_28 : decode cX7_bitsOf 28 = .ok (.fmul, 1) := by decide +kernel
theorem dX7_bitsOf_29 : decode cX7_bitsOf 29 = .ok (.fstore_n 2, 1) := by decide +kernel
theorem dX7_bitsOf_30 : decode cX7_bitsOf 30 = .ok (.iinc 1 (-1), 3) := by decide +kernel
theorem dX7_bitsOf_33 : decode cX7_bitsOf 33 = .ok (.goto (-19), 3) := by decide +kernel
theorem dX7_bitsOf_36 : decode cX7_bitsOf 36 = .ok (.iload_n 1, 1) := by decide +kernel
theorem dX7_bitsOf_37 : decode cX7_bitsOf 37 = .ok (.iconst 1, 1) := by decide +kernel
theorem dX7_bitsOf_38 : decode cX7_bitsOf 38 = .ok (.isub, 1) := by decide +kernel
theorem dX7_bitsOf_39 : decode cX7_bitsOf 39 = .ok (.bipush 23, 2) := by decide +kernel
theorem dX7_bitsOf_41 : decode cX7_bitsOf 41 = .ok (.ishl, 1) := by decide +kernel
theorem dX7_bitsOf_42 : decode cX7_bitsOf 42 = .ok (.fload_n 2, 1) := by decide +kernel
theorem dX7_bitsOf_43 : decode cX7_bitsOf 43 = .ok (.f2i, 1) := by decide +kernel
theorem dX7_bitsOf_44 : decode cX7_bitsOf 44 = .ok (.iadd, 1) := by decide +kernel
theorem dX7_bitsOf_45 : decode cX7_bitsOf 45 = .ok (.ireturn, 1) := by decide +kernel
theorem dX9_init_0 : decode cX9_init 0 = .ok (.aload_n 0, 1) := by decide +kernel
theorem dX9_init_1 : decode cX9_init 1 = .ok (.invokespecial 1, 3) := by decide +kernel
theorem dX9_init_4 : decode cX9_init 4 = .ok (.aload_n 0, 1) := by decide +kernel
theorem dX9_init_5 : decode cX9_init 5 = .ok (.new 7, 3) := by decide +kernel
theorem dX9_init_8 : decode cX9_init 8 = .ok (.dup, 1) := by decide +kernel
theorem dX9_init_9 : decode cX9_init 9 = .ok (.invokespecial 9, 3) := by decide +kernel
theorem dX9_init_12 : decode cX9_init 12 = .ok (.putfield 10, 3) := by decide +kernel
theorem dX9_init_15 : decode cX9_init 15 = .ok (.aload_n 0, 1) := by decide +kernel
theorem dX9_init_16 : decode cX9_init 16 = .ok (.new 16, 3) := by decide +kernel
theorem dX9_init_19 : decode cX9_init 19 = .ok (.dup, 1) := by decide +kernel
theorem dX9_init_20 : decode cX9_init 20 = .ok (.invokespecial 18, 3) := by decide +kernel
theorem dX9_init_23 : decode cX9_init 23 = .ok (.putfield 19, 3) := by decide +kernel
theorem dX9_init_26 : decode cX9_init 26 = .ok (.aload_n 0, 1) := by decide +kernel
theorem dX9_init_27 : decode cX9_init 27 = .ok (.new 23, 3) := by decide +kernel
theorem dX9_init_30 : decode cX9_init 30 = .ok (.dup, 1) := by decide +kernel
theorem dX9_init_31 : decode cX9_init 31 = .ok (.invokespecial 25, 3) := by decide +kernel
theorem dX9_init_34 : decode cX9_init 34 = .ok (.putfield 26, 3) := by decide +kernel
theorem dX9_init_37 : decode cX9_init 37 = .ok (.aload_n 0, 1) := by decide +kernel
theorem dX9_init_38 : decode cX9_init 38 = .ok (.new 30, 3) := by decide +kernel
theorem dX9_init_41 : decode cX9_init 41 = .ok (.dup, 1) := by decide +kernel
theorem dX9_init_42 : decode cX9_init 42 = .ok (.aload_n 0, 1) := by decide +kernel
theorem dX9_init_43 : decode cX9_init 43 = .ok (.getfield 26, 3) := by decide +kernel
theorem dX9_init_46 : decode cX9_init 46 = .ok (.invokespecial 32, 3) := by decide +kernel
theorem dX9_init_49 : decode cX9_init 49 = .ok (.putfield 35, 3) := by decide +kernel
theorem dX9_init_52 : decode cX9_init 52 = .ok (.return_, 1) := by decide +kernel
theorem dX9_begin_0 : decode cX9_begin 0 = .ok (.aload_n 0, 1) := by decide +kernel
theorem dX9_begin_1 : decode cX9_begin 1 = .ok (.getfield 10, 3) := by decide +kernel
theorem dX9_begin_4 : decode cX9_begin 4 = .ok (.iload_n 1, 1) := by decide +kernel
theorem dX9_begin_5 : decode cX9_begin 5 = .ok (.iload_n 2, 1) := by decide +kernel
theorem dX9_begin_6 : decode cX9_begin 6 = .ok (.invokevirtual 39, 3) := by decide +kernel
theorem dX9_begin_9 : decode cX9_begin 9 = .ok (.invokestatic 43, 3) := by decide +kernel
theorem dX9_begin_12 : decode cX9_begin 12 = .ok (.aload_n 0, 1) := by decide +kernel
theorem dX9_begin_13 : decode cX9_begin 13 = .ok (.getfield 19, 3) := by decide +kernel
theorem dX9_begin_16 : decode cX9_begin 16 = .ok (.aload_n 0, 1) := by decide +kernel
theorem dX9_begin_17 : decode cX9_begin 17 = .ok (.getfield 10, 3) := by decide +kernel
theorem dX9_begin_20 : decode cX9_begin 20 = .ok (.invokevirtual 47, 3) := by decide +kernel
theorem dX9_begin_23 : decode cX9_begin 23 = .ok (.aload_n 0, 1) := by decide +kernel
theorem dX9_begin_24 : decode cX9_begin 24 = .ok (.getfield 10, 3) := by decide +kernel
theorem dX9_begin_27 : decode cX9_begin 27 = .ok (.iload_n 1, 1) := by decide +kernel
theorem dX9_begin_28 : decode cX9_begin 28 = .ok (.iload_n 2, 1) := by decide +kernel
theorem dX9_begin_29 : decode cX9_begin 29 = .ok (.invokevirtual 51, 3) := by decide +kernel
theorem dX9_begin_32 : decode cX9_begin 32 = .ok (.ireturn, 1) := by decide +kernel
theorem dX9_fill_0 : decode cX9_fill 0 = .ok (.aload_n 0, 1) := by decide +kernel
theorem dX9_fill_1 : decode cX9_fill 1 = .ok (.getfield 10, 3) := by decide +kernel
theorem dX9_fill_4 : decode cX9_fill 4 = .ok (.iload_n 1, 1) := by decide +kernel
theorem dX9_fill_5 : decode cX9_fill 5 = .ok (.iload_n 2, 1) := by decide +kernel
theorem dX9_fill_6 : decode cX9_fill 6 = .ok (.iload_n 3, 1) := by decide +kernel
theorem dX9_fill_7 : decode cX9_fill 7 = .ok (.iload 4, 2) := by decide +kernel
theorem dX9_fill_9 : decode cX9_fill 9 = .ok (.iload 5, 2) := by decide +kernel
theorem dX9_fill_11 : decode cX9_fill 11 = .ok (.invokevirtual 54, 3) := by decide +kernel
theorem dX9_fill_14 : decode cX9_fill 14 = .ok (.invokestatic 43, 3) := by decide +kernel
theorem dX9_fill_17 : decode cX9_fill 17 = .ok (.aload_n 0, 1) := by decide +kernel
theorem dX9_fill_18 : decode cX9_fill 18 = .ok (.getfield 19, 3) := by decide +kernel
theorem dX9_fill_21 : decode cX9_fill 21 = .ok (.aload_n 0, 1) := by decide +kernel
theorem dX9_fill_22 : decode cX9_fill 22 = .ok (.getfield 10, 3) := by decide +kernel
theorem dX9_fill_25 : decode cX9_fill 25 = .ok (.invokevirtual 47, 3) := by decide +kernel
theorem dX9_fill_28 : decode cX9_fill 28 = .ok (.aload_n 0, 1) := by decide +kernel
theorem dX9_fill_29 : decode cX9_fill 29 = .ok (.getfield 10, 3) := by decide +kernel
theorem dX9_fill_32 : decode cX9_fill 32 = .ok (.iload_n 1, 1) := by decide +kernel
theorem dX9_fill_33 : decode cX9_fill 33 = .ok (.iload_n 2, 1) := by decide +kernel
theorem dX9_fill_34 : decode cX9_fill 34 = .ok (.iload_n 3, 1) := by decide +kernel
theorem dX9_fill_35 : decode cX9_fill 35 = .ok (.iload 4, 2) := by decide +kernel
theorem dX9_fill_37 : decode cX9_fill 37 = .ok (.iload 5, 2) := by decide +kernel
theorem dX9_fill_39 : decode cX9_fill 39 = .ok (.invokevirtual 58, 3) := by decide +kernel
theorem dX9_fill_42 : decode cX9_fill 42 = .ok (.ireturn, 1) := by decide +kernel
theorem dX9_addLot_0 : decode cX9_addLot 0 = .ok (.aload_n 0, 1) := by decide +kernel
theorem dX9_addLot_1 : decode cX9_addLot 1 = .ok (.getfield 10, 3) := by decide +kernel
theorem dX9_addLot_4 : decode cX9_addLot 4 = .ok (.iload_n 1, 1) := by decide +kernel
theorem dX9_addLot_5 : decode cX9_addLot 5 = .ok (.iload_n 2, 1) := by decide +kernel
theorem dX9_addLot_6 : decode cX9_addLot 6 = .ok (.iload_n 3, 1) := by decide +kernel
theorem dX9_addLot_7 : decode cX9_addLot 7 = .ok (.invokevirtual 61, 3) := by decide +kernel
theorem dX9_addLot_10 : decode cX9_addLot 10 = .ok (.invokestatic 43, 3) := by decide +kernel
theorem dX9_addLot_13 : decode cX9_addLot 13 = .ok (.aload_n 0, 1) := by decide +kernel
theorem dX9_addLot_14 : decode cX9_addLot 14 = .ok (.getfield 19, 3) := by decide +kernel
theorem dX9_addLot_17 : decode cX9_addLot 17 = .ok (.aload_n 0, 1) := by decide +kernel
theorem dX9_addLot_18 : decode cX9_addLot 18 = .ok (.getfield 10, 3) := by decide +kernel
theorem dX9_addLot_21 : decode cX9_addLot 21 = .ok (.invokevirtual 47, 3) := by decide +kernel
theorem dX9_addLot_24 : decode cX9_addLot 24 = .ok (.aload_n 0, 1) := by decide +kernel
theorem dX9_addLot_25 : decode cX9_addLot 25 = .ok (.getfield 10, 3) := by decide +kernel
theorem dX9_addLot_28 : decode cX9_addLot 28 = .ok (.getfield 65, 3) := by decide +kernel
theorem dX9_addLot_31 : decode cX9_addLot 31 = .ok (.iload_n 1, 1) := by decide +kernel
theorem dX9_addLot_32 : decode cX9_addLot 32 = .ok (.iload_n 2, 1) := by decide +kernel
theorem dX9_addLot_33 : decode cX9_addLot 33 = .ok (.iload_n 3, 1) := by decide +kernel
theorem dX9_addLot_34 : decode cX9_addLot 34 = .ok (.invokevirtual 69, 3) := by decide +kernel
theorem dX9_addLot_37 : decode cX9_addLot 37 = .ok (.ireturn, 1) := by decide +kernel
theorem dX9_setTolerance_0 : decode cX9_setTolerance 0 = .ok (.iload_n 1, 1) := by decide +kernel
theorem dX9_setTolerance_1 : decode cX9_setTolerance 1 = .ok (.invokestatic 74, 3) := by decide +kernel
theorem dX9_setTolerance_4 : decode cX9_setTolerance 4 = .ok (.ifCond .eq 7, 3) := by decide +kernel
theorem dX9_setTolerance_7 : decode cX9_setTolerance 7 = .ok (.iconst 0, 1) := by decide +kernel
theorem dX9_setTolerance_8 : decode cX9_setTolerance 8 = .ok (.goto 4, 3) := by decide +kernel
theorem dX9_setTolerance_11 : decode cX9_setTolerance 11 = .ok (.iconst 2, 1) := by decide +kernel
theorem dX9_setTolerance_12 : decode cX9_setTolerance 12 = .ok (.invokestatic 43, 3) := by decide +kernel
theorem dX9_setTolerance_15 : decode cX9_setTolerance 15 = .ok (.aload_n 0, 1) := by decide +kernel
theorem dX9_setTolerance_16 : decode cX9_setTolerance 16 = .ok (.getfield 19, 3) := by decide +kernel
theorem dX9_setTolerance_19 : decode cX9_setTolerance 19 = .ok (.aload_n 0, 1) := by decide +kernel
theorem dX9_setTolerance_20 : decode cX9_setTolerance 20 = .ok (.getfield 10, 3) := by decide +kernel
theorem dX9_setTolerance_23 : decode cX9_setTolerance 23 = .ok (.invokevirtual 47, 3) := by decide +kernel
theorem dX9_setTolerance_26 : decode cX9_setTolerance 26 = .ok (.aload_n 0, 1) := by decide +kernel
theorem dX9_setTolerance_27 : decode cX9_setTolerance 27 = .ok (.getfield 10, 3) := by decide +kernel
theorem dX9_setTolerance_30 : decode cX9_setTolerance 30 = .ok (.iload_n 1, 1) := by decide +kernel
theorem dX9_setTolerance_31 : decode cX9_setTolerance 31 = .ok (.invokevirtual 80, 3) := by decide +kernel
theorem dX9_setTolerance_34 : decode cX9_setTolerance 34 = .ok (.ireturn, 1) := by decide +kernel
theorem dX9_setLimit_0 : decode cX9_setLimit 0 = .ok (.aload_n 0, 1) := by decide +kernel
theorem dX9_setLimit_1 : decode cX9_setLimit 1 = .ok (.getfield 10, 3) := by decide +kernel
theorem dX9_setLimit_4 : decode cX9_setLimit 4 = .ok (.iload_n 1, 1) := by decide +kernel
theorem dX9_setLimit_5 : decode cX9_setLimit 5 = .ok (.invokevirtual 84, 3) := by decide +kernel
theorem dX9_setLimit_8 : decode cX9_setLimit 8 = .ok (.invokestatic 43, 3) := by decide +kernel
theorem dX9_setLimit_11 : decode cX9_setLimit 11 = .ok (.aload_n 0, 1) := by decide +kernel
theorem dX9_setLimit_12 : decode cX9_setLimit 12 = .ok (.getfield 19, 3) := by decide +kernel
theorem dX9_setLimit_15 : decode cX9_setLimit 15 = .ok (.aload_n 0, 1) := by decide +kernel
theorem dX9_setLimit_16 : decode cX9_setLimit 16 = .ok (.getfield 10, 3) := by decide +kernel
theorem dX9_setLimit_19 : decode cX9_setLimit 19 = .ok (.invokevirtual 47, 3) := by decide +kernel
theorem dX9_setLimit_22 : decode cX9_setLimit 22 = .ok (.aload_n 0, 1) := by decide +kernel
theorem dX9_setLimit_23 : decode cX9_setLimit 23 = .ok (.getfield 10, 3) := by decide +kernel
theorem dX9_setLimit_26 : decode cX9_setLimit 26 = .ok (.iload_n 1, 1) := by decide +kernel
theorem dX9_setLimit_27 : decode cX9_setLimit 27 = .ok (.invokevirtual 87, 3) := by decide +kernel
theorem dX9_setLimit_30 : decode cX9_setLimit 30 = .ok (.ireturn, 1) := by decide +kernel
theorem dX9_plant_0 : decode cX9_plant 0 = .ok (.aload_n 0, 1) := by decide +kernel
theorem dX9_plant_1 : decode cX9_plant 1 = .ok (.getfield 10, 3) := by decide +kernel
theorem dX9_plant_4 : decode cX9_plant 4 = .ok (.iload_n 1, 1) := by decide +kernel
theorem dX9_plant_5 : decode cX9_plant 5 = .ok (.iload_n 2, 1) := by decide +kernel
theorem dX9_plant_6 : decode cX9_plant 6 = .ok (.invokevirtual 90, 3) := by decide +kernel
theorem dX9_plant_9 : decode cX9_plant 9 = .ok (.invokestatic 43, 3) := by decide +kernel
theorem dX9_plant_12 : decode cX9_plant 12 = .ok (.aload_n 0, 1) := by decide +kernel
theorem dX9_plant_13 : decode cX9_plant 13 = .ok (.getfield 19, 3) := by decide +kernel
theorem dX9_plant_16 : decode cX9_plant 16 = .ok (.aload_n 0, 1) := by decide +kernel
theorem dX9_plant_17 : decode cX9_plant 17 = .ok (.getfield 10, 3) := by decide +kernel
theorem dX9_plant_20 : decode cX9_plant 20 = .ok (.invokevirtual 47, 3) := by decide +kernel
theorem dX9_plant_23 : decode cX9_plant 23 = .ok (.aload_n 0, 1) := by decide +kernel
theorem dX9_plant_24 : decode cX9_plant 24 = .ok (.getfield 10, 3) := by decide +kernel
theorem dX9_plant_27 : decode cX9_plant 27 = .ok (.iload_n 1, 1) := by decide +kernel
theorem dX9_plant_28 : decode cX9_plant 28 = .ok (.iload_n 2, 1) := by decide +kernel
theorem dX9_plant_29 : decode cX9_plant 29 = .ok (.invokevirtual 93, 3) := by decide +kernel
theorem dX9_plant_32 : decode cX9_plant 32 = .ok (.ireturn, 1) := by decide +kernel
theorem dX9_weave_0 : decode cX9_weave 0 = .ok (.aload_n 0, 1) := by decide +kernel
theorem dX9_weave_1 : decode cX9_weave 1 = .ok (.getfield 10, 3) := by decide +kernel
theorem dX9_weave_4 : decode cX9_weave 4 = .ok (.iload_n 1, 1) := by decide +kernel
theorem dX9_weave_5 : decode cX9_weave 5 = .ok (.invokevirtual 96, 3) := by decide +kernel
theorem dX9_weave_8 : decode cX9_weave 8 = .ok (.invokestatic 43, 3) := by decide +kernel
theorem dX9_weave_11 : decode cX9_weave 11 = .ok (.aload_n 0, 1) := by decide +kernel
theorem dX9_weave_12 : decode cX9_weave 12 = .ok (.getfield 19, 3) := by decide +kernel
theorem dX9_weave_15 : decode cX9_weave 15 = .ok (.aload_n 0, 1) := by decide +kernel
theorem dX9_weave_16 : decode cX9_weave 16 = .ok (.getfield 10, 3) := by decide +kernel
theorem dX9_weave_19 : decode cX9_weave 19 = .ok (.invokevirtual 47, 3) := by decide +kernel
theorem dX9_weave_22 : decode cX9_weave 22 = .ok (.aload_n 0, 1) := by decide +kernel
theorem dX9_weave_23 : decode cX9_weave 23 = .ok (.getfield 10, 3) := by decide +kernel
theorem dX9_weave_26 : decode cX9_weave 26 = .ok (.iload_n 1, 1) := by decide +kernel
theorem dX9_weave_27 : decode cX9_weave 27 = .ok (.invokevirtual 99, 3) := by decide +kernel
theorem dX9_weave_30 : decode cX9_weave 30 = .ok (.ireturn, 1) := by decide +kernel
theorem dX9_unweave_0 : decode cX9_unweave 0 = .ok (.aload_n 0, 1) := by decide +kernel
theorem dX9_unweave_1 : decode cX9_unweave 1 = .ok (.getfield 10, 3) := by decide +kernel
theorem dX9_unweave_4 : decode cX9_unweave 4 = .ok (.iload_n 1, 1) := by decide +kernel
theorem dX9_unweave_5 : decode cX9_unweave 5 = .ok (.invokevirtual 102, 3) := by decide +kernel
theorem dX9_unweave_8 : decode cX9_unweave 8 = .ok (.invokestatic 43, 3) := by decide +kernel
theorem dX9_unweave_11 : decode cX9_unweave 11 = .ok (.aload_n 0, 1) := by decide +kernel
theorem dX9_unweave_12 : decode cX9_unweave 12 = .ok (.getfield 19, 3) := by decide +kernel
theorem dX9_unweave_15 : decode cX9_unweave 15 = .ok (.aload_n 0, 1) := by decide +kernel
theorem dX9_unweave_16 : decode cX9_unweave 16 = .ok (.getfield 10, 3) := by decide +kernel
theorem dX9_unweave_19 : decode cX9_unweave 19 = .ok (.invokevirtual 47, 3) := by decide +kernel
theorem dX9_unweave_22 : decode cX9_unweave 22 = .ok (.aload_n 0, 1) := by decide +kernel
theorem dX9_unweave_23 : decode cX9_unweave 23 = .ok (.getfield 10, 3) := by decide +kernel
theorem dX9_unweave_26 : decode cX9_unweave 26 = .ok (.iload_n 1, 1) := by decide +kernel
theorem dX9_unweave_27 : decode cX9_unweave 27 = .ok (.invokevirtual 105, 3) := by decide +kernel
theorem dX9_unweave_30 : decode cX9_unweave 30 = .ok (.ireturn, 1) := by decide +kernel
theorem dX9_sew_0 : decode cX9_sew 0 = .ok (.aload_n 0, 1) := by decide +kernel
theorem dX9_sew_1 : decode cX9_sew 1 = .ok (.getfield 10, 3) := by decide +kernel
theorem dX9_sew_4 : decode cX9_sew 4 = .ok (.iload_n 1, 1) := by decide +kernel
theorem dX9_sew_5 : decode cX9_sew 5 = .ok (.invokevirtual 108, 3) := by decide +kernel
theorem dX9_sew_8 : decode cX9_sew 8 = .ok (.invokestatic 43, 3) := by decide +kernel
theorem dX9_sew_11 : decode cX9_sew 11 = .ok (.aload_n 0, 1) := by decide +kernel
theorem dX9_sew_12 : decode cX9_sew 12 = .ok (.getfield 19, 3) := by decide +kernel
theorem dX9_sew_15 : decode cX9_sew 15 = .ok (.aload_n 0, 1) := by decide +kernel
theorem dX9_sew_16 : decode cX9_sew 16 = .ok (.getfield 10, 3) := by decide +kernel
theorem dX9_sew_19 : decode cX9_sew 19 = .ok (.invokevirtual 47, 3) := by decide +kernel
theorem dX9_sew_22 : decode cX9_sew 22 = .ok (.aload_n 0, 1) := by decide +kernel
theorem dX9_sew_23 : decode cX9_sew 23 = .ok (.getfield 10, 3) := by decide +kernel
theorem dX9_sew_26 : decode cX9_sew 26 = .ok (.iload_n 1, 1) := by decide +kernel
theorem dX9_sew_27 : decode cX9_sew 27 = .ok (.invokevirtual 111, 3) := by decide +kernel
theorem dX9_sew_30 : decode cX9_sew 30 = .ok (.ireturn, 1) := by decide +kernel
theorem dX9_cell_0 : decode cX9_cell 0 = .ok (.aload_n 0, 1) := by decide +kernel
theorem dX9_cell_1 : decode cX9_cell 1 = .ok (.getfield 10, 3) := by decide +kernel
theorem dX9_cell_4 : decode cX9_cell 4 = .ok (.iload_n 1, 1) := by decide +kernel
theorem dX9_cell_5 : decode cX9_cell 5 = .ok (.iload_n 2, 1) := by decide +kernel
theorem dX9_cell_6 : decode cX9_cell 6 = .ok (.invokevirtual 114, 3) := by decide +kernel
theorem dX9_cell_9 : decode cX9_cell 9 = .ok (.ifCond .eq 7, 3) := by decide +kernel
theorem dX9_cell_12 : decode cX9_cell 12 = .ok (.iconst 0, 1) := by decide +kernel
theorem dX9_cell_13 : decode cX9_cell 13 = .ok (.goto 4, 3) := by decide +kernel
theorem dX9_cell_16 : decode cX9_cell 16 = .ok (.iconst 1, 1) := by decide +kernel
theorem dX9_cell_17 : decode cX9_cell 17 = .ok (.invokestatic 43, 3) := by decide +kernel
theorem dX9_cell_20 : decode cX9_cell 20 = .ok (.iconst 0, 1) := by decide +kernel
theorem dX9_cell_21 : decode cX9_cell 21 = .ok (.iload_n 3, 1) := by decide +kernel
theorem dX9_cell_22 : decode cX9_cell 22 = .ok (.iconst 3, 1) := by decide +kernel
theorem dX9_cell_23 : decode cX9_cell 23 = .ok (.invokestatic 118, 3) := by decide +kernel
theorem dX9_cell_26 : decode cX9_cell 26 = .ok (.ifCond .eq 7, 3) := by decide +kernel
theorem dX9_cell_29 : decode cX9_cell 29 = .ok (.iconst 0, 1) := by decide +kernel
theorem dX9_cell_30 : decode cX9_cell 30 = .ok (.goto 4, 3) := by decide +kernel
theorem dX9_cell_33 : decode cX9_cell 33 = .ok (.iconst 2, 1) := by decide +kernel
theorem dX9_cell_34 : decode cX9_cell 34 = .ok (.invokestatic 43, 3) := by decide +kernel
theorem dX9_cell_37 : decode cX9_cell 37 = .ok (.aload_n 0, 1) := by decide +kernel
theorem dX9_cell_38 : decode cX9_cell 38 = .ok (.getfield 10, 3) := by decide +kernel
theorem dX9_cell_41 : decode cX9_cell 41 = .ok (.iload_n 1, 1) := by decide +kernel
theorem dX9_cell_42 : decode cX9_cell 42 = .ok (.iload_n 2, 1) := by decide +kernel
theorem dX9_cell_43 : decode cX9_cell 43 = .ok (.iload_n 3, 1) := by decide +kernel
theorem dX9_cell_44 : decode cX9_cell 44 = .ok (.invokevirtual 122, 3) := by decide +kernel
theorem dX9_cell_47 : decode cX9_cell 47 = .ok (.ireturn, 1) := by decide +kernel
theorem dX9_row_0 : decode cX9_row 0 = .ok (.aload_n 0, 1) := by decide +kernel
theorem dX9_row_1 : decode cX9_row 1 = .ok (.getfield 10, 3) := by decide +kernel
theorem dX9_row_4 : decode cX9_row 4 = .ok (.iload_n 1, 1) := by decide +kernel
theorem dX9_row_5 : decode cX9_row 5 = .ok (.invokevirtual 125, 3) := by decide +kernel
theorem dX9_row_8 : decode cX9_row 8 = .ok (.ifCond .eq 7, 3) := by decide +kernel
theorem dX9_row_11 : decode cX9_row 11 = .ok (.iconst 0, 1) := by decide +kernel
theorem dX9_row_12 : decode cX9_row 12 = .ok (.goto 4, 3) := by decide +kernel
theorem dX9_row_15 : decode cX9_row 15 = .ok (.iconst 1, 1) := by decide +kernel
theorem dX9_row_16 : decode cX9_row 16 = .ok (.invokestatic 43, 3) := by decide +kernel
theorem dX9_row_19 : decode cX9_row 19 = .ok (.iconst 0, 1) := by decide +kernel
theorem dX9_row_20 : decode cX9_row 20 = .ok (.iload_n 2, 1) := by decide +kernel
theorem dX9_row_21 : decode cX9_row 21 = .ok (.iconst 4, 1) := by decide +kernel
theorem dX9_row_22 : decode cX9_row 22 = .ok (.invokestatic 118, 3) := by decide +kernel
theorem dX9_row_25 : decode cX9_row 25 = .ok (.ifCond .eq 7, 3) := by decide +kernel
theorem dX9_row_28 : decode cX9_row 28 = .ok (.iconst 0, 1) := by decide +kernel
theorem dX9_row_29 : decode cX9_row 29 = .ok (.goto 4, 3) := by decide +kernel
theorem dX9_row_32 : decode cX9_row 32 = .ok (.iconst 2, 1) := by decide +kernel
theorem dX9_row_33 : decode cX9_row 33 = .ok (.invokestatic 43, 3) := by decide +kernel
theorem dX9_row_36 : decode cX9_row 36 = .ok (.aload_n 0, 1) := by decide +kernel
theorem dX9_row_37 : decode cX9_row 37 = .ok (.getfield 10, 3) := by decide +kernel
theorem dX9_row_40 : decode cX9_row 40 = .ok (.iload_n 1, 1) := by decide +kernel
theorem dX9_row_41 : decode cX9_row 41 = .ok (.iload_n 2, 1) := by decide +kernel
theorem dX9_row_42 : decode cX9_row 42 = .ok (.invokevirtual 128, 3) := by decide +kernel
theorem dX9_row_45 : decode cX9_row 45 = .ok (.ireturn, 1) := by decide +kernel
theorem dX9_lot_0 : decode cX9_lot 0 = .ok (.aload_n 0, 1) := by decide +kernel
theorem dX9_lot_1 : decode cX9_lot 1 = .ok (.getfield 10, 3) := by decide +kernel
theorem dX9_lot_4 : decode cX9_lot 4 = .ok (.getfield 65, 3) := by decide +kernel
theorem dX9_lot_7 : decode cX9_lot 7 = .ok (.iload_n 1, 1) := by decide +kernel
theorem dX9_lot_8 : decode cX9_lot 8 = .ok (.invokevirtual 131, 3) := by decide +kernel
theorem dX9_lot_11 : decode cX9_lot 11 = .ok (.ifCond .eq 7, 3) := by decide +kernel
theorem dX9_lot_14 : decode cX9_lot 14 = .ok (.iconst 0, 1) := by decide +kernel
theorem dX9_lot_15 : decode cX9_lot 15 = .ok (.goto 4, 3) := by decide +kernel
theorem dX9_lot_18 : decode cX9_lot 18 = .ok (.iconst 1, 1) := by decide +kernel
theorem dX9_lot_19 : decode cX9_lot 19 = .ok (.invokestatic 43, 3) := by decide +kernel
theorem dX9_lot_22 : decode cX9_lot 22 = .ok (.iconst 0, 1) := by decide +kernel
theorem dX9_lot_23 : decode cX9_lot 23 = .ok (.iload_n 2, 1) := by decide +kernel
theorem dX9_lot_24 : decode cX9_lot 24 = .ok (.iconst 5, 1) := by decide +kernel
theorem dX9_lot_25 : decode cX9_lot 25 = .ok (.invokestatic 118, 3) := by decide +kernel
theorem dX9_lot_28 : decode cX9_lot 28 = .ok (.ifCond .eq 7, 3) := by decide +kernel
theorem dX9_lot_31 : decode cX9_lot 31 = .ok (.iconst 0, 1) := by decide +kernel
theorem dX9_lot_32 : decode cX9_lot 32 = .ok (.goto 4, 3) := by decide +kernel
theorem dX9_lot_35 : decode cX9_lot 35 = .ok (.iconst 2, 1) := by decide +kernel
theorem dX9_lot_36 : decode cX9_lot 36 = .ok (.invokestatic 43, 3) := by decide +kernel
theorem dX9_lot_39 : decode cX9_lot 39 = .ok (.aload_n 0, 1) := by decide +kernel
theorem dX9_lot_40 : decode cX9_lot 40 = .ok (.getfield 10, 3) := by decide +kernel
theorem dX9_lot_43 : decode cX9_lot 43 = .ok (.iload_n 1, 1) := by decide +kernel
theorem dX9_lot_44 : decode cX9_lot 44 = .ok (.iload_n 2, 1) := by decide +kernel
theorem dX9_lot_45 : decode cX9_lot 45 = .ok (.invokevirtual 134, 3) := by decide +kernel
theorem dX9_lot_48 : decode cX9_lot 48 = .ok (.ireturn, 1) := by decide +kernel
theorem dX9_color_0 : decode cX9_color 0 = .ok (.iload_n 1, 1) := by decide +kernel
theorem dX9_color_1 : decode cX9_color 1 = .ok (.invokestatic 137, 3) := by decide +kernel
theorem dX9_color_4 : decode cX9_color 4 = .ok (.ifCond .eq 16, 3) := by decide +kernel
theorem dX9_color_7 : decode cX9_color 7 = .ok (.iconst 0, 1) := by decide +kernel
theorem dX9_color_8 : decode cX9_color 8 = .ok (.iload_n 2, 1) := by decide +kernel
theorem dX9_color_9 : decode cX9_color 9 = .ok (.iconst 5, 1) := by decide +kernel
theorem dX9_color_10 : decode cX9_color 10 = .ok (.invokestatic 118, 3) := by decide +kernel
theorem dX9_color_13 : decode cX9_color 13 = .ok (.ifCond .eq 7, 3) := by decide +kernel
theorem dX9_color_16 : decode cX9_color 16 = .ok (.iconst 0, 1) := by decide +kernel
theorem dX9_color_17 : decode cX9_color 17 = .ok (.goto 4, 3) := by decide +kernel
theorem dX9_color_20 : decode cX9_color 20 = .ok (.iconst 2, 1) := by decide +kernel
theorem dX9_color_21 : decode cX9_color 21 = .ok (.invokestatic 43, 3) := by decide +kernel
theorem dX9_color_24 : decode cX9_color 24 = .ok (.aload_n 0, 1) := by decide +kernel
theorem dX9_color_25 : decode cX9_color 25 = .ok (.getfield 10, 3) := by decide +kernel
theorem dX9_color_28 : decode cX9_color 28 = .ok (.iload_n 1, 1) := by decide +kernel
theorem dX9_color_29 : decode cX9_color 29 = .ok (.iload_n 2, 1) := by decide +kernel
theorem dX9_color_30 : decode cX9_color 30 = .ok (.invokevirtual 140, 3) := by decide +kernel
theorem dX9_color_33 : decode cX9_color 33 = .ok (.ireturn, 1) := by decide +kernel
theorem dX9_slit_0 : decode cX9_slit 0 = .ok (.iload_n 1, 1) := by decide +kernel
theorem dX9_slit_1 : decode cX9_slit 1 = .ok (.ifCond .lt 16, 3) := by decide +kernel
theorem dX9_slit_4 : decode cX9_slit 4 = .ok (.iconst 0, 1) := by decide +kernel
theorem dX9_slit_5 : decode cX9_slit 5 = .ok (.iload_n 2, 1) := by decide +kernel
theorem dX9_slit_6 : decode cX9_slit 6 = .ok (.iconst 3, 1) := by decide +kernel
theorem dX9_slit_7 : decode cX9_slit 7 = .ok (.invokestatic 118, 3) := by decide +kernel
theorem dX9_slit_10 : decode cX9_slit 10 = .ok (.ifCond .eq 7, 3) := by decide +kernel
theorem dX9_slit_13 : decode cX9_slit 13 = .ok (.iconst 0, 1) := by decide +kernel
theorem dX9_slit_14 : decode cX9_slit 14 = .ok (.goto 4, 3) := by decide +kernel
theorem dX9_slit_17 : decode cX9_slit 17 = .ok (.iconst 2, 1) := by decide +kernel
theorem dX9_slit_18 : decode cX9_slit 18 = .ok (.invokestatic 43, 3) := by decide +kernel
theorem dX9_slit_21 : decode cX9_slit 21 = .ok (.aload_n 0, 1) := by decide +kernel
theorem dX9_slit_22 : decode cX9_slit 22 = .ok (.getfield 10, 3) := by decide +kernel
theorem dX9_slit_25 : decode cX9_slit 25 = .ok (.iload_n 1, 1) := by decide +kernel
theorem dX9_slit_26 : decode cX9_slit 26 = .ok (.invokevirtual 143, 3) := by decide +kernel
theorem dX9_slit_29 : decode cX9_slit 29 = .ok (.istore_n 3, 1) := by decide +kernel
theorem dX9_slit_30 : decode cX9_slit 30 = .ok (.iload_n 3, 1) := by decide +kernel
theorem dX9_slit_31 : decode cX9_slit 31 = .ok (.iconst (-1), 1) := by decide +kernel
theorem dX9_slit_32 : decode cX9_slit 32 = .ok (.if_icmp .ne 7, 3) := by decide +kernel
theorem dX9_slit_35 : decode cX9_slit 35 = .ok (.iconst (-1), 1) := by decide +kernel
theorem dX9_slit_36 : decode cX9_slit 36 = .ok (.goto 19, 3) := by decide +kernel
theorem dX9_slit_39 : decode cX9_slit 39 = .ok (.aload_n 0, 1) := by decide +kernel
theorem dX9_slit_40 : decode cX9_slit 40 = .ok (.getfield 10, 3) := by decide +kernel
theorem dX9_slit_43 : decode cX9_slit 43 = .ok (.iload_n 3, 1) := by decide +kernel
theorem dX9_slit_44 : decode cX9_slit 44 = .ok (.bipush 16, 2) := by decide +kernel
theorem dX9_slit_46 : decode cX9_slit 46 = .ok (.idiv, 1) := by decide +kernel
theorem dX9_slit_47 : decode cX9_slit 47 = .ok (.iload_n 3, 1) := by decide +kernel
theorem dX9_slit_48 : decode cX9_slit 48 = .ok (.bipush 16, 2) := by decide +kernel
theorem dX9_slit_50 : decode cX9_slit 50 = .ok (.irem, 1) := by decide +kernel
theorem dX9_slit_51 : decode cX9_slit 51 = .ok (.iload_n 2, 1) := by decide +kernel
theorem dX9_slit_52 : decode cX9_slit 52 = .ok (.invokevirtual 146, 3) := by decide +kernel
theorem dX9_slit_55 : decode cX9_slit 55 = .ok (.ireturn, 1) := by decide +kernel
theorem dX9_whole_0 : decode cX9_whole 0 = .ok (.iconst 0, 1) := by decide +kernel
theorem dX9_whole_1 : decode cX9_whole 1 = .ok (.iload_n 1, 1) := by decide +kernel
theorem dX9_whole_2 : decode cX9_whole 2 = .ok (.bipush 14, 2) := by decide +kernel
theorem dX9_whole_4 : decode cX9_whole 4 = .ok (.invokestatic 118, 3) := by decide +kernel
theorem dX9_whole_7 : decode cX9_whole 7 = .ok (.ifCond .eq 7, 3) := by decide +kernel
theorem dX9_whole_10 : decode cX9_whole 10 = .ok (.iconst 0, 1) := by decide +kernel
theorem dX9_whole_11 : decode cX9_whole 11 = .ok (.goto 4, 3) := by decide +kernel
theorem dX9_whole_14 : decode cX9_whole 14 = .ok (.iconst 2, 1) := by decide +kernel
theorem dX9_whole_15 : decode cX9_whole 15 = .ok (.invokestatic 43, 3) := by decide +kernel
theorem dX9_whole_18 : decode cX9_whole 18 = .ok (.aload_n 0, 1) := by decide +kernel
theorem dX9_whole_19 : decode cX9_whole 19 = .ok (.getfield 10, 3) := by decide +kernel
theorem dX9_whole_22 : decode cX9_whole 22 = .ok (.iload_n 1, 1) := by decide +kernel
theorem dX9_whole_23 : decode cX9_whole 23 = .ok (.aload_n 0, 1) := by decide +kernel
theorem dX9_whole_24 : decode cX9_whole 24 = .ok (.getfield 26, 3) := by decide +kernel
theorem dX9_whole_27 : decode cX9_whole 27 = .ok (.getfield 149, 3) := by decide +kernel
theorem dX9_whole_30 : decode cX9_whole 30 = .ok (.invokevirtual 153, 3) := by decide +kernel
theorem dX9_whole_33 : decode cX9_whole 33 = .ok (.ireturn, 1) := by decide +kernel
theorem dX9_meanShade_0 : decode cX9_meanShade 0 = .ok (.iload_n 1, 1) := by decide +kernel
theorem dX9_meanShade_1 : decode cX9_meanShade 1 = .ok (.invokestatic 137, 3) := by decide +kernel
theorem dX9_meanShade_4 : decode cX9_meanShade 4 = .ok (.ifCond .eq 7, 3) := by decide +kernel
theorem dX9_meanShade_7 : decode cX9_meanShade 7 = .ok (.iconst 0, 1) := by decide +kernel
theorem dX9_meanShade_8 : decode cX9_meanShade 8 = .ok (.goto 4, 3) := by decide +kernel
theorem dX9_meanShade_11 : decode cX9_meanShade 11 = .ok (.iconst 2, 1) := by decide +kernel
theorem dX9_meanShade_12 : decode cX9_meanShade 12 = .ok (.invokestatic 43, 3) := by decide +kernel
theorem dX9_meanShade_15 : decode cX9_meanShade 15 = .ok (.aload_n 0, 1) := by decide +kernel
theorem dX9_meanShade_16 : decode cX9_meanShade 16 = .ok (.getfield 10, 3) := by decide +kernel
theorem dX9_meanShade_19 : decode cX9_meanShade 19 = .ok (.iload_n 1, 1) := by decide +kernel
theorem dX9_meanShade_20 : decode cX9_meanShade 20 = .ok (.invokevirtual 156, 3) := by decide +kernel
theorem dX9_meanShade_23 : decode cX9_meanShade 23 = .ok (.invokestatic 160, 3) := by decide +kernel
theorem dX9_meanShade_26 : decode cX9_meanShade 26 = .ok (.ireturn, 1) := by decide +kernel
theorem dX9_contrast_0 : decode cX9_contrast 0 = .ok (.aload_n 0, 1) := by decide +kernel
theorem dX9_contrast_1 : decode cX9_contrast 1 = .ok (.getfield 10, 3) := by decide +kernel
theorem dX9_contrast_4 : decode cX9_contrast 4 = .ok (.iload_n 1, 1) := by decide +kernel
theorem dX9_contrast_5 : decode cX9_contrast 5 = .ok (.invokevirtual 125, 3) := by decide +kernel
theorem dX9_contrast_8 : decode cX9_contrast 8 = .ok (.ifCond .eq 7, 3) := by decide +kernel
theorem dX9_contrast_11 : decode cX9_contrast 11 = .ok (.iconst 0, 1) := by decide +kernel
theorem dX9_contrast_12 : decode cX9_contrast 12 = .ok (.goto 4, 3) := by decide +kernel
theorem dX9_contrast_15 : decode cX9_contrast 15 = .ok (.iconst 1, 1) := by decide +kernel
theorem dX9_contrast_16 : decode cX9_contrast 16 = .ok (.invokestatic 43, 3) := by decide +kernel
theorem dX9_contrast_19 : decode cX9_contrast 19 = .ok (.aload_n 0, 1) := by decide +kernel
theorem dX9_contrast_20 : decode cX9_contrast 20 = .ok (.getfield 10, 3) := by decide +kernel
theorem dX9_contrast_23 : decode cX9_contrast 23 = .ok (.iload_n 1, 1) := by decide +kernel
theorem dX9_contrast_24 : decode cX9_contrast 24 = .ok (.invokevirtual 164, 3) := by decide +kernel
theorem dX9_contrast_27 : decode cX9_contrast 27 = .ok (.invokestatic 160, 3) := by decide +kernel
theorem dX9_contrast_30 : decode cX9_contrast 30 = .ok (.ireturn, 1) := by decide +kernel
theorem dX9_worstSeam_0 : decode cX9_worstSeam 0 = .ok (.aload_n 0, 1) := by decide +kernel
theorem dX9_worstSeam_1 : decode cX9_worstSeam 1 = .ok (.getfield 10, 3) := by decide +kernel
theorem dX9_worstSeam_4 : decode cX9_worstSeam 4 = .ok (.invokevirtual 167, 3) := by decide +kernel
theorem dX9_worstSeam_7 : decode cX9_worstSeam 7 = .ok (.invokestatic 160, 3) := by decide +kernel
theorem dX9_worstSeam_10 : decode cX9_worstSeam 10 = .ok (.ireturn, 1) := by decide +kernel
theorem dX9_rowsPossible_0 : decode cX9_rowsPossible 0 = .ok (.aload_n 0, 1) := by decide +kernel
theorem dX9_rowsPossible_1 : decode cX9_rowsPossible 1 = .ok (.getfield 10, 3) := by decide +kernel
theorem dX9_rowsPossible_4 : decode cX9_rowsPossible 4 = .ok (.invokevirtual 171, 3) := by decide +kernel
theorem dX9_rowsPossible_7 : decode cX9_rowsPossible 7 = .ok (.ireturn, 1) := by decide +kernel
theorem dX9_missing_0 : decode cX9_missing 0 = .ok (.iload_n 1, 1) := by decide +kernel
theorem dX9_missing_1 : decode cX9_missing 1 = .ok (.invokestatic 137, 3) := by decide +kernel
theorem dX9_missing_4 : decode cX9_missing 4 = .ok (.ifCond .eq 7, 3) := by decide +kernel
theorem dX9_missing_7 : decode cX9_missing 7 = .ok (.iconst 0, 1) := by decide +kernel
theorem dX9_missing_8 : decode cX9_missing 8 = .ok (.goto 4, 3) := by decide +kernel
theorem dX9_missing_11 : decode cX9_missing 11 = .ok (.iconst 2, 1) := by decide +kernel
theorem dX9_missing_12 : decode cX9_missing 12 = .ok (.invokestatic 43, 3) := by decide +kernel
theorem dX9_missing_15 : decode cX9_missing 15 = .ok (.iconst 0, 1) := by decide +kernel
theorem dX9_missing_16 : decode cX9_missing 16 = .ok (.aload_n 0, 1) := by decide +kernel
theorem dX9_missing_17 : decode cX9_missing 17 = .ok (.getfield 10, 3) := by decide +kernel
theorem dX9_missing_20 : decode cX9_missing 20 = .ok (.iload_n 1, 1) := by decide +kernel
theorem dX9_missing_21 : decode cX9_missing 21 = .ok (.invokevirtual 175, 3) := by decide +kernel
theorem dX9_missing_24 : decode cX9_missing 24 = .ok (.aload_n 0, 1) := by decide +kernel
theorem dX9_missing_25 : decode cX9_missing 25 = .ok (.getfield 10, 3) := by decide +kernel
theorem dX9_missing_28 : decode cX9_missing 28 = .ok (.getfield 65, 3) := by decide +kernel
theorem dX9_missing_31 : decode cX9_missing 31 = .ok (.iload_n 1, 1) := by decide +kernel
theorem dX9_missing_32 : decode cX9_missing 32 = .ok (.invokevirtual 178, 3) := by decide +kernel
theorem dX9_missing_35 : decode cX9_missing 35 = .ok (.isub, 1) := by decide +kernel
theorem dX9_missing_36 : decode cX9_missing 36 = .ok (.invokestatic 181, 3) := by decide +kernel
theorem dX9_missing_39 : decode cX9_missing 39 = .ok (.ireturn, 1) := by decide +kernel
theorem dX9_slitsWith_0 : decode cX9_slitsWith 0 = .ok (.aload_n 0, 1) := by decide +kernel
theorem dX9_slitsWith_1 : decode cX9_slitsWith 1 = .ok (.getfield 10, 3) := by decide +kernel
theorem dX9_slitsWith_4 : decode cX9_slitsWith 4 = .ok (.iload_n 1, 1) := by decide +kernel
theorem dX9_slitsWith_5 : decode cX9_slitsWith 5 = .ok (.invokevirtual 84, 3) := by decide +kernel
theorem dX9_slitsWith_8 : decode cX9_slitsWith 8 = .ok (.invokestatic 43, 3) := by decide +kernel
theorem dX9_slitsWith_11 : decode cX9_slitsWith 11 = .ok (.aload_n 0, 1) := by decide +kernel
theorem dX9_slitsWith_12 : decode cX9_slitsWith 12 = .ok (.getfield 10, 3) := by decide +kernel
theorem dX9_slitsWith_15 : decode cX9_slitsWith 15 = .ok (.iload_n 1, 1) := by decide +kernel
theorem dX9_slitsWith_16 : decode cX9_slitsWith 16 = .ok (.invokevirtual 186, 3) := by decide +kernel
theorem dX9_slitsWith_19 : decode cX9_slitsWith 19 = .ok (.ireturn, 1) := by decide +kernel
theorem dX9_firstWrong_0 : decode cX9_firstWrong 0 = .ok (.aload_n 0, 1) := by decide +kernel
theorem dX9_firstWrong_1 : decode cX9_firstWrong 1 = .ok (.getfield 10, 3) := by decide +kernel
theorem dX9_firstWrong_4 : decode cX9_firstWrong 4 = .ok (.invokevirtual 189, 3) := by decide +kernel
theorem dX9_firstWrong_7 : decode cX9_firstWrong 7 = .ok (.ireturn, 1) := by decide +kernel
theorem dX9_shuttlesFor_0 : decode cX9_shuttlesFor 0 = .ok (.aload_n 0, 1) := by decide +kernel
theorem dX9_shuttlesFor_1 : decode cX9_shuttlesFor 1 = .ok (.getfield 10, 3) := by decide +kernel
theorem dX9_shuttlesFor_4 : decode cX9_shuttlesFor 4 = .ok (.iconst 0, 1) := by decide +kernel
theorem dX9_shuttlesFor_5 : decode cX9_shuttlesFor 5 = .ok (.iload_n 1, 1) := by decide +kernel
theorem dX9_shuttlesFor_6 : decode cX9_shuttlesFor 6 = .ok (.invokevirtual 114, 3) := by decide +kernel
theorem dX9_shuttlesFor_9 : decode cX9_shuttlesFor 9 = .ok (.ifCond .eq 7, 3) := by decide +kernel
theorem dX9_shuttlesFor_12 : decode cX9_shuttlesFor 12 = .ok (.iconst 0, 1) := by decide +kernel
theorem dX9_shuttlesFor_13 : decode cX9_shuttlesFor 13 = .ok (.goto 4, 3) := by decide +kernel
theorem dX9_shuttlesFor_16 : decode cX9_shuttlesFor 16 = .ok (.iconst 1, 1) := by decide +kernel
theorem dX9_shuttlesFor_17 : decode cX9_shuttlesFor 17 = .ok (.invokestatic 43, 3) := by decide +kernel
theorem dX9_shuttlesFor_20 : decode cX9_shuttlesFor 20 = .ok (.aload_n 0, 1) := by decide +kernel
theorem dX9_shuttlesFor_21 : decode cX9_shuttlesFor 21 = .ok (.getfield 10, 3) := by decide +kernel
theorem dX9_shuttlesFor_24 : decode cX9_shuttlesFor 24 = .ok (.getfield 192, 3) := by decide +kernel
theorem dX9_shuttlesFor_27 : decode cX9_shuttlesFor 27 = .ok (.iload_n 1, 1) := by decide +kernel
theorem dX9_shuttlesFor_28 : decode cX9_shuttlesFor 28 = .ok (.aload_n 0, 1) := by decide +kernel
theorem dX9_shuttlesFor_29 : decode cX9_shuttlesFor 29 = .ok (.getfield 10, 3) := by decide +kernel
theorem dX9_shuttlesFor_32 : decode cX9_shuttlesFor 32 = .ok (.getfield 196, 3) := by decide +kernel
theorem dX9_shuttlesFor_35 : decode cX9_shuttlesFor 35 = .ok (.invokevirtual 199, 3) := by decide +kernel
theorem dX9_shuttlesFor_38 : decode cX9_shuttlesFor 38 = .ok (.ireturn, 1) := by decide +kernel
theorem dX9_type_0 : decode cX9_type 0 = .ok (.iconst 0, 1) := by decide +kernel
theorem dX9_type_1 : decode cX9_type 1 = .ok (.iload_n 1, 1) := by decide +kernel
theorem dX9_type_2 : decode cX9_type 2 = .ok (.bipush 127, 2) := by decide +kernel
theorem dX9_type_4 : decode cX9_type 4 = .ok (.invokestatic 118, 3) := by decide +kernel
theorem dX9_type_7 : decode cX9_type 7 = .ok (.ifCond .eq 7, 3) := by decide +kernel
theorem dX9_type_10 : decode cX9_type 10 = .ok (.iconst 0, 1) := by decide +kernel
theorem dX9_type_11 : decode cX9_type 11 = .ok (.goto 4, 3) := by decide +kernel
theorem dX9_type_14 : decode cX9_type 14 = .ok (.iconst 2, 1) := by decide +kernel
theorem dX9_type_15 : decode cX9_type 15 = .ok (.invokestatic 43, 3) := by decide +kernel
theorem dX9_type_18 : decode cX9_type 18 = .ok (.aload_n 0, 1) := by decide +kernel
theorem dX9_type_19 : decode cX9_type 19 = .ok (.getfield 26, 3) := by decide +kernel
theorem dX9_type_22 : decode cX9_type 22 = .ok (.getfield 149, 3) := by decide +kernel
theorem dX9_type_25 : decode cX9_type 25 = .ok (.sipush 150, 3) := by decide +kernel
theorem dX9_type_28 : decode cX9_type 28 = .ok (.if_icmp .ge 7, 3) := by decide +kernel
theorem dX9_type_31 : decode cX9_type 31 = .ok (.iconst 0, 1) := by decide +kernel
theorem dX9_type_32 : decode cX9_type 32 = .ok (.goto 4, 3) := by decide +kernel
theorem dX9_type_35 : decode cX9_type 35 = .ok (.iconst 3, 1) := by decide +kernel
theorem dX9_type_36 : decode cX9_type 36 = .ok (.invokestatic 43, 3) := by decide +kernel
theorem dX9_type_39 : decode cX9_type 39 = .ok (.aload_n 0, 1) := by decide +kernel
theorem dX9_type_40 : decode cX9_type 40 = .ok (.getfield 26, 3) := by decide +kernel
theorem dX9_type_43 : decode cX9_type 43 = .ok (.iload_n 1, 1) := by decide +kernel
theorem dX9_type_44 : decode cX9_type 44 = .ok (.invokevirtual 204, 3) := by decide +kernel
theorem dX9_type_47 : decode cX9_type 47 = .ok (.ireturn, 1) := by decide +kernel
theorem dX9_clearCommands_0 : decode cX9_clearCommands 0 = .ok (.aload_n 0, 1) := by decide +kernel
theorem dX9_clearCommands_1 : decode cX9_clearCommands 1 = .ok (.getfield 26, 3) := by decide +kernel
theorem dX9_clearCommands_4 : decode cX9_clearCommands 4 = .ok (.invokevirtual 207, 3) := by decide +kernel
theorem dX9_clearCommands_7 : decode cX9_clearCommands 7 = .ok (.ireturn, 1) := by decide +kernel
theorem dX9_runCommands_0 : decode cX9_runCommands 0 = .ok (.aload_n 0, 1) := by decide +kernel
theorem dX9_runCommands_1 : decode cX9_runCommands 1 = .ok (.getfield 35, 3) := by decide +kernel
theorem dX9_runCommands_4 : decode cX9_runCommands 4 = .ok (.invokevirtual 210, 3) := by decide +kernel
theorem dX9_runCommands_7 : decode cX9_runCommands 7 = .ok (.istore_n 1, 1) := by decide +kernel
theorem dX9_runCommands_8 : decode cX9_runCommands 8 = .ok (.iload_n 1, 1) := by decide +kernel
theorem dX9_runCommands_9 : decode cX9_runCommands 9 = .ok (.iconst (-1), 1) := by decide +kernel
theorem dX9_runCommands_10 : decode cX9_runCommands 10 = .ok (.if_icmp .eq 8, 3) := by decide +kernel
theorem dX9_runCommands_13 : decode cX9_runCommands 13 = .ok (.bipush (-10), 2) := by decide +kernel
theorem dX9_runCommands_15 : decode cX9_runCommands 15 = .ok (.iload_n 1, 1) := by decide +kernel
theorem dX9_runCommands_16 : decode cX9_runCommands 16 = .ok (.isub, 1) := by decide +kernel
theorem dX9_runCommands_17 : decode cX9_runCommands 17 = .ok (.ireturn, 1) := by decide +kernel
theorem dX9_runCommands_18 : decode cX9_runCommands 18 = .ok (.aload_n 0, 1) := by decide +kernel
theorem dX9_runCommands_19 : decode cX9_runCommands 19 = .ok (.getfield 19, 3) := by decide +kernel
theorem dX9_runCommands_22 : decode cX9_runCommands 22 = .ok (.aload_n 0, 1) := by decide +kernel
theorem dX9_runCommands_23 : decode cX9_runCommands 23 = .ok (.getfield 10, 3) := by decide +kernel
theorem dX9_runCommands_26 : decode cX9_runCommands 26 = .ok (.invokevirtual 47, 3) := by decide +kernel
theorem dX9_runCommands_29 : decode cX9_runCommands 29 = .ok (.iconst 0, 1) := by decide +kernel
theorem dX9_runCommands_30 : decode cX9_runCommands 30 = .ok (.istore_n 2, 1) := by decide +kernel
theorem dX9_runCommands_31 : decode cX9_runCommands 31 = .ok (.aload_n 0, 1) := by decide +kernel
theorem dX9_runCommands_32 : decode cX9_runCommands 32 = .ok (.getfield 35, 3) := by decide +kernel
theorem dX9_runCommands_35 : decode cX9_runCommands 35 = .ok (.invokevirtual 213, 3) := by decide +kernel
theorem dX9_runCommands_38 : decode cX9_runCommands 38 = .ok (.iload_n 2, 1) := by decide +kernel
theorem dX9_runCommands_39 : decode cX9_runCommands 39 = .ok (.sipush 150, 3) := by decide +kernel
theorem dX9_runCommands_42 : decode cX9_runCommands 42 = .ok (.if_icmp .ge 30, 3) := by decide +kernel
theorem dX9_runCommands_45 : decode cX9_runCommands 45 = .ok (.aload_n 0, 1) := by decide +kernel
theorem dX9_runCommands_46 : decode cX9_runCommands 46 = .ok (.getfield 35, 3) := by decide +kernel
theorem dX9_runCommands_49 : decode cX9_runCommands 49 = .ok (.invokevirtual 216, 3) := by decide +kernel
theorem dX9_runCommands_52 : decode cX9_runCommands 52 = .ok (.ifCond .eq 20, 3) := by decide +kernel
theorem dX9_runCommands_55 : decode cX9_runCommands 55 = .ok (.aload_n 0, 1) := by decide +kernel
theorem dX9_runCommands_56 : decode cX9_runCommands 56 = .ok (.invokevirtual 220, 3) := by decide +kernel
theorem dX9_runCommands_59 : decode cX9_runCommands 59 = .ok (.ifCond .ne 13, 3) := by decide +kernel
theorem dX9_runCommands_62 : decode cX9_runCommands 62 = .ok (.aload_n 0, 1) := by decide +kernel
theorem dX9_runCommands_63 : decode cX9_runCommands 63 = .ok (.invokevirtual 223, 3) := by decide +kernel
theorem dX9_runCommands_66 : decode cX9_runCommands 66 = .ok (.iinc 2 1, 3) := by decide +kernel
theorem dX9_runCommands_69 : decode cX9_runCommands 69 = .ok (.goto (-31), 3) := by decide +kernel
theorem dX9_runCommands_72 : decode cX9_runCommands 72 = .ok (.iload_n 2, 1) := by decide +kernel
theorem dX9_runCommands_73 : decode cX9_runCommands 73 = .ok (.ireturn, 1) := by decide +kernel
theorem dX9_undo_0 : decode cX9_undo 0 = .ok (.aload_n 0, 1) := by decide +kernel
theorem dX9_undo_1 : decode cX9_undo 1 = .ok (.getfield 19, 3) := by decide +kernel
theorem dX9_undo_4 : decode cX9_undo 4 = .ok (.getfield 226, 3) := by decide +kernel
theorem dX9_undo_7 : decode cX9_undo 7 = .ok (.ifCond .le 7, 3) := by decide +kernel
theorem dX9_undo_10 : decode cX9_undo 10 = .ok (.iconst 0, 1) := by decide +kernel
theorem dX9_undo_11 : decode cX9_undo 11 = .ok (.goto 4, 3) := by decide +kernel
theorem dX9_undo_14 : decode cX9_undo 14 = .ok (.iconst 3, 1) := by decide +kernel
theorem dX9_undo_15 : decode cX9_undo 15 = .ok (.invokestatic 43, 3) := by decide +kernel
theorem dX9_undo_18 : decode cX9_undo 18 = .ok (.aload_n 0, 1) := by decide +kernel
theorem dX9_undo_19 : decode cX9_undo 19 = .ok (.getfield 19, 3) := by decide +kernel
theorem dX9_undo_22 : decode cX9_undo 22 = .ok (.aload_n 0, 1) := by decide +kernel
theorem dX9_undo_23 : decode cX9_undo 23 = .ok (.getfield 10, 3) := by decide +kernel
theorem dX9_undo_26 : decode cX9_undo 26 = .ok (.invokevirtual 229, 3) := by decide +kernel
theorem dX9_undo_29 : decode cX9_undo 29 = .ok (.ireturn, 1) := by decide +kernel
theorem dX9_digest_0 : decode cX9_digest 0 = .ok (.ldc2_w 233, 3) := by decide +kernel
theorem dX9_digest_3 : decode cX9_digest 3 = .ok (.aload_n 0, 1) := by decide +kernel
theorem dX9_digest_4 : decode cX9_digest 4 = .ok (.getfield 19, 3) := by decide +kernel
theorem dX9_digest_7 : decode cX9_digest 7 = .ok (.getfield 226, 3) := by decide +kernel
theorem dX9_digest_10 : decode cX9_digest 10 = .ok (.invokestatic 235, 3) := by decide +kernel
theorem dX9_digest_13 : decode cX9_digest 13 = .ok (.lstore_n 1, 1) := by decide +kernel
theorem dX9_digest_14 : decode cX9_digest 14 = .ok (.iconst 0, 1) := by decide +kernel
theorem dX9_digest_15 : decode cX9_digest 15 = .ok (.istore_n 3, 1) := by decide +kernel
theorem dX9_digest_16 : decode cX9_digest 16 = .ok (.iload_n 3, 1) := by decide +kernel
theorem dX9_digest_17 : decode cX9_digest 17 = .ok (.bipush 15, 2) := by decide +kernel
theorem dX9_digest_19 : decode cX9_digest 19 = .ok (.if_icmp .ge 29, 3) := by decide +kernel
theorem dX9_digest_22 : decode cX9_digest 22 = .ok (.lload_n 1, 1) := by decide +kernel
theorem dX9_digest_23 : decode cX9_digest 23 = .ok (.aload_n 0, 1) := by decide +kernel
theorem dX9_digest_24 : decode cX9_digest 24 = .ok (.getfield 10, 3) := by decide +kernel
theorem dX9_digest_27 : decode cX9_digest 27 = .ok (.iload_n 3, 1) := by decide +kernel
theorem dX9_digest_28 : decode cX9_digest 28 = .ok (.aload_n 0, 1) := by decide +kernel
theorem dX9_digest_29 : decode cX9_digest 29 = .ok (.getfield 26, 3) := by decide +kernel
theorem dX9_digest_32 : decode cX9_digest 32 = .ok (.getfield 149, 3) := by decide +kernel
theorem dX9_digest_35 : decode cX9_digest 35 = .ok (.invokevirtual 153, 3) := by decide +kernel
theorem dX9_digest_38 : decode cX9_digest 38 = .ok (.invokestatic 235, 3) := by decide +kernel
theorem dX9_digest_41 : decode cX9_digest 41 = .ok (.lstore_n 1, 1) := by decide +kernel
theorem dX9_digest_42 : decode cX9_digest 42 = .ok (.iinc 3 1, 3) := by decide +kernel
theorem dX9_digest_45 : decode cX9_digest 45 = .ok (.goto (-29), 3) := by decide +kernel
theorem dX9_digest_48 : decode cX9_digest 48 = .ok (.aload_n 0, 1) := by decide +kernel
theorem dX9_digest_49 : decode cX9_digest 49 = .ok (.lload_n 1, 1) := by decide +kernel
theorem dX9_digest_50 : decode cX9_digest 50 = .ok (.invokevirtual 239, 3) := by decide +kernel
theorem dX9_digest_53 : decode cX9_digest 53 = .ok (.lstore_n 1, 1) := by decide +kernel
theorem dX9_digest_54 : decode cX9_digest 54 = .ok (.aload_n 0, 1) := by decide +kernel
theorem dX9_digest_55 : decode cX9_digest 55 = .ok (.lload_n 1, 1) := by decide +kernel
theorem dX9_digest_56 : decode cX9_digest 56 = .ok (.invokevirtual 243, 3) := by decide +kernel
theorem dX9_digest_59 : decode cX9_digest 59 = .ok (.lstore_n 1, 1) := by decide +kernel
theorem dX9_digest_60 : decode cX9_digest 60 = .ok (.aload_n 0, 1) := by decide +kernel
theorem dX9_digest_61 : decode cX9_digest 61 = .ok (.lload_n 1, 1) := by decide +kernel
theorem dX9_digest_62 : decode cX9_digest 62 = .ok (.invokevirtual 246, 3) := by decide +kernel
theorem dX9_digest_65 : decode cX9_digest 65 = .ok (.lstore_n 1, 1) := by decide +kernel
theorem dX9_digest_66 : decode cX9_digest 66 = .ok (.aload_n 0, 1) := by decide +kernel
theorem dX9_digest_67 : decode cX9_digest 67 = .ok (.lload_n 1, 1) := by decide +kernel
theorem dX9_digest_68 : decode cX9_digest 68 = .ok (.invokevirtual 249, 3) := by decide +kernel
theorem dX9_digest_71 : decode cX9_digest 71 = .ok (.lstore_n 1, 1) := by decide +kernel
theorem dX9_digest_72 : decode cX9_digest 72 = .ok (.aload_n 0, 1) := by decide +kernel
theorem dX9_digest_73 : decode cX9_digest 73 = .ok (.lload_n 1, 1) := by decide +kernel
theorem dX9_digest_74 : decode cX9_digest 74 = .ok (.invokevirtual 252, 3) := by decide +kernel
theorem dX9_digest_77 : decode cX9_digest 77 = .ok (.lstore_n 1, 1) := by decide +kernel
theorem dX9_digest_78 : decode cX9_digest 78 = .ok (.lload_n 1, 1) := by decide +kernel
theorem dX9_digest_79 : decode cX9_digest 79 = .ok (.aload_n 0, 1) := by decide +kernel
theorem dX9_digest_80 : decode cX9_digest 80 = .ok (.getfield 10, 3) := by decide +kernel
theorem dX9_digest_83 : decode cX9_digest 83 = .ok (.invokevirtual 167, 3) := by decide +kernel
theorem dX9_digest_86 : decode cX9_digest 86 = .ok (.invokestatic 160, 3) := by decide +kernel
theorem dX9_digest_89 : decode cX9_digest 89 = .ok (.invokestatic 235, 3) := by decide +kernel
theorem dX9_digest_92 : decode cX9_digest 92 = .ok (.lreturn, 1) := by decide +kernel
theorem dX9_refuse_0 : decode cX9_refuse 0 = .ok (.iload_n 0, 1) := by decide +kernel
theorem dX9_refuse_1 : decode cX9_refuse 1 = .ok (.iconst 1, 1) := by decide +kernel
theorem dX9_refuse_2 : decode cX9_refuse 2 = .ok (.if_icmp .ne 14, 3) := by decide +kernel
theorem dX9_refuse_5 : decode cX9_refuse 5 = .ok (.new 255, 3) := by decide +kernel
theorem dX9_refuse_8 : decode cX9_refuse 8 = .ok (.dup, 1) := by decide +kernel
theorem dX9_refuse_9 : decode cX9_refuse 9 = .ok (.ldc_w 257, 3) := by decide +kernel
theorem dX9_refuse_12 : decode cX9_refuse 12 = .ok (.invokespecial 259, 3) := by decide +kernel
theorem dX9_refuse_15 : decode cX9_refuse 15 = .ok (.athrow, 1) := by decide +kernel
theorem dX9_refuse_16 : decode cX9_refuse 16 = .ok (.iload_n 0, 1) := by decide +kernel
theorem dX9_refuse_17 : decode cX9_refuse 17 = .ok (.iconst 2, 1) := by decide +kernel
theorem dX9_refuse_18 : decode cX9_refuse 18 = .ok (.if_icmp .ne 14, 3) := by decide +kernel
theorem dX9_refuse_21 : decode cX9_refuse 21 = .ok (.new 262, 3) := by decide +kernel
theorem dX9_refuse_24 : decode cX9_refuse 24 = .ok (.dup, 1) := by decide +kernel
theorem dX9_refuse_25 : decode cX9_refuse 25 = .ok (.ldc_w 264, 3) := by decide +kernel
theorem dX9_refuse_28 : decode cX9_refuse 28 = .ok (.invokespecial 266, 3) := by decide +kernel
theorem dX9_refuse_31 : decode cX9_refuse 31 = .ok (.athrow, 1) := by decide +kernel
theorem dX9_refuse_32 : decode cX9_refuse 32 = .ok (.iload_n 0, 1) := by decide +kernel
theorem dX9_refuse_33 : decode cX9_refuse 33 = .ok (.iconst 3, 1) := by decide +kernel
theorem dX9_refuse_34 : decode cX9_refuse 34 = .ok (.if_icmp .ne 14, 3) := by decide +kernel
theorem dX9_refuse_37 : decode cX9_refuse 37 = .ok (.new 267, 3) := by decide +kernel
theorem dX9_refuse_40 : decode cX9_refuse 40 = .ok (.dup, 1) := by decide +kernel
theorem dX9_refuse_41 : decode cX9_refuse 41 = .ok (.ldc_w 269, 3) := by decide +kernel
theorem dX9_refuse_44 : decode cX9_refuse 44 = .ok (.invokespecial 271, 3) := by decide +kernel
theorem dX9_refuse_47 : decode cX9_refuse 47 = .ok (.athrow, 1) := by decide +kernel
theorem dX9_refuse_48 : decode cX9_refuse 48 = .ok (.return_, 1) := by decide +kernel
theorem dX9_isFrom_0 : decode cX9_isFrom 0 = .ok (.iload_n 1, 1) := by decide +kernel
theorem dX9_isFrom_1 : decode cX9_isFrom 1 = .ok (.iload_n 0, 1) := by decide +kernel
theorem dX9_isFrom_2 : decode cX9_isFrom 2 = .ok (.if_icmp .lt 12, 3) := by decide +kernel
theorem dX9_isFrom_5 : decode cX9_isFrom 5 = .ok (.iload_n 1, 1) := by decide +kernel
theorem dX9_isFrom_6 : decode cX9_isFrom 6 = .ok (.iload_n 2, 1) := by decide +kernel
theorem dX9_isFrom_7 : decode cX9_isFrom 7 = .ok (.if_icmp .gt 7, 3) := by decide +kernel
theorem dX9_isFrom_10 : decode cX9_isFrom 10 = .ok (.iconst 1, 1) := by decide +kernel
theorem dX9_isFrom_11 : decode cX9_isFrom 11 = .ok (.goto 4, 3) := by decide +kernel
theorem dX9_isFrom_14 : decode cX9_isFrom 14 = .ok (.iconst 0, 1) := by decide +kernel
theorem dX9_isFrom_15 : decode cX9_isFrom 15 = .ok (.ireturn, 1) := by decide +kernel
theorem dX9_isColor_0 : decode cX9_isColor 0 = .ok (.iconst 0, 1) := by decide +kernel
theorem dX9_isColor_1 : decode cX9_isColor 1 = .ok (.iload_n 0, 1) := by decide +kernel
theorem dX9_isColor_2 : decode cX9_isColor 2 = .ok (.bipush 7, 2) := by decide +kernel
theorem dX9_isColor_4 : decode cX9_isColor 4 = .ok (.invokestatic 118, 3) := by decide +kernel
theorem dX9_isColor_7 : decode cX9_isColor 7 = .ok (.ireturn, 1) := by decide +kernel
theorem dX9_whyNotCommand_0 : decode cX9_whyNotCommand 0 = .ok (.aload_n 0, 1) := by decide +kernel
theorem dX9_whyNotCommand_1 : decode cX9_whyNotCommand 1 = .ok (.getfield 35, 3) := by decide +kernel
theorem dX9_whyNotCommand_4 : decode cX9_whyNotCommand 4 = .ok (.getfield 272, 3) := by decide +kernel
theorem dX9_whyNotCommand_7 : decode cX9_whyNotCommand 7 = .ok (.astore_n 1, 1) := by decide +kernel
theorem dX9_whyNotCommand_8 : decode cX9_whyNotCommand 8 = .ok (.aload_n 0, 1) := by decide +kernel
theorem dX9_whyNotCommand_9 : decode cX9_whyNotCommand 9 = .ok (.getfield 35, 3) := by decide +kernel
theorem dX9_whyNotCommand_12 : decode cX9_whyNotCommand 12 = .ok (.getfield 276, 3) := by decide +kernel
theorem dX9_whyNotCommand_15 : decode cX9_whyNotCommand 15 = .ok (.iconst 0, 1) := by decide +kernel
theorem dX9_whyNotCommand_16 : decode cX9_whyNotCommand 16 = .ok (.invokevirtual 280, 3) := by decide +kernel
theorem dX9_whyNotCommand_19 : decode cX9_whyNotCommand 19 = .ok (.istore_n 2, 1) := by decide +kernel
theorem dX9_whyNotCommand_20 : decode cX9_whyNotCommand 20 = .ok (.aload_n 0, 1) := by decide +kernel
theorem dX9_whyNotCommand_21 : decode cX9_whyNotCommand 21 = .ok (.getfield 35, 3) := by decide +kernel
theorem dX9_whyNotCommand_24 : decode cX9_whyNotCommand 24 = .ok (.getfield 276, 3) := by decide +kernel
theorem dX9_whyNotCommand_27 : decode cX9_whyNotCommand 27 = .ok (.iconst 1, 1) := by decide +kernel
theorem dX9_whyNotCommand_28 : decode cX9_whyNotCommand 28 = .ok (.invokevirtual 280, 3) := by decide +kernel
theorem dX9_whyNotCommand_31 : decode cX9_whyNotCommand 31 = .ok (.istore_n 3, 1) := by decide +kernel
theorem dX9_whyNotCommand_32 : decode cX9_whyNotCommand 32 = .ok (.aload_n 0, 1) := by decide +kernel
theorem dX9_whyNotCommand_33 : decode cX9_whyNotCommand 33 = .ok (.getfield 35, 3) := by decide +kernel
theorem dX9_whyNotCommand_36 : decode cX9_whyNotCommand 36 = .ok (.getfield 276, 3) := by decide +kernel
theorem dX9_whyNotCommand_39 : decode cX9_whyNotCommand 39 = .ok (.iconst 2, 1) := by decide +kernel
theorem dX9_whyNotCommand_40 : decode cX9_whyNotCommand 40 = .ok (.invokevirtual 280, 3) := by decide +kernel
theorem dX9_whyNotCommand_43 : decode cX9_whyNotCommand 43 = .ok (.istore 4, 2) := by decide +kernel
theorem dX9_whyNotCommand_45 : decode cX9_whyNotCommand 45 = .ok (.aload_n 1, 1) := by decide +kernel
theorem dX9_whyNotCommand_46 : decode cX9_whyNotCommand 46 = .ok (.getstatic 285, 3) := by decide +kernel
theorem dX9_whyNotCommand_49 : decode cX9_whyNotCommand 49 = .ok (.if_acmp .ne 13, 3) := by decide +kernel
theorem dX9_whyNotCommand_52 : decode cX9_whyNotCommand 52 = .ok (.aload_n 0, 1) := by decide +kernel
theorem dX9_whyNotCommand_53 : decode cX9_whyNotCommand 53 = .ok (.getfield 10, 3) := by decide +kernel
theorem dX9_whyNotCommand_56 : decode cX9_whyNotCommand 56 = .ok (.iload_n 2, 1) := by decide +kernel
theorem dX9_whyNotCommand_57 : decode cX9_whyNotCommand 57 = .ok (.iload_n 3, 1) := by decide +kernel
theorem dX9_whyNotCommand_58 : decode cX9_whyNotCommand 58 = .ok (.invokevirtual 39, 3) := by decide +kernel
theorem dX9_whyNotCommand_61 : decode cX9_whyNotCommand 61 = .ok (.ireturn, 1) := by decide +kernel
theorem dX9_whyNotCommand_62 : decode cX9_whyNotCommand 62 = .ok (.aload_n 1, 1) := by decide +kernel
theorem dX9_whyNotCommand_63 : decode cX9_whyNotCommand 63 = .ok (.getstatic 290, 3) := by decide +kernel
theorem dX9_whyNotCommand_66 : decode cX9_whyNotCommand 66 = .ok (.if_acmp .ne 37, 3) := by decide +kernel
theorem dX9_whyNotCommand_69 : decode cX9_whyNotCommand 69 = .ok (.aload_n 0, 1) := by decide +kernel
theorem dX9_whyNotCommand_70 : decode cX9_whyNotCommand 70 = .ok (.getfield 10, 3) := by decide +kernel
theorem dX9_whyNotCommand_73 : decode cX9_whyNotCommand 73 = .ok (.iload_n 2, 1) := by decide +kernel
theorem dX9_whyNotCommand_74 : decode cX9_whyNotCommand 74 = .ok (.iload_n 3, 1) := by decide +kernel
theorem dX9_whyNotCommand_75 : decode cX9_whyNotCommand 75 = .ok (.iload 4, 2) := by decide +kernel
theorem dX9_whyNotCommand_77 : decode cX9_whyNotCommand 77 = .ok (.aload_n 0, 1) := by decide +kernel
theorem dX9_whyNotCommand_78 : decode cX9_whyNotCommand 78 = .ok (.getfield 35, 3) := by decide +kernel
theorem dX9_whyNotCommand_81 : decode cX9_whyNotCommand 81 = .ok (.getfield 276, 3) := by decide +kernel
theorem dX9_whyNotCommand_84 : decode cX9_whyNotCommand 84 = .ok (.iconst 3, 1) := by decide +kernel
theorem dX9_whyNotCommand_85 : decode cX9_whyNotCommand 85 = .ok (.invokevirtual 280, 3) := by decide +kernel
theorem dX9_whyNotCommand_88 : decode cX9_whyNotCommand 88 = .ok (.aload_n 0, 1) := by decide +kernel
theorem dX9_whyNotCommand_89 : decode cX9_whyNotCommand 89 = .ok (.getfield 35, 3) := by decide +kernel
theorem dX9_whyNotCommand_92 : decode cX9_whyNotCommand 92 = .ok (.getfield 276, 3) := by decide +kernel
theorem dX9_whyNotCommand_95 : decode cX9_whyNotCommand 95 = .ok (.iconst 4, 1) := by decide +kernel
theorem dX9_whyNotCommand_96 : decode cX9_whyNotCommand 96 = .ok (.invokevirtual 280, 3) := by decide +kernel
theorem dX9_whyNotCommand_99 : decode cX9_whyNotCommand 99 = .ok (.invokevirtual 54, 3) := by decide +kernel
theorem dX9_whyNotCommand_102 : decode cX9_whyNotCommand 102 = .ok (.ireturn, 1) := by decide +kernel
theorem dX9_whyNotCommand_103 : decode cX9_whyNotCommand 103 = .ok (.aload_n 1, 1) := by decide +kernel
theorem dX9_whyNotCommand_104 : decode cX9_whyNotCommand 104 = .ok (.getstatic 293, 3) := by decide +kernel
theorem dX9_whyNotCommand_107 : decode cX9_whyNotCommand 107 = .ok (.if_acmp .ne 19, 3) := by decide +kernel
theorem dX9_whyNotCommand_110 : decode cX9_whyNotCommand 110 = .ok (.aload_n 0, 1) := by decide +kernel
theorem dX9_whyNotCommand_111 : decode cX9_whyNotCommand 111 = .ok (.getfield 10, 3) := by decide +kernel
theorem dX9_whyNotCommand_114 : decode cX9_whyNotCommand 114 = .ok (.iload_n 2, 1) := by decide +kernel
theorem dX9_whyNotCommand_115 : decode cX9_whyNotCommand 115 = .ok (.iload_n 3, 1) := by decide +kernel
theorem dX9_whyNotCommand_116 : decode cX9_whyNotCommand 116 = .ok (.iload 4, 2) := by decide +kernel
theorem dX9_whyNotCommand_118 : decode cX9_whyNotCommand 118 = .ok (.i2f, 1) := by decide +kernel
theorem dX9_whyNotCommand_119 : decode cX9_whyNotCommand 119 = .ok (.invokestatic 160, 3) := by decide +kernel
theorem dX9_whyNotCommand_122 : decode cX9_whyNotCommand 122 = .ok (.invokevirtual 61, 3) := by decide +kernel
theorem dX9_whyNotCommand_125 : decode cX9_whyNotCommand 125 = .ok (.ireturn, 1) := by decide +kernel
theorem dX9_whyNotCommand_126 : decode cX9_whyNotCommand 126 = .ok (.aload_n 1, 1) := by decide +kernel
theorem dX9_whyNotCommand_127 : decode cX9_whyNotCommand 127 = .ok (.getstatic 296, 3) := by decide +kernel
theorem dX9_whyNotCommand_130 : decode cX9_whyNotCommand 130 = .ok (.if_acmp .ne 12, 3) := by decide +kernel
theorem dX9_whyNotCommand_133 : decode cX9_whyNotCommand 133 = .ok (.aload_n 0, 1) := by decide +kernel
theorem dX9_whyNotCommand_134 : decode cX9_whyNotCommand 134 = .ok (.getfield 10, 3) := by decide +kernel
theorem dX9_whyNotCommand_137 : decode cX9_whyNotCommand 137 = .ok (.iload_n 2, 1) := by decide +kernel
theorem dX9_whyNotCommand_138 : decode cX9_whyNotCommand 138 = .ok (.invokevirtual 96, 3) := by decide +kernel
theorem dX9_whyNotCommand_141 : decode cX9_whyNotCommand 141 = .ok (.ireturn, 1) := by decide +kernel
theorem dX9_whyNotCommand_142 : decode cX9_whyNotCommand 142 = .ok (.aload_n 1, 1) := by decide +kernel
theorem dX9_whyNotCommand_143 : decode cX9_whyNotCommand 143 = .ok (.getstatic 299, 3) := by decide +kernel
theorem dX9_whyNotCommand_146 : decode cX9_whyNotCommand 146 = .ok (.if_acmp .ne 12, 3) := by decide +kernel
theorem dX9_whyNotCommand_149 : decode cX9_whyNotCommand 149 = .ok (.aload_n 0, 1) := by decide +kernel
theorem dX9_whyNotCommand_150 : decode cX9_whyNotCommand 150 = .ok (.getfield 10, 3) := by decide +kernel
theorem dX9_whyNotCommand_153 : decode cX9_whyNotCommand 153 = .ok (.iload_n 2, 1) := by decide +kernel
theorem dX9_whyNotCommand_154 : decode cX9_whyNotCommand 154 = .ok (.invokevirtual 102, 3) := by decide +kernel
theorem dX9_whyNotCommand_157 : decode cX9_whyNotCommand 157 = .ok (.ireturn, 1) := by decide +kernel
theorem dX9_whyNotCommand_158 : decode cX9_whyNotCommand 158 = .ok (.aload_n 1, 1) := by decide +kernel
theorem dX9_whyNotCommand_159 : decode cX9_whyNotCommand 159 = .ok (.getstatic 302, 3) := by decide +kernel
theorem dX9_whyNotCommand_162 : decode cX9_whyNotCommand 162 = .ok (.if_acmp .ne 13, 3) := by decide +kernel
theorem dX9_whyNotCommand_165 : decode cX9_whyNotCommand 165 = .ok (.aload_n 0, 1) := by decide +kernel
theorem dX9_whyNotCommand_166 : decode cX9_whyNotCommand 166 = .ok (.getfield 10, 3) := by decide +kernel
theorem dX9_whyNotCommand_169 : decode cX9_whyNotCommand 169 = .ok (.iload_n 2, 1) := by decide +kernel
theorem dX9_whyNotCommand_170 : decode cX9_whyNotCommand 170 = .ok (.iload_n 3, 1) := by decide +kernel
theorem dX9_whyNotCommand_171 : decode cX9_whyNotCommand 171 = .ok (.invokevirtual 90, 3) := by decide +kernel
theorem dX9_whyNotCommand_174 : decode cX9_whyNotCommand 174 = .ok (.ireturn, 1) := by decide +kernel
theorem dX9_whyNotCommand_175 : decode cX9_whyNotCommand 175 = .ok (.aload_n 1, 1) := by decide +kernel
theorem dX9_whyNotCommand_176 : decode cX9_whyNotCommand 176 = .ok (.getstatic 305, 3) := by decide +kernel
theorem dX9_whyNotCommand_179 : decode cX9_whyNotCommand 179 = .ok (.if_acmp .ne 14, 3) := by decide +kernel
theorem dX9_whyNotCommand_182 : decode cX9_whyNotCommand 182 = .ok (.aload_n 0, 1) := by decide +kernel
theorem dX9_whyNotCommand_183 : decode cX9_whyNotCommand 183 = .ok (.getfield 10, 3) := by decide +kernel
theorem dX9_whyNotCommand_186 : decode cX9_whyNotCommand 186 = .ok (.iload_n 2, 1) := by decide +kernel
theorem dX9_whyNotCommand_187 : decode cX9_whyNotCommand 187 = .ok (.invokevirtual 108, 3) := by decide +kernel
theorem dX9_whyNotCommand_190 : decode cX9_whyNotCommand 190 = .ok (.goto 11, 3) := by decide +kernel
theorem dX9_whyNotCommand_193 : decode cX9_whyNotCommand 193 = .ok (.aload_n 0, 1) := by decide +kernel
theorem dX9_whyNotCommand_194 : decode cX9_whyNotCommand 194 = .ok (.getfield 10, 3) := by decide +kernel
theorem dX9_whyNotCommand_197 : decode cX9_whyNotCommand 197 = .ok (.iload_n 2, 1) := by decide +kernel
theorem dX9_whyNotCommand_198 : decode cX9_whyNotCommand 198 = .ok (.invokevirtual 84, 3) := by decide +kernel
theorem dX9_whyNotCommand_201 : decode cX9_whyNotCommand 201 = .ok (.ireturn, 1) := by decide +kernel
theorem dX9_carryOutCommand_0 : decode cX9_carryOutCommand 0 = .ok (.aload_n 0, 1) := by decide +kernel
theorem dX9_carryOutCommand_1 : decode cX9_carryOutCommand 1 = .ok (.getfield 35, 3) := by decide +kernel
theorem dX9_carryOutCommand_4 : decode cX9_carryOutCommand 4 = .ok (.getfield 272, 3) := by decide +kernel
theorem dX9_carryOutCommand_7 : decode cX9_carryOutCommand 7 = .ok (.astore_n 1, 1) := by decide +kernel
theorem dX9_carryOutCommand_8 : decode cX9_carryOutCommand 8 = .ok (.aload_n 0, 1) := by decide +kernel
theorem dX9_carryOutCommand_9 : decode cX9_carryOutCommand 9 = .ok (.getfield 35, 3) := by decide +kernel
theorem dX9_carryOutCommand_12 : decode cX9_carryOutCommand 12 = .ok (.getfield 276, 3) := by decide +kernel
theorem dX9_carryOutCommand_15 : decode cX9_carryOutCommand 15 = .ok (.iconst 0, 1) := by decide +kernel
theorem dX9_carryOutCommand_16 : decode cX9_carryOutCommand 16 = .ok (.invokevirtual 280, 3) := by decide +kernel
theorem dX9_carryOutCommand_19 : decode cX9_carryOutCommand 19 = .ok (.istore_n 2, 1) := by decide +kernel
theorem dX9_carryOutCommand_20 : decode cX9_carryOutCommand 20 = .ok (.aload_n 0, 1) := by decide +kernel
theorem dX9_carryOutCommand_21 : decode cX9_carryOutCommand 21 = .ok (.getfield 35, 3) := by decide +kernel
theorem dX9_carryOutCommand_24 : decode cX9_carryOutCommand 24 = .ok (.getfield 276, 3) := by decide +kernel
theorem dX9_carryOutCommand_27 : decode cX9_carryOutCommand 27 = .ok (.iconst 1, 1) := by decide +kernel
theorem dX9_carryOutCommand_28 : decode cX9_carryOutCommand 28 = .ok (.invokevirtual 280, 3) := by decide +kernel
theorem dX9_carryOutCommand_31 : decode cX9_carryOutCommand 31 = .ok (.istore_n 3, 1) := by decide +kernel
theorem dX9_carryOutCommand_32 : decode cX9_carryOutCommand 32 = .ok (.aload_n 0, 1) := by decide +kernel
theorem dX9_carryOutCommand_33 : decode cX9_carryOutCommand 33 = .ok (.getfield 35, 3) := by decide +kernel
theorem dX9_carryOutCommand_36 : decode cX9_carryOutCommand 36 = .ok (.getfield 276, 3) := by decide +kernel
theorem dX9_carryOutCommand_39 : decode cX9_carryOutCommand 39 = .ok (.iconst 2, 1) := by decide +kernel
theorem dX9_carryOutCommand_40 : decode cX9_carryOutCommand 40 = .ok (.invokevirtual 280, 3) := by decide +kernel
theorem dX9_carryOutCommand_43 : decode cX9_carryOutCommand 43 = .ok (.istore 4, 2) := by decide +kernel
theorem dX9_carryOutCommand_45 : decode cX9_carryOutCommand 45 = .ok (.aload_n 1, 1) := by decide +kernel
theorem dX9_carryOutCommand_46 : decode cX9_carryOutCommand 46 = .ok (.getstatic 285, 3) := by decide +kernel
theorem dX9_carryOutCommand_49 : decode cX9_carryOutCommand 49 = .ok (.if_acmp .ne 16, 3) := by decide +kernel
theorem dX9_carryOutCommand_52 : decode cX9_carryOutCommand 52 = .ok (.aload_n 0, 1) := by decide +kernel
theorem dX9_carryOutCommand_53 : decode cX9_carryOutCommand 53 = .ok (.getfield 10, 3) := by decide +kernel
theorem dX9_carryOutCommand_56 : decode cX9_carryOutCommand 56 = .ok (.iload_n 2, 1) := by decide +kernel
theorem dX9_carryOutCommand_57 : decode cX9_carryOutCommand 57 = .ok (.iload_n 3, 1) := by decide +kernel
theorem dX9_carryOutCommand_58 : decode cX9_carryOutCommand 58 = .ok (.invokevirtual 51, 3) := by decide +kernel
theorem dX9_carryOutCommand_61 : decode cX9_carryOutCommand 61 = .ok (.pop, 1) := by decide +kernel
theorem dX9_carryOutCommand_62 : decode cX9_carryOutCommand 62 = .ok (.goto 169, 3) := by decide +kernel
theorem dX9_carryOutCommand_65 : decode cX9_carryOutCommand 65 = .ok (.aload_n 1, 1) := by decide +kernel
theorem dX9_carryOutCommand_66 : decode cX9_carryOutCommand 66 = .ok (.getstatic 290, 3) := by decide +kernel
theorem dX9_carryOutCommand_69 : decode cX9_carryOutCommand 69 = .ok (.if_acmp .ne 40, 3) := by decide +kernel
theorem dX9_carryOutCommand_72 : decode cX9_carryOutCommand 72 = .ok (.aload_n 0, 1) := by decide +kernel
theorem dX9_carryOutCommand_73 : decode cX9_carryOutCommand 73 = .ok (.getfield 10, 3) := by decide +kernel
theorem dX9_carryOutCommand_76 : decode cX9_carryOutCommand 76 = .ok (.iload_n 2, 1) := by decide +kernel
theorem dX9_carryOutCommand_77 : decode cX9_carryOutCommand 77 = .ok (.iload_n 3, 1) := by decide +kernel
theorem dX9_carryOutCommand_78 : decode cX9_carryOutCommand 78 = .ok (.iload 4, 2) := by decide +kernel
theorem dX9_carryOutCommand_80 : decode cX9_carryOutCommand 80 = .ok (.aload_n 0, 1) := by decide +kernel
theorem dX9_carryOutCommand_81 : decode cX9_carryOutCommand 81 = .ok (.getfield 35, 3) := by decide +kernel
theorem dX9_carryOutCommand_84 : decode cX9_carryOutCommand 84 = .ok (.getfield 276, 3) := by decide +kernel
theorem dX9_carryOutCommand_87 : decode cX9_carryOutCommand 87 = .ok (.iconst 3, 1) := by decide +kernel
theorem dX9_carryOutCommand_88 : decode cX9_carryOutCommand 88 = .ok (.invokevirtual 280, 3) := by decide +kernel
theorem dX9_carryOutCommand_91 : decode cX9_carryOutCommand 91 = .ok (.aload_n 0, 1) := by decide +kernel
theorem dX9_carryOutCommand_92 : decode cX9_carryOutCommand 92 = .ok (.getfield 35, 3) := by decide +kernel
theorem dX9_carryOutCommand_95 : decode cX9_carryOutCommand 95 = .ok (.getfield 276, 3) := by decide +kernel
theorem dX9_carryOutCommand_98 : decode cX9_carryOutCommand 98 = .ok (.iconst 4, 1) := by decide +kernel
theorem dX9_carryOutCommand_99 : decode cX9_carryOutCommand 99 = .ok (.invokevirtual 280, 3) := by decide +kernel
theorem dX9_carryOutCommand_102 : decode cX9_carryOutCommand 102 = .ok (.invokevirtual 58, 3) := by decide +kernel
theorem dX9_carryOutCommand_105 : decode cX9_carryOutCommand 105 = .ok (.pop, 1) := by decide +kernel
theorem dX9_carryOutCommand_106 : decode cX9_carryOutCommand 106 = .ok (.goto 125, 3) := by decide +kernel
theorem dX9_carryOutCommand_109 : decode cX9_carryOutCommand 109 = .ok (.aload_n 1, 1) := by decide +kernel
theorem dX9_carryOutCommand_110 : decode cX9_carryOutCommand 110 = .ok (.getstatic 293, 3) := by decide +kernel
theorem dX9_carryOutCommand_113 : decode cX9_carryOutCommand 113 = .ok (.if_acmp .ne 25, 3) := by decide +kernel
theorem dX9_carryOutCommand_116 : decode cX9_carryOutCommand 116 = .ok (.aload_n 0, 1) := by decide +kernel
theorem dX9_carryOutCommand_117 : decode cX9_carryOutCommand 117 = .ok (.getfield 10, 3) := by decide +kernel
theorem dX9_carryOutCommand_120 : decode cX9_carryOutCommand 120 = .ok (.getfield 65, 3) := by decide +kernel
theorem dX9_carryOutCommand_123 : decode cX9_carryOutCommand 123 = .ok (.iload_n 2, 1) := by decide +kernel
theorem dX9_carryOutCommand_124 : decode cX9_carryOutCommand 124 = .ok (.iload_n 3, 1) := by decide +kernel
theorem dX9_carryOutCommand_125 : decode cX9_carryOutCommand 125 = .ok (.iload 4, 2) := by decide +kernel
theorem dX9_carryOutCommand_127 : decode cX9_carryOutCommand 127 = .ok (.i2f, 1) := by decide +kernel
theorem dX9_carryOutCommand_128 : decode cX9_carryOutCommand 128 = .ok (.invokestatic 160, 3) := by decide +kernel
theorem dX9_carryOutCommand_131 : decode cX9_carryOutCommand 131 = .ok (.invokevirtual 69, 3) := by decide +kernel
theorem dX9_carryOutCommand_134 : decode cX9_carryOutCommand 134 = .ok (.pop, 1) := by decide +kernel
theorem dX9_carryOutCommand_135 : decode cX9_carryOutCommand 135 = .ok (.goto 96, 3) := by decide +kernel
theorem dX9_carryOutCommand_138 : decode cX9_carryOutCommand 138 = .ok (.aload_n 1, 1) := by decide +kernel
theorem dX9_carryOutCommand_139 : decode cX9_carryOutCommand 139 = .ok (.getstatic 296, 3) := by decide +kernel
theorem dX9_carryOutCommand_142 : decode cX9_carryOutCommand 142 = .ok (.if_acmp .ne 15, 3) := by decide +kernel
theorem dX9_carryOutCommand_145 : decode cX9_carryOutCommand 145 = .ok (.aload_n 0, 1) := by decide +kernel
theorem dX9_carryOutCommand_146 : decode cX9_carryOutCommand 146 = .ok (.getfield 10, 3) := by decide +kernel
theorem dX9_carryOutCommand_149 : decode cX9_carryOutCommand 149 = .ok (.iload_n 2, 1) := by decide +kernel
theorem dX9_carryOutCommand_150 : decode cX9_carryOutCommand 150 = .ok (.invokevirtual 99, 3) := by decide +kernel
theorem dX9_carryOutCommand_153 : decode cX9_carryOutCommand 153 = .ok (.pop, 1) := by decide +kernel
theorem dX9_carryOutCommand_154 : decode cX9_carryOutCommand 154 = .ok (.goto 77, 3) := by decide +kernel
theorem dX9_carryOutCommand_157 : decode cX9_carryOutCommand 157 = .ok (.aload_n 1, 1) := by decide +kernel
theorem dX9_carryOutCommand_158 : decode cX9_carryOutCommand 158 = .ok (.getstatic 299, 3) := by decide +kernel
theorem dX9_carryOutCommand_161 : decode cX9_carryOutCommand 161 = .ok (.if_acmp .ne 15, 3) := by decide +kernel
theorem dX9_carryOutCommand_164 : decode cX9_carryOutCommand 164 = .ok (.aload_n 0, 1) := by decide +kernel
theorem dX9_carryOutCommand_165 : decode cX9_carryOutCommand 165 = .ok (.getfield 10, 3) := by decide +kernel
theorem dX9_carryOutCommand_168 : decode cX9_carryOutCommand 168 = .ok (.iload_n 2, 1) := by decide +kernel
theorem dX9_carryOutCommand_169 : decode cX9_carryOutCommand 169 = .ok (.invokevirtual 105, 3) := by decide +kernel
theorem dX9_carryOutCommand_172 : decode cX9_carryOutCommand 172 = .ok (.pop, 1) := by decide +kernel
theorem dX9_carryOutCommand_173 : decode cX9_carryOutCommand 173 = .ok (.goto 58, 3) := by decide +kernel
theorem dX9_carryOutCommand_176 : decode cX9_carryOutCommand 176 = .ok (.aload_n 1, 1) := by decide +kernel
theorem dX9_carryOutCommand_177 : decode cX9_carryOutCommand 177 = .ok (.getstatic 302, 3) := by decide +kernel
theorem dX9_carryOutCommand_180 : decode cX9_carryOutCommand 180 = .ok (.if_acmp .ne 16, 3) := by decide +kernel
theorem dX9_carryOutCommand_183 : decode cX9_carryOutCommand 183 = .ok (.aload_n 0, 1) := by decide +kernel
theorem dX9_carryOutCommand_184 : decode cX9_carryOutCommand 184 = .ok (.getfield 10, 3) := by decide +kernel
theorem dX9_carryOutCommand_187 : decode cX9_carryOutCommand 187 = .ok (.iload_n 2, 1) := by decide +kernel
theorem dX9_carryOutCommand_188 : decode cX9_carryOutCommand 188 = .ok (.iload_n 3, 1) := by decide +kernel
theorem dX9_carryOutCommand_189 : decode cX9_carryOutCommand 189 = .ok (.invokevirtual 93, 3) := by decide +kernel
theorem dX9_carryOutCommand_192 : decode cX9_carryOutCommand 192 = .ok (.pop, 1) := by decide +kernel
theorem dX9_carryOutCommand_193 : decode cX9_carryOutCommand 193 = .ok (.goto 38, 3) := by decide +kernel
theorem dX9_carryOutCommand_196 : decode cX9_carryOutCommand 196 = .ok (.aload_n 1, 1) := by decide +kernel
theorem dX9_carryOutCommand_197 : decode cX9_carryOutCommand 197 = .ok (.getstatic 305, 3) := by decide +kernel
theorem dX9_carryOutCommand_200 : decode cX9_carryOutCommand 200 = .ok (.if_acmp .ne 15, 3) := by decide +kernel
theorem dX9_carryOutCommand_203 : decode cX9_carryOutCommand 203 = .ok (.aload_n 0, 1) := by decide +kernel
theorem dX9_carryOutCommand_204 : decode cX9_carryOutCommand 204 = .ok (.getfield 10, 3) := by decide +kernel
theorem dX9_carryOutCommand_207 : decode cX9_carryOutCommand 207 = .ok (.iload_n 2, 1) := by decide +kernel
theorem dX9_carryOutCommand_208 : decode cX9_carryOutCommand 208 = .ok (.invokevirtual 111, 3) := by decide +kernel
theorem dX9_carryOutCommand_211 : decode cX9_carryOutCommand 211 = .ok (.pop, 1) := by decide +kernel
theorem dX9_carryOutCommand_212 : decode cX9_carryOutCommand 212 = .ok (.goto 19, 3) := by decide +kernel
theorem dX9_carryOutCommand_215 : decode cX9_carryOutCommand 215 = .ok (.aload_n 1, 1) := by decide +kernel
theorem dX9_carryOutCommand_216 : decode cX9_carryOutCommand 216 = .ok (.getstatic 308, 3) := by decide +kernel
theorem dX9_carryOutCommand_219 : decode cX9_carryOutCommand 219 = .ok (.if_acmp .ne 12, 3) := by decide +kernel
theorem dX9_carryOutCommand_222 : decode cX9_carryOutCommand 222 = .ok (.aload_n 0, 1) := by decide +kernel
theorem dX9_carryOutCommand_223 : decode cX9_carryOutCommand 223 = .ok (.getfield 10, 3) := by decide +kernel
theorem dX9_carryOutCommand_226 : decode cX9_carryOutCommand 226 = .ok (.iload_n 2, 1) := by decide +kernel
theorem dX9_carryOutCommand_227 : decode cX9_carryOutCommand 227 = .ok (.invokevirtual 87, 3) := by decide +kernel
theorem dX9_carryOutCommand_230 : decode cX9_carryOutCommand 230 = .ok (.pop, 1) := by decide +kernel
theorem dX9_carryOutCommand_231 : decode cX9_carryOutCommand 231 = .ok (.return_, 1) := by decide +kernel
theorem dX9_mixed_0 : decode cX9_mixed 0 = .ok (.ldc2_w 311, 3) := by decide +kernel
theorem dX9_mixed_3 : decode cX9_mixed 3 = .ok (.lload_n 0, 1) := by decide +kernel
theorem dX9_mixed_4 : decode cX9_mixed 4 = .ok (.lmul, 1) := by decide +kernel
theorem dX9_mixed_5 : decode cX9_mixed 5 = .ok (.iload_n 2, 1) := by decide +kernel
theorem dX9_mixed_6 : decode cX9_mixed 6 = .ok (.i2l, 1) := by decide +kernel
theorem dX9_mixed_7 : decode cX9_mixed 7 = .ok (.ladd, 1) := by decide +kernel
theorem dX9_mixed_8 : decode cX9_mixed 8 = .ok (.lreturn, 1) := by decide +kernel
theorem dX9_mixedCells_0 : decode cX9_mixedCells 0 = .ok (.lload_n 1, 1) := by decide +kernel
theorem dX9_mixedCells_1 : decode cX9_mixedCells 1 = .ok (.lstore_n 3, 1) := by decide +kernel
theorem dX9_mixedCells_2 : decode cX9_mixedCells 2 = .ok (.iconst 0, 1) := by decide +kernel
theorem dX9_mixedCells_3 : decode cX9_mixedCells 3 = .ok (.istore 5, 2) := by decide +kernel
theorem dX9_mixedCells_5 : decode cX9_mixedCells 5 = .ok (.iload 5, 2) := by decide +kernel
theorem dX9_mixedCells_7 : decode cX9_mixedCells 7 = .ok (.aload_n 0, 1) := by decide +kernel
theorem dX9_mixedCells_8 : decode cX9_mixedCells 8 = .ok (.getfield 10, 3) := by decide +kernel
theorem dX9_mixedCells_11 : decode cX9_mixedCells 11 = .ok (.getfield 313, 3) := by decide +kernel
theorem dX9_mixedCells_14 : decode cX9_mixedCells 14 = .ok (.if_icmp .ge 81, 3) := by decide +kernel
theorem dX9_mixedCells_17 : decode cX9_mixedCells 17 = .ok (.iconst 0, 1) := by decide +kernel
theorem dX9_mixedCells_18 : decode cX9_mixedCells 18 = .ok (.istore 6, 2) := by decide +kernel
theorem dX9_mixedCells_20 : decode cX9_mixedCells 20 = .ok (.iload 6, 2) := by decide +kernel
theorem dX9_mixedCells_22 : decode cX9_mixedCells 22 = .ok (.aload_n 0, 1) := by decide +kernel
theorem dX9_mixedCells_23 : decode cX9_mixedCells 23 = .ok (.getfield 10, 3) := by decide +kernel
theorem dX9_mixedCells_26 : decode cX9_mixedCells 26 = .ok (.getfield 196, 3) := by decide +kernel
theorem dX9_mixedCells_29 : decode cX9_mixedCells 29 = .ok (.if_icmp .ge 60, 3) := by decide +kernel
theorem dX9_mixedCells_32 : decode cX9_mixedCells 32 = .ok (.lload_n 3, 1) := by decide +kernel
theorem dX9_mixedCells_33 : decode cX9_mixedCells 33 = .ok (.aload_n 0, 1) := by decide +kernel
theorem dX9_mixedCells_34 : decode cX9_mixedCells 34 = .ok (.getfield 10, 3) := by decide +kernel
theorem dX9_mixedCells_37 : decode cX9_mixedCells 37 = .ok (.iload 6, 2) := by decide +kernel
theorem dX9_mixedCells_39 : decode cX9_mixedCells 39 = .ok (.iload 5, 2) := by decide +kernel
theorem dX9_mixedCells_41 : decode cX9_mixedCells 41 = .ok (.iconst 0, 1) := by decide +kernel
theorem dX9_mixedCells_42 : decode cX9_mixedCells 42 = .ok (.invokevirtual 122, 3) := by decide +kernel
theorem dX9_mixedCells_45 : decode cX9_mixedCells 45 = .ok (.invokestatic 235, 3) := by decide +kernel
theorem dX9_mixedCells_48 : decode cX9_mixedCells 48 = .ok (.lstore_n 3, 1) := by decide +kernel
theorem dX9_mixedCells_49 : decode cX9_mixedCells 49 = .ok (.lload_n 3, 1) := by decide +kernel
theorem dX9_mixedCells_50 : decode cX9_mixedCells 50 = .ok (.aload_n 0, 1) := by decide +kernel
theorem dX9_mixedCells_51 : decode cX9_mixedCells 51 = .ok (.getfield 10, 3) := by decide +kernel
theorem dX9_mixedCells_54 : decode cX9_mixedCells 54 = .ok (.iload 6, 2) := by decide +kernel
theorem dX9_mixedCells_56 : decode cX9_mixedCells 56 = .ok (.iload 5, 2) := by decide +kernel
theorem dX9_mixedCells_58 : decode cX9_mixedCells 58 = .ok (.iconst 1, 1) := by decide +kernel
theorem dX9_mixedCells_59 : decode cX9_mixedCells 59 = .ok (.invokevirtual 122, 3) := by decide +kernel
theorem dX9_mixedCells_62 : decode cX9_mixedCells 62 = .ok (.invokestatic 235, 3) := by decide +kernel
theorem dX9_mixedCells_65 : decode cX9_mixedCells 65 = .ok (.lstore_n 3, 1) := by decide +kernel
theorem dX9_mixedCells_66 : decode cX9_mixedCells 66 = .ok (.lload_n 3, 1) := by decide +kernel
theorem dX9_mixedCells_67 : decode cX9_mixedCells 67 = .ok (.aload_n 0, 1) := by decide +kernel
theorem dX9_mixedCells_68 : decode cX9_mixedCells 68 = .ok (.getfield 10, 3) := by decide +kernel
theorem dX9_mixedCells_71 : decode cX9_mixedCells 71 = .ok (.iload 6, 2) := by decide +kernel
theorem dX9_mixedCells_73 : decode cX9_mixedCells 73 = .ok (.iload 5, 2) := by decide +kernel
theorem dX9_mixedCells_75 : decode cX9_mixedCells 75 = .ok (.iconst 2, 1) := by decide +kernel
theorem dX9_mixedCells_76 : decode cX9_mixedCells 76 = .ok (.invokevirtual 122, 3) := by decide +kernel
theorem dX9_mixedCells_79 : decode cX9_mixedCells 79 = .ok (.invokestatic 235, 3) := by decide +kernel
theorem dX9_mixedCells_82 : decode cX9_mixedCells 82 = .ok (.lstore_n 3, 1) := by decide +kernel
theorem dX9_mixedCells_83 : decode cX9_mixedCells 83 = .ok (.iinc 6 1, 3) := by decide +kernel
theorem dX9_mixedCells_86 : decode cX9_mixedCells 86 = .ok (.goto (-66), 3) := by decide +kernel
theorem dX9_mixedCells_89 : decode cX9_mixedCells 89 = .ok (.iinc 5 1, 3) := by decide +kernel
theorem dX9_mixedCells_92 : decode cX9_mixedCells 92 = .ok (.goto (-87), 3) := by decide +kernel
theorem dX9_mixedCells_95 : decode cX9_mixedCells 95 = .ok (.lload_n 3, 1) := by decide +kernel
theorem dX9_mixedCells_96 : decode cX9_mixedCells 96 = .ok (.lreturn, 1) := by decide +kernel
theorem dX9_mixedRows_0 : decode cX9_mixedRows 0 = .ok (.lload_n 1, 1) := by decide +kernel
theorem dX9_mixedRows_1 : decode cX9_mixedRows 1 = .ok (.lstore_n 3, 1) := by decide +kernel
theorem dX9_mixedRows_2 : decode cX9_mixedRows 2 = .ok (.iconst 0, 1) := by decide +kernel
theorem dX9_mixedRows_3 : decode cX9_mixedRows 3 = .ok (.istore 5, 2) := by decide +kernel
theorem dX9_mixedRows_5 : decode cX9_mixedRows 5 = .ok (.iload 5, 2) := by decide +kernel
theorem dX9_mixedRows_7 : decode cX9_mixedRows 7 = .ok (.aload_n 0, 1) := by decide +kernel
theorem dX9_mixedRows_8 : decode cX9_mixedRows 8 = .ok (.getfield 10, 3) := by decide +kernel
theorem dX9_mixedRows_11 : decode cX9_mixedRows 11 = .ok (.getfield 316, 3) := by decide +kernel
theorem dX9_mixedRows_14 : decode cX9_mixedRows 14 = .ok (.if_icmp .ge 57, 3) := by decide +kernel
theorem dX9_mixedRows_17 : decode cX9_mixedRows 17 = .ok (.iconst 0, 1) := by decide +kernel
theorem dX9_mixedRows_18 : decode cX9_mixedRows 18 = .ok (.istore 6, 2) := by decide +kernel
theorem dX9_mixedRows_20 : decode cX9_mixedRows 20 = .ok (.iload 6, 2) := by decide +kernel
theorem dX9_mixedRows_22 : decode cX9_mixedRows 22 = .ok (.iconst 5, 1) := by decide +kernel
theorem dX9_mixedRows_23 : decode cX9_mixedRows 23 = .ok (.if_icmp .ge 25, 3) := by decide +kernel
theorem dX9_mixedRows_26 : decode cX9_mixedRows 26 = .ok (.lload_n 3, 1) := by decide +kernel
theorem dX9_mixedRows_27 : decode cX9_mixedRows 27 = .ok (.aload_n 0, 1) := by decide +kernel
theorem dX9_mixedRows_28 : decode cX9_mixedRows 28 = .ok (.getfield 10, 3) := by decide +kernel
theorem dX9_mixedRows_31 : decode cX9_mixedRows 31 = .ok (.iload 5, 2) := by decide +kernel
theorem dX9_mixedRows_33 : decode cX9_mixedRows 33 = .ok (.iload 6, 2) := by decide +kernel
theorem dX9_mixedRows_35 : decode cX9_mixedRows 35 = .ok (.invokevirtual 128, 3) := by decide +kernel
theorem dX9_mixedRows_38 : decode cX9_mixedRows 38 = .ok (.invokestatic 235, 3) := by decide +kernel
theorem dX9_mixedRows_41 : decode cX9_mixedRows 41 = .ok (.lstore_n 3, 1) := by decide +kernel
theorem dX9_mixedRows_42 : decode cX9_mixedRows 42 = .ok (.iinc 6 1, 3) := by decide +kernel
theorem dX9_mixedRows_45 : decode cX9_mixedRows 45 = .ok (.goto (-25), 3) := by decide +kernel
theorem dX9_mixedRows_48 : decode cX9_mixedRows 48 = .ok (.lload_n 3, 1) := by decide +kernel
theorem dX9_mixedRows_49 : decode cX9_mixedRows 49 = .ok (.aload_n 0, 1) := by decide +kernel
theorem dX9_mixedRows_50 : decode cX9_mixedRows 50 = .ok (.getfield 10, 3) := by decide +kernel
theorem dX9_mixedRows_53 : decode cX9_mixedRows 53 = .ok (.iload 5, 2) := by decide +kernel
theorem dX9_mixedRows_55 : decode cX9_mixedRows 55 = .ok (.invokevirtual 164, 3) := by decide +kernel
theorem dX9_mixedRows_58 : decode cX9_mixedRows 58 = .ok (.invokestatic 160, 3) := by decide +kernel
theorem dX9_mixedRows_61 : decode cX9_mixedRows 61 = .ok (.invokestatic 235, 3) := by decide +kernel
theorem dX9_mixedRows_64 : decode cX9_mixedRows 64 = .ok (.lstore_n 3, 1) := by decide +kernel
theorem dX9_mixedRows_65 : decode cX9_mixedRows 65 = .ok (.iinc 5 1, 3) := by decide +kernel
theorem dX9_mixedRows_68 : decode cX9_mixedRows 68 = .ok (.goto (-63), 3) := by decide +kernel
theorem dX9_mixedRows_71 : decode cX9_mixedRows 71 = .ok (.lload_n 3, 1) := by decide +kernel
theorem dX9_mixedRows_72 : decode cX9_mixedRows 72 = .ok (.lreturn, 1) := by decide +kernel
theorem dX9_mixedLots_0 : decode cX9_mixedLots 0 = .ok (.lload_n 1, 1) := by decide +kernel
theorem dX9_mixedLots_1 : decode cX9_mixedLots 1 = .ok (.lstore_n 3, 1) := by decide +kernel
theorem dX9_mixedLots_2 : decode cX9_mixedLots 2 = .ok (.iconst 0, 1) := by decide +kernel
theorem dX9_mixedLots_3 : decode cX9_mixedLots 3 = .ok (.istore 5, 2) := by decide +kernel
theorem dX9_mixedLots_5 : decode cX9_mixedLots 5 = .ok (.iload 5, 2) := by decide +kernel
theorem dX9_mixedLots_7 : decode cX9_mixedLots 7 = .ok (.aload_n 0, 1) := by decide +kernel
theorem dX9_mixedLots_8 : decode cX9_mixedLots 8 = .ok (.getfield 10, 3) := by decide +kernel
theorem dX9_mixedLots_11 : decode cX9_mixedLots 11 = .ok (.getfield 65, 3) := by decide +kernel
theorem dX9_mixedLots_14 : decode cX9_mixedLots 14 = .ok (.getfield 319, 3) := by decide +kernel
theorem dX9_mixedLots_17 : decode cX9_mixedLots 17 = .ok (.if_icmp .ge 41, 3) := by decide +kernel
theorem dX9_mixedLots_20 : decode cX9_mixedLots 20 = .ok (.iconst 0, 1) := by decide +kernel
theorem dX9_mixedLots_21 : decode cX9_mixedLots 21 = .ok (.istore 6, 2) := by decide +kernel
theorem dX9_mixedLots_23 : decode cX9_mixedLots 23 = .ok (.iload 6, 2) := by decide +kernel
theorem dX9_mixedLots_25 : decode cX9_mixedLots 25 = .ok (.bipush 6, 2) := by decide +kernel
theorem dX9_mixedLots_27 : decode cX9_mixedLots 27 = .ok (.if_icmp .ge 25, 3) := by decide +kernel
theorem dX9_mixedLots_30 : decode cX9_mixedLots 30 = .ok (.lload_n 3, 1) := by decide +kernel
theorem dX9_mixedLots_31 : decode cX9_mixedLots 31 = .ok (.aload_n 0, 1) := by decide +kernel
theorem dX9_mixedLots_32 : decode cX9_mixedLots 32 = .ok (.getfield 10, 3) := by decide +kernel
theorem dX9_mixedLots_35 : decode cX9_mixedLots 35 = .ok (.iload 5, 2) := by decide +kernel
theorem dX9_mixedLots_37 : decode cX9_mixedLots 37 = .ok (.iload 6, 2) := by decide +kernel
theorem dX9_mixedLots_39 : decode cX9_mixedLots 39 = .ok (.invokevirtual 134, 3) := by decide +kernel
theorem dX9_mixedLots_42 : decode cX9_mixedLots 42 = .ok (.invokestatic 235, 3) := by decide +kernel
theorem dX9_mixedLots_45 : decode cX9_mixedLots 45 = .ok (.lstore_n 3, 1) := by decide +kernel
theorem dX9_mixedLots_46 : decode cX9_mixedLots 46 = .ok (.iinc 6 1, 3) := by decide +kernel
theorem dX9_mixedLots_49 : decode cX9_mixedLots 49 = .ok (.goto (-26), 3) := by decide +kernel
theorem dX9_mixedLots_52 : decode cX9_mixedLots 52 = .ok (.iinc 5 1, 3) := by decide +kernel
theorem dX9_mixedLots_55 : decode cX9_mixedLots 55 = .ok (.goto (-50), 3) := by decide +kernel
theorem dX9_mixedLots_58 : decode cX9_mixedLots 58 = .ok (.lload_n 3, 1) := by decide +kernel
theorem dX9_mixedLots_59 : decode cX9_mixedLots 59 = .ok (.lreturn, 1) := by decide +kernel
theorem dX9_mixedColors_0 : decode cX9_mixedColors 0 = .ok (.lload_n 1, 1) := by decide +kernel
theorem dX9_mixedColors_1 : decode cX9_mixedColors 1 = .ok (.lstore_n 3, 1) := by decide +kernel
theorem dX9_mixedColors_2 : decode cX9_mixedColors 2 = .ok (.iconst 0, 1) := by decide +kernel
theorem dX9_mixedColors_3 : decode cX9_mixedColors 3 = .ok (.istore 5, 2) := by decide +kernel
theorem dX9_mixedColors_5 : decode cX9_mixedColors 5 = .ok (.iload 5, 2) := by decide +kernel
theorem dX9_mixedColors_7 : decode cX9_mixedColors 7 = .ok (.bipush 8, 2) := by decide +kernel
theorem dX9_mixedColors_9 : decode cX9_mixedColors 9 = .ok (.if_icmp .ge 58, 3) := by decide +kernel
theorem dX9_mixedColors_12 : decode cX9_mixedColors 12 = .ok (.iconst 0, 1) := by decide +kernel
theorem dX9_mixedColors_13 : decode cX9_mixedColors 13 = .ok (.istore 6, 2) := by decide +kernel
theorem dX9_mixedColors_15 : decode cX9_mixedColors 15 = .ok (.iload 6, 2) := by decide +kernel
theorem dX9_mixedColors_17 : decode cX9_mixedColors 17 = .ok (.bipush 6, 2) := by decide +kernel
theorem dX9_mixedColors_19 : decode cX9_mixedColors 19 = .ok (.if_icmp .ge 25, 3) := by decide +kernel
theorem dX9_mixedColors_22 : decode cX9_mixedColors 22 = .ok (.lload_n 3, 1) := by decide +kernel
theorem dX9_mixedColors_23 : decode cX9_mixedColors 23 = .ok (.aload_n 0, 1) := by decide +kernel
theorem dX9_mixedColors_24 : decode cX9_mixedColors 24 = .ok (.getfield 10, 3) := by decide +kernel
theorem dX9_mixedColors_27 : decode cX9_mixedColors 27 = .ok (.iload 5, 2) := by decide +kernel
theorem dX9_mixedColors_29 : decode cX9_mixedColors 29 = .ok (.iload 6, 2) := by decide +kernel
theorem dX9_mixedColors_31 : decode cX9_mixedColors 31 = .ok (.invokevirtual 140, 3) := by decide +kernel
theorem dX9_mixedColors_34 : decode cX9_mixedColors 34 = .ok (.invokestatic 235, 3) := by decide +kernel
theorem dX9_mixedColors_37 : decode cX9_mixedColors 37 = .ok (.lstore_n 3, 1) := by decide +kernel
theorem dX9_mixedColors_38 : decode cX9_mixedColors 38 = .ok (.iinc 6 1, 3) := by decide +kernel
theorem dX9_mixedColors_41 : decode cX9_mixedColors 41 = .ok (.goto (-26), 3) := by decide +kernel
theorem dX9_mixedColors_44 : decode cX9_mixedColors 44 = .ok (.lload_n 3, 1) := by decide +kernel
theorem dX9_mixedColors_45 : decode cX9_mixedColors 45 = .ok (.aload_n 0, 1) := by decide +kernel
theorem dX9_mixedColors_46 : decode cX9_mixedColors 46 = .ok (.getfield 10, 3) := by decide +kernel
theorem dX9_mixedColors_49 : decode cX9_mixedColors 49 = .ok (.iload 5, 2) := by decide +kernel
theorem dX9_mixedColors_51 : decode cX9_mixedColors 51 = .ok (.invokevirtual 156, 3) := by decide +kernel
theorem dX9_mixedColors_54 : decode cX9_mixedColors 54 = .ok (.invokestatic 160, 3) := by decide +kernel
theorem dX9_mixedColors_57 : decode cX9_mixedColors 57 = .ok (.invokestatic 235, 3) := by decide +kernel
theorem dX9_mixedColors_60 : decode cX9_mixedColors 60 = .ok (.lstore_n 3, 1) := by decide +kernel
theorem dX9_mixedColors_61 : decode cX9_mixedColors 61 = .ok (.iinc 5 1, 3) := by decide +kernel
theorem dX9_mixedColors_64 : decode cX9_mixedColors 64 = .ok (.goto (-59), 3) := by decide +kernel
theorem dX9_mixedColors_67 : decode cX9_mixedColors 67 = .ok (.lload_n 3, 1) := by decide +kernel
theorem dX9_mixedColors_68 : decode cX9_mixedColors 68 = .ok (.lreturn, 1) := by decide +kernel
theorem dX9_mixedSlits_0 : decode cX9_mixedSlits 0 = .ok (.lload_n 1, 1) := by decide +kernel
theorem dX9_mixedSlits_1 : decode cX9_mixedSlits 1 = .ok (.lstore_n 3, 1) := by decide +kernel
theorem dX9_mixedSlits_2 : decode cX9_mixedSlits 2 = .ok (.iconst 0, 1) := by decide +kernel
theorem dX9_mixedSlits_3 : decode cX9_mixedSlits 3 = .ok (.istore 5, 2) := by decide +kernel
theorem dX9_mixedSlits_5 : decode cX9_mixedSlits 5 = .ok (.iload 5, 2) := by decide +kernel
theorem dX9_mixedSlits_7 : decode cX9_mixedSlits 7 = .ok (.aload_n 0, 1) := by decide +kernel
theorem dX9_mixedSlits_8 : decode cX9_mixedSlits 8 = .ok (.getfield 10, 3) := by decide +kernel
theorem dX9_mixedSlits_11 : decode cX9_mixedSlits 11 = .ok (.getfield 196, 3) := by decide +kernel
theorem dX9_mixedSlits_14 : decode cX9_mixedSlits 14 = .ok (.if_icmp .ge 84, 3) := by decide +kernel
theorem dX9_mixedSlits_17 : decode cX9_mixedSlits 17 = .ok (.iconst 0, 1) := by decide +kernel
theorem dX9_mixedSlits_18 : decode cX9_mixedSlits 18 = .ok (.istore 6, 2) := by decide +kernel
theorem dX9_mixedSlits_20 : decode cX9_mixedSlits 20 = .ok (.iload 6, 2) := by decide +kernel
theorem dX9_mixedSlits_22 : decode cX9_mixedSlits 22 = .ok (.aload_n 0, 1) := by decide +kernel
theorem dX9_mixedSlits_23 : decode cX9_mixedSlits 23 = .ok (.getfield 10, 3) := by decide +kernel
theorem dX9_mixedSlits_26 : decode cX9_mixedSlits 26 = .ok (.getfield 316, 3) := by decide +kernel
theorem dX9_mixedSlits_29 : decode cX9_mixedSlits 29 = .ok (.if_icmp .ge 63, 3) := by decide +kernel
theorem dX9_mixedSlits_32 : decode cX9_mixedSlits 32 = .ok (.aload_n 0, 1) := by decide +kernel
theorem dX9_mixedSlits_33 : decode cX9_mixedSlits 33 = .ok (.getfield 10, 3) := by decide +kernel
theorem dX9_mixedSlits_36 : decode cX9_mixedSlits 36 = .ok (.iload 5, 2) := by decide +kernel
theorem dX9_mixedSlits_38 : decode cX9_mixedSlits 38 = .ok (.iload 6, 2) := by decide +kernel
theorem dX9_mixedSlits_40 : decode cX9_mixedSlits 40 = .ok (.invokevirtual 320, 3) := by decide +kernel
theorem dX9_mixedSlits_43 : decode cX9_mixedSlits 43 = .ok (.aload_n 0, 1) := by decide +kernel
theorem dX9_mixedSlits_44 : decode cX9_mixedSlits 44 = .ok (.getfield 10, 3) := by decide +kernel
theorem dX9_mixedSlits_47 : decode cX9_mixedSlits 47 = .ok (.getfield 323, 3) := by decide +kernel
theorem dX9_mixedSlits_50 : decode cX9_mixedSlits 50 = .ok (.if_icmp .le 36, 3) := by decide +kernel
theorem dX9_mixedSlits_53 : decode cX9_mixedSlits 53 = .ok (.iconst 0, 1) := by decide +kernel
theorem dX9_mixedSlits_54 : decode cX9_mixedSlits 54 = .ok (.istore 7, 2) := by decide +kernel
theorem dX9_mixedSlits_56 : decode cX9_mixedSlits 56 = .ok (.iload 7, 2) := by decide +kernel
theorem dX9_mixedSlits_58 : decode cX9_mixedSlits 58 = .ok (.iconst 4, 1) := by decide +kernel
theorem dX9_mixedSlits_59 : decode cX9_mixedSlits 59 = .ok (.if_icmp .ge 27, 3) := by decide +kernel
theorem dX9_mixedSlits_62 : decode cX9_mixedSlits 62 = .ok (.lload_n 3, 1) := by decide +kernel
theorem dX9_mixedSlits_63 : decode cX9_mixedSlits 63 = .ok (.aload_n 0, 1) := by decide +kernel
theorem dX9_mixedSlits_64 : decode cX9_mixedSlits 64 = .ok (.getfield 10, 3) := by decide +kernel
theorem dX9_mixedSlits_67 : decode cX9_mixedSlits 67 = .ok (.iload 5, 2) := by decide +kernel
theorem dX9_mixedSlits_69 : decode cX9_mixedSlits 69 = .ok (.iload 6, 2) := by decide +kernel
theorem dX9_mixedSlits_71 : decode cX9_mixedSlits 71 = .ok (.iload 7, 2) := by decide +kernel
theorem dX9_mixedSlits_73 : decode cX9_mixedSlits 73 = .ok (.invokevirtual 146, 3) := by decide +kernel
theorem dX9_mixedSlits_76 : decode cX9_mixedSlits 76 = .ok (.invokestatic 235, 3) := by decide +kernel
theorem dX9_mixedSlits_79 : decode cX9_mixedSlits 79 = .ok (.lstore_n 3, 1) := by decide +kernel
theorem dX9_mixedSlits_80 : decode cX9_mixedSlits 80 = .ok (.iinc 7 1, 3) := by decide +kernel
theorem dX9_mixedSlits_83 : decode cX9_mixedSlits 83 = .ok (.goto (-27), 3) := by decide +kernel
theorem dX9_mixedSlits_86 : decode cX9_mixedSlits 86 = .ok (.iinc 6 1, 3) := by decide +kernel
theorem dX9_mixedSlits_89 : decode cX9_mixedSlits 89 = .ok (.goto (-69), 3) := by decide +kernel
theorem dX9_mixedSlits_92 : decode cX9_mixedSlits 92 = .ok (.iinc 5 1, 3) := by decide +kernel
theorem dX9_mixedSlits_95 : decode cX9_mixedSlits 95 = .ok (.goto (-90), 3) := by decide +kernel
theorem dX9_mixedSlits_98 : decode cX9_mixedSlits 98 = .ok (.lload_n 3, 1) := by decide +kernel
theorem dX9_mixedSlits_99 : decode cX9_mixedSlits 99 = .ok (.lreturn, 1) := by decide +kernel
theorem dX10_init_0 : decode cX10_init 0 = .ok (.aload_n 0, 1) := by decide +kernel
theorem dX10_init_1 : decode cX10_init 1 = .ok (.invokespecial 1, 3) := by decide +kernel
theorem dX10_init_4 : decode cX10_init 4 = .ok (.aload_n 0, 1) := by decide +kernel
theorem dX10_init_5 : decode cX10_init 5 = .ok (.sipush 1371, 3) := by decide +kernel
theorem dX10_init_8 : decode cX10_init 8 = .ok (.newarray .int, 2) := by decide +kernel
theorem dX10_init_10 : decode cX10_init 10 = .ok (.putfield 7, 3) := by decide +kernel
theorem dX10_init_13 : decode cX10_init 13 = .ok (.aload_n 0, 1) := by decide +kernel
theorem dX10_init_14 : decode cX10_init 14 = .ok (.sipush 5484, 3) := by decide +kernel
theorem dX10_init_17 : decode cX10_init 17 = .ok (.newarray .int, 2) := by decide +kernel
theorem dX10_init_19 : decode cX10_init 19 = .ok (.putfield 13, 3) := by decide +kernel
theorem dX10_init_22 : decode cX10_init 22 = .ok (.aload_n 0, 1) := by decide +kernel
theorem dX10_init_23 : decode cX10_init 23 = .ok (.sipush 1371, 3) := by decide +kernel
theorem dX10_init_26 : decode cX10_init 26 = .ok (.newarray .int, 2) := by decide +kernel
theorem dX10_init_28 : decode cX10_init 28 = .ok (.putfield 16, 3) := by decide +kernel
theorem dX10_init_31 : decode cX10_init 31 = .ok (.aload_n 0, 1) := by decide +kernel
theorem dX10_init_32 : decode cX10_init 32 = .ok (.sipush 150, 3) := by decide +kernel
theorem dX10_init_35 : decode cX10_init 35 = .ok (.newarray .int, 2) := by decide +kernel
theorem dX10_init_37 : decode cX10_init 37 = .ok (.putfield 19, 3) := by decide +kernel
theorem dX10_init_40 : decode cX10_init 40 = .ok (.aload_n 0, 1) := by decide +kernel
theorem dX10_init_41 : decode cX10_init 41 = .ok (.bipush 20, 2) := by decide +kernel
theorem dX10_init_43 : decode cX10_init 43 = .ok (.newarray .int, 2) := by decide +kernel
theorem dX10_init_45 : decode cX10_init 45 = .ok (.putfield 22, 3) := by decide +kernel
theorem dX10_init_48 : decode cX10_init 48 = .ok (.aload_n 0, 1) := by decide +kernel
theorem dX10_init_49 : decode cX10_init 49 = .ok (.bipush 8, 2) := by decide +kernel
theorem dX10_init_51 : decode cX10_init 51 = .ok (.newarray .int, 2) := by decide +kernel
theorem dX10_init_53 : decode cX10_init 53 = .ok (.putfield 25, 3) := by decide +kernel
theorem dX10_init_56 : decode cX10_init 56 = .ok (.aload_n 0, 1) := by decide +kernel
theorem dX10_init_57 : decode cX10_init 57 = .ok (.bipush 8, 2) := by decide +kernel
theorem dX10_init_59 : decode cX10_init 59 = .ok (.newarray .int, 2) := by decide +kernel
theorem dX10_init_61 : decode cX10_init 61 = .ok (.putfield 28, 3) := by decide +kernel
theorem dX10_init_64 : decode cX10_init 64 = .ok (.aload_n 0, 1) := by decide +kernel
theorem dX10_init_65 : decode cX10_init 65 = .ok (.sipush 160, 3) := by decide +kernel
theorem dX10_init_68 : decode cX10_init 68 = .ok (.newarray .int, 2) := by decide +kernel
theorem dX10_init_70 : decode cX10_init 70 = .ok (.putfield 31, 3) := by decide +kernel
theorem dX10_init_73 : decode cX10_init 73 = .ok (.aload_n 0, 1) := by decide +kernel
theorem dX10_init_74 : decode cX10_init 74 = .ok (.sipush 160, 3) := by decide +kernel
theorem dX10_init_77 : decode cX10_init 77 = .ok (.newarray .int, 2) := by decide +kernel
theorem dX10_init_79 : decode cX10_init 79 = .ok (.putfield 34, 3) := by decide +kernel
theorem dX10_init_82 : decode cX10_init 82 = .ok (.aload_n 0, 1) := by decide +kernel
theorem dX10_init_83 : decode cX10_init 83 = .ok (.sipush 160, 3) := by decide +kernel
theorem dX10_init_86 : decode cX10_init 86 = .ok (.newarray .int, 2) := by decide +kernel
theorem dX10_init_88 : decode cX10_init 88 = .ok (.putfield 37, 3) := by decide +kernel
theorem dX10_init_91 : decode cX10_init 91 = .ok (.aload_n 0, 1) := by decide +kernel
theorem dX10_init_92 : decode cX10_init 92 = .ok (.iconst 5, 1) := by decide +kernel
theorem dX10_init_93 : decode cX10_init 93 = .ok (.newarray .int, 2) := by decide +kernel
theorem dX10_init_95 : decode cX10_init 95 = .ok (.putfield 40, 3) := by decide +kernel
theorem dX10_init_98 : decode cX10_init 98 = .ok (.aload_n 0, 1) := by decide +kernel
theorem dX10_init_99 : decode cX10_init 99 = .ok (.getfield 7, 3) := by decide +kernel
theorem dX10_init_102 : decode cX10_init 102 = .ok (.iconst 0, 1) := by decide +kernel
theorem dX10_init_103 : decode cX10_init 103 = .ok (.bipush 8, 2) := by decide +kernel
theorem dX10_init_105 : decode cX10_init 105 = .ok (.iastore, 1) := by decide +kernel
theorem dX10_init_106 : decode cX10_init 106 = .ok (.aload_n 0, 1) := by decide +kernel
theorem dX10_init_107 : decode cX10_init 107 = .ok (.getfield 7, 3) := by decide +kernel
theorem dX10_init_110 : decode cX10_init 110 = .ok (.iconst 1, 1) := by decide +kernel
theorem dX10_init_111 : decode cX10_init 111 = .ok (.bipush 6, 2) := by decide +kernel
theorem dX10_init_113 : decode cX10_init 113 = .ok (.iastore, 1) := by decide +kernel
theorem dX10_init_114 : decode cX10_init 114 = .ok (.aload_n 0, 1) := by decide +kernel
theorem dX10_init_115 : decode cX10_init 115 = .ok (.getfield 7, 3) := by decide +kernel
theorem dX10_init_118 : decode cX10_init 118 = .ok (.iconst 4, 1) := by decide +kernel
theorem dX10_init_119 : decode cX10_init 119 = .ok (.iconst 3, 1) := by decide +kernel
theorem dX10_init_120 : decode cX10_init 120 = .ok (.iastore, 1) := by decide +kernel
theorem dX10_init_121 : decode cX10_init 121 = .ok (.aload_n 0, 1) := by decide +kernel
theorem dX10_init_122 : decode cX10_init 122 = .ok (.getfield 7, 3) := by decide +kernel
theorem dX10_init_125 : decode cX10_init 125 = .ok (.iconst 5, 1) := by decide +kernel
theorem dX10_init_126 : decode cX10_init 126 = .ok (.fconst 2, 1) := by decide +kernel
theorem dX10_init_127 : decode cX10_init 127 = .ok (.invokestatic 43, 3) := by decide +kernel
theorem dX10_init_130 : decode cX10_init 130 = .ok (.iastore, 1) := by decide +kernel
theorem dX10_init_131 : decode cX10_init 131 = .ok (.iconst 0, 1) := by decide +kernel
theorem dX10_init_132 : decode cX10_init 132 = .ok (.istore_n 1, 1) := by decide +kernel
theorem dX10_init_133 : decode cX10_init 133 = .ok (.iload_n 1, 1) := by decide +kernel
theorem dX10_init_134 : decode cX10_init 134 = .ok (.bipush 20, 2) := by decide +kernel
theorem dX10_init_136 : decode cX10_init 136 = .ok (.if_icmp .ge 19, 3) := by decide +kernel
theorem dX10_init_139 : decode cX10_init 139 = .ok (.aload_n 0, 1) := by decide +kernel
theorem dX10_init_140 : decode cX10_init 140 = .ok (.getfield 7, 3) := by decide +kernel
theorem dX10_init_143 : decode cX10_init 143 = .ok (.bipush 71, 2) := by decide +kernel
theorem dX10_init_145 : decode cX10_init 145 = .ok (.iload_n 1, 1) := by decide +kernel
theorem dX10_init_146 : decode cX10_init 146 = .ok (.iadd, 1) := by decide +kernel
theorem dX10_init_147 : decode cX10_init 147 = .ok (.iconst (-1), 1) := by decide +kernel
theorem dX10_init_148 : decode cX10_init 148 = .ok (.iastore, 1) := by decide +kernel
theorem dX10_init_149 : decode cX10_init 149 = .ok (.iinc 1 1, 3) := by decide +kernel
theorem dX10_init_152 : decode cX10_init 152 = .ok (.goto (-19), 3) := by decide +kernel
theorem dX10_init_155 : decode cX10_init 155 = .ok (.return_, 1) := by decide +kernel
theorem dX10_thrown_0 : decode cX10_thrown 0 = .ok (.aload_n 0, 1) := by decide +kernel
theorem dX10_thrown_1 : decode cX10_thrown 1 = .ok (.getfield 49, 3) := by decide +kernel
theorem dX10_thrown_4 : decode cX10_thrown 4 = .ok (.ireturn, 1) := by decide +kernel
theorem dX10_in_0 : decode cX10_in 0 = .ok (.iload_n 0, 1) := by decide +kernel
theorem dX10_in_1 : decode cX10_in 1 = .ok (.iload_n 1, 1) := by decide +kernel
theorem dX10_in_2 : decode cX10_in 2 = .ok (.if_icmp .lt 12, 3) := by decide +kernel
theorem dX10_in_5 : decode cX10_in 5 = .ok (.iload_n 0, 1) := by decide +kernel
theorem dX10_in_6 : decode cX10_in 6 = .ok (.iload_n 2, 1) := by decide +kernel
theorem dX10_in_7 : decode cX10_in 7 = .ok (.if_icmp .gt 7, 3) := by decide +kernel
theorem dX10_in_10 : decode cX10_in 10 = .ok (.iconst 1, 1) := by decide +kernel
theorem dX10_in_11 : decode cX10_in 11 = .ok (.goto 4, 3) := by decide +kernel
theorem dX10_in_14 : decode cX10_in 14 = .ok (.iconst 0, 1) := by decide +kernel
theorem dX10_in_15 : decode cX10_in 15 = .ok (.ireturn, 1) := by decide +kernel
theorem dX10_fails_0 : decode cX10_fails 0 = .ok (.aload_n 0, 1) := by decide +kernel
theorem dX10_fails_1 : decode cX10_fails 1 = .ok (.iload_n 1, 1) := by decide +kernel
theorem dX10_fails_2 : decode cX10_fails 2 = .ok (.putfield 49, 3) := by decide +kernel
theorem dX10_fails_5 : decode cX10_fails 5 = .ok (.iconst 0, 1) := by decide +kernel
theorem dX10_fails_6 : decode cX10_fails 6 = .ok (.ireturn, 1) := by decide +kernel
theorem dX10_tells_0 : decode cX10_tells 0 = .ok (.aload_n 0, 1) := by decide +kernel
theorem dX10_tells_1 : decode cX10_tells 1 = .ok (.iconst 0, 1) := by decide +kernel
theorem dX10_tells_2 : decode cX10_tells 2 = .ok (.putfield 49, 3) := by decide +kernel
theorem dX10_tells_5 : decode cX10_tells 5 = .ok (.iload_n 1, 1) := by decide +kernel
theorem dX10_tells_6 : decode cX10_tells 6 = .ok (.ireturn, 1) := by decide +kernel
theorem dX10_hold_0 : decode cX10_hold 0 = .ok (.iconst 0, 1) := by decide +kernel
theorem dX10_hold_1 : decode cX10_hold 1 = .ok (.istore_n 1, 1) := by decide +kernel
theorem dX10_hold_2 : decode cX10_hold 2 = .ok (.iload_n 1, 1) := by decide +kernel
theorem dX10_hold_3 : decode cX10_hold 3 = .ok (.sipush 1371, 3) := by decide +kernel
theorem dX10_hold_6 : decode cX10_hold 6 = .ok (.if_icmp .ge 21, 3) := by decide +kernel
theorem dX10_hold_9 : decode cX10_hold 9 = .ok (.aload_n 0, 1) := by decide +kernel
theorem dX10_hold_10 : decode cX10_hold 10 = .ok (.getfield 16, 3) := by decide +kernel
theorem dX10_hold_13 : decode cX10_hold 13 = .ok (.iload_n 1, 1) := by decide +kernel
theorem dX10_hold_14 : decode cX10_hold 14 = .ok (.aload_n 0, 1) := by decide +kernel
theorem dX10_hold_15 : decode cX10_hold 15 = .ok (.getfield 7, 3) := by decide +kernel
theorem dX10_hold_18 : decode cX10_hold 18 = .ok (.iload_n 1, 1) := by decide +kernel
theorem dX10_hold_19 : decode cX10_hold 19 = .ok (.iaload, 1) := by decide +kernel
theorem dX10_hold_20 : decode cX10_hold 20 = .ok (.iastore, 1) := by decide +kernel
theorem dX10_hold_21 : decode cX10_hold 21 = .ok (.iinc 1 1, 3) := by decide +kernel
theorem dX10_hold_24 : decode cX10_hold 24 = .ok (.goto (-22), 3) := by decide +kernel
theorem dX10_hold_27 : decode cX10_hold 27 = .ok (.return_, 1) := by decide +kernel
theorem dX10_saves_0 : decode cX10_saves 0 = .ok (.aload_n 0, 1) := by decide +kernel
theorem dX10_saves_1 : decode cX10_saves 1 = .ok (.getfield 53, 3) := by decide +kernel
theorem dX10_saves_4 : decode cX10_saves 4 = .ok (.iconst 4, 1) := by decide +kernel
theorem dX10_saves_5 : decode cX10_saves 5 = .ok (.if_icmp .ne 44, 3) := by decide +kernel
theorem dX10_saves_8 : decode cX10_saves 8 = .ok (.iconst 0, 1) := by decide +kernel
theorem dX10_saves_9 : decode cX10_saves 9 = .ok (.istore_n 1, 1) := by decide +kernel
theorem dX10_saves_10 : decode cX10_saves 10 = .ok (.iload_n 1, 1) := by decide +kernel
theorem dX10_saves_11 : decode cX10_saves 11 = .ok (.sipush 4113, 3) := by decide +kernel
theorem dX10_saves_14 : decode cX10_saves 14 = .ok (.if_icmp .ge 25, 3) := by decide +kernel
theorem dX10_saves_17 : decode cX10_saves 17 = .ok (.aload_n 0, 1) := by decide +kernel
theorem dX10_saves_18 : decode cX10_saves 18 = .ok (.getfield 13, 3) := by decide +kernel
theorem dX10_saves_21 : decode cX10_saves 21 = .ok (.iload_n 1, 1) := by decide +kernel
theorem dX10_saves_22 : decode cX10_saves 22 = .ok (.aload_n 0, 1) := by decide +kernel
theorem dX10_saves_23 : decode cX10_saves 23 = .ok (.getfield 13, 3) := by decide +kernel
theorem dX10_saves_26 : decode cX10_saves 26 = .ok (.iload_n 1, 1) := by decide +kernel
theorem dX10_saves_27 : decode cX10_saves 27 = .ok (.sipush 1371, 3) := by decide +kernel
theorem dX10_saves_30 : decode cX10_saves 30 = .ok (.iadd, 1) := by decide +kernel
theorem dX10_saves_31 : decode cX10_saves 31 = .ok (.iaload, 1) := by decide +kernel
theorem dX10_saves_32 : decode cX10_saves 32 = .ok (.iastore, 1) := by decide +kernel
theorem dX10_saves_33 : decode cX10_saves 33 = .ok (.iinc 1 1, 3) := by decide +kernel
theorem dX10_saves_36 : decode cX10_saves 36 = .ok (.goto (-26), 3) := by decide +kernel
theorem dX10_saves_39 : decode cX10_saves 39 = .ok (.aload_n 0, 1) := by decide +kernel
theorem dX10_saves_40 : decode cX10_saves 40 = .ok (.dup, 1) := by decide +kernel
theorem dX10_saves_41 : decode cX10_saves 41 = .ok (.getfield 53, 3) := by decide +kernel
theorem dX10_saves_44 : decode cX10_saves 44 = .ok (.iconst 1, 1) := by decide +kernel
theorem dX10_saves_45 : decode cX10_saves 45 = .ok (.isub, 1) := by decide +kernel
theorem dX10_saves_46 : decode cX10_saves 46 = .ok (.putfield 53, 3) := by decide +kernel
theorem dX10_saves_49 : decode cX10_saves 49 = .ok (.iconst 0, 1) := by decide +kernel
theorem dX10_saves_50 : decode cX10_saves 50 = .ok (.istore_n 1, 1) := by decide +kernel
theorem dX10_saves_51 : decode cX10_saves 51 = .ok (.iload_n 1, 1) := by decide +kernel
theorem dX10_saves_52 : decode cX10_saves 52 = .ok (.sipush 1371, 3) := by decide +kernel
theorem dX10_saves_55 : decode cX10_saves 55 = .ok (.if_icmp .ge 30, 3) := by decide +kernel
theorem dX10_saves_58 : decode cX10_saves 58 = .ok (.aload_n 0, 1) := by decide +kernel
theorem dX10_saves_59 : decode cX10_saves 59 = .ok (.getfield 13, 3) := by decide +kernel
theorem dX10_saves_62 : decode cX10_saves 62 = .ok (.sipush 1371, 3) := by decide +kernel
theorem dX10_saves_65 : decode cX10_saves 65 = .ok (.aload_n 0, 1) := by decide +kernel
theorem dX10_saves_66 : decode cX10_saves 66 = .ok (.getfield 53, 3) := by decide +kernel
theorem dX10_saves_69 : decode cX10_saves 69 = .ok (.imul, 1) := by decide +kernel
theorem dX10_saves_70 : decode cX10_saves 70 = .ok (.iload_n 1, 1) := by decide +kernel
theorem dX10_saves_71 : decode cX10_saves 71 = .ok (.iadd, 1) := by decide +kernel
theorem dX10_saves_72 : decode cX10_saves 72 = .ok (.aload_n 0, 1) := by decide +kernel
theorem dX10_saves_73 : decode cX10_saves 73 = .ok (.getfield 16, 3) := by decide +kernel
theorem dX10_saves_76 : decode cX10_saves 76 = .ok (.iload_n 1, 1) := by decide +kernel
theorem dX10_saves_77 : decode cX10_saves 77 = .ok (.iaload, 1) := by decide +kernel
theorem dX10_saves_78 : decode cX10_saves 78 = .ok (.iastore, 1) := by decide +kernel
theorem dX10_saves_79 : decode cX10_saves 79 = .ok (.iinc 1 1, 3) := by decide +kernel
theorem dX10_saves_82 : decode cX10_saves 82 = .ok (.goto (-31), 3) := by decide +kernel
theorem dX10_saves_85 : decode cX10_saves 85 = .ok (.aload_n 0, 1) := by decide +kernel
theorem dX10_saves_86 : decode cX10_saves 86 = .ok (.dup, 1) := by decide +kernel
theorem dX10_saves_87 : decode cX10_saves 87 = .ok (.getfield 53, 3) := by decide +kernel
theorem dX10_saves_90 : decode cX10_saves 90 = .ok (.iconst 1, 1) := by decide +kernel
theorem dX10_saves_91 : decode cX10_saves 91 = .ok (.iadd, 1) := by decide +kernel
theorem dX10_saves_92 : decode cX10_saves 92 = .ok (.putfield 53, 3) := by decide +kernel
theorem dX10_saves_95 : decode cX10_saves 95 = .ok (.return_, 1) := by decide +kernel
theorem dX10_isCell_0 : decode cX10_isCell 0 = .ok (.iload_n 1, 1) := by decide +kernel
theorem dX10_isCell_1 : decode cX10_isCell 1 = .ok (.iconst 0, 1) := by decide +kernel
theorem dX10_isCell_2 : decode cX10_isCell 2 = .ok (.aload_n 0, 1) := by decide +kernel
theorem dX10_isCell_3 : decode cX10_isCell 3 = .ok (.getfield 7, 3) := by decide +kernel
theorem dX10_isCell_6 : decode cX10_isCell 6 = .ok (.iconst 0, 1) := by decide +kernel
theorem dX10_isCell_7 : decode cX10_isCell 7 = .ok (.iaload, 1) := by decide +kernel
theorem dX10_isCell_8 : decode cX10_isCell 8 = .ok (.iconst 1, 1) := by decide +kernel
theorem dX10_isCell_9 : decode cX10_isCell 9 = .ok (.isub, 1) := by decide +kernel
theorem dX10_isCell_10 : decode cX10_isCell 10 = .ok (.invokestatic 56, 3) := by decide +kernel
theorem dX10_isCell_13 : decode cX10_isCell 13 = .ok (.ifCond .eq 23, 3) := by decide +kernel
theorem dX10_isCell_16 : decode cX10_isCell 16 = .ok (.iload_n 2, 1) := by decide +kernel
theorem dX10_isCell_17 : decode cX10_isCell 17 = .ok (.iconst 0, 1) := by decide +kernel
theorem dX10_isCell_18 : decode cX10_isCell 18 = .ok (.aload_n 0, 1) := by decide +kernel
theorem dX10_isCell_19 : decode cX10_isCell 19 = .ok (.getfield 7, 3) := by decide +kernel
theorem dX10_isCell_22 : decode cX10_isCell 22 = .ok (.iconst 1, 1) := by decide +kernel
theorem dX10_isCell_23 : decode cX10_isCell 23 = .ok (.iaload, 1) := by decide +kernel
theorem dX10_isCell_24 : decode cX10_isCell 24 = .ok (.iconst 1, 1) := by decide +kernel
theorem dX10_isCell_25 : decode cX10_isCell 25 = .ok (.isub, 1) := by decide +kernel
theorem dX10_isCell_26 : decode cX10_isCell 26 = .ok (.invokestatic 56, 3) := by decide +kernel
theorem dX10_isCell_29 : decode cX10_isCell 29 = .ok (.ifCond .eq 7, 3) := by decide +kernel
theorem dX10_isCell_32 : decode cX10_isCell 32 = .ok (.iconst 1, 1) := by decide +kernel
theorem dX10_isCell_33 : decode cX10_isCell 33 = .ok (.goto 4, 3) := by decide +kernel
theorem dX10_isCell_36 : decode cX10_isCell 36 = .ok (.iconst 0, 1) := by decide +kernel
theorem dX10_isCell_37 : decode cX10_isCell 37 = .ok (.ireturn, 1) := by decide +kernel
theorem dX10_isWoven_0 : decode cX10_isWoven 0 = .ok (.iload_n 1, 1) := by decide +kernel
theorem dX10_isWoven_1 : decode cX10_isWoven 1 = .ok (.iconst 0, 1) := by decide +kernel
theorem dX10_isWoven_2 : decode cX10_isWoven 2 = .ok (.aload_n 0, 1) := by decide +kernel
theorem dX10_isWoven_3 : decode cX10_isWoven 3 = .ok (.getfield 7, 3) := by decide +kernel
theorem dX10_isWoven_6 : decode cX10_isWoven 6 = .ok (.iconst 2, 1) := by decide +kernel
theorem dX10_isWoven_7 : decode cX10_isWoven 7 = .ok (.iaload, 1) := by decide +kernel
theorem dX10_isWoven_8 : decode cX10_isWoven 8 = .ok (.iconst 1, 1) := by decide +kernel
theorem dX10_isWoven_9 : decode cX10_isWoven 9 = .ok (.isub, 1) := by decide +kernel
theorem dX10_isWoven_10 : decode cX10_isWoven 10 = .ok (.invokestatic 56, 3) := by decide +kernel
theorem dX10_isWoven_13 : decode cX10_isWoven 13 = .ok (.ireturn, 1) := by decide +kernel
theorem dX10_isShade_0 : decode cX10_isShade 0 = .ok (.iload_n 0, 1) := by decide +kernel
theorem dX10_isShade_1 : decode cX10_isShade 1 = .ok (.ldc 60, 2) := by decide +kernel
theorem dX10_isShade_3 : decode cX10_isShade 3 = .ok (.iand, 1) := by decide +kernel
theorem dX10_isShade_4 : decode cX10_isShade 4 = .ok (.ldc 61, 2) := by decide +kernel
theorem dX10_isShade_6 : decode cX10_isShade 6 = .ok (.if_icmp .le 5, 3) := by decide +kernel
theorem dX10_isShade_9 : decode cX10_isShade 9 = .ok (.iconst 0, 1) := by decide +kernel
theorem dX10_isShade_10 : decode cX10_isShade 10 = .ok (.ireturn, 1) := by decide +kernel
theorem dX10_isShade_11 : decode cX10_isShade 11 = .ok (.iload_n 0, 1) := by decide +kernel
theorem dX10_isShade_12 : decode cX10_isShade 12 = .ok (.invokestatic 62, 3) := by decide +kernel
theorem dX10_isShade_15 : decode cX10_isShade 15 = .ok (.fstore_n 1, 1) := by decide +kernel
theorem dX10_isShade_16 : decode cX10_isShade 16 = .ok (.fload_n 1, 1) := by decide +kernel
theorem dX10_isShade_17 : decode cX10_isShade 17 = .ok (.fconst 0, 1) := by decide +kernel
theorem dX10_isShade_18 : decode cX10_isShade 18 = .ok (.fcmp .l, 1) := by decide +kernel
theorem dX10_isShade_19 : decode cX10_isShade 19 = .ok (.ifCond .lt 14, 3) := by decide +kernel
theorem dX10_isShade_22 : decode cX10_isShade 22 = .ok (.fload_n 1, 1) := by decide +kernel
theorem dX10_isShade_23 : decode cX10_isShade 23 = .ok (.ldc 66, 2) := by decide +kernel
theorem dX10_isShade_25 : decode cX10_isShade 25 = .ok (.fcmp .g, 1) := by decide +kernel
theorem dX10_isShade_26 : decode cX10_isShade 26 = .ok (.ifCond .gt 7, 3) := by decide +kernel
theorem dX10_isShade_29 : decode cX10_isShade 29 = .ok (.iconst 1, 1) := by decide +kernel
theorem dX10_isShade_30 : decode cX10_isShade 30 = .ok (.goto 4, 3) := by decide +kernel
theorem dX10_isShade_33 : decode cX10_isShade 33 = .ok (.iconst 0, 1) := by decide +kernel
theorem dX10_isShade_34 : decode cX10_isShade 34 = .ok (.ireturn, 1) := by decide +kernel
theorem dX10_its_0 : decode cX10_its 0 = .ok (.aload_n 0, 1) := by decide +kernel
theorem dX10_its_1 : decode cX10_its 1 = .ok (.getfield 7, 3) := by decide +kernel
theorem dX10_its_4 : decode cX10_its 4 = .ok (.bipush 7, 2) := by decide +kernel
theorem dX10_its_6 : decode cX10_its 6 = .ok (.iconst 4, 1) := by decide +kernel
theorem dX10_its_7 : decode cX10_its 7 = .ok (.iload_n 1, 1) := by decide +kernel
theorem dX10_its_8 : decode cX10_its 8 = .ok (.imul, 1) := by decide +kernel
theorem dX10_its_9 : decode cX10_its 9 = .ok (.iadd, 1) := by decide +kernel
theorem dX10_its_10 : decode cX10_its 10 = .ok (.iload_n 2, 1) := by decide +kernel
theorem dX10_its_11 : decode cX10_its 11 = .ok (.iadd, 1) := by decide +kernel
theorem dX10_its_12 : decode cX10_its 12 = .ok (.iaload, 1) := by decide +kernel
theorem dX10_its_13 : decode cX10_its 13 = .ok (.ireturn, 1) := by decide +kernel
theorem dX10_shade_0 : decode cX10_shade 0 = .ok (.aload_n 0, 1) := by decide +kernel
theorem dX10_shade_1 : decode cX10_shade 1 = .ok (.iload_n 1, 1) := by decide +kernel
theorem dX10_shade_2 : decode cX10_shade 2 = .ok (.iconst 3, 1) := by decide +kernel
theorem dX10_shade_3 : decode cX10_shade 3 = .ok (.invokevirtual 67, 3) := by decide +kernel
theorem dX10_shade_6 : decode cX10_shade 6 = .ok (.invokestatic 62, 3) := by decide +kernel
theorem dX10_shade_9 : decode cX10_shade 9 = .ok (.freturn, 1) := by decide +kernel
theorem dX10_size_0 : decode cX10_size 0 = .ok (.fload_n 0, 1) := by decide +kernel
theorem dX10_size_1 : decode cX10_size 1 = .ok (.fconst 0, 1) := by decide +kernel
theorem dX10_size_2 : decode cX10_size 2 = .ok (.fcmp .g, 1) := by decide +kernel
theorem dX10_size_3 : decode cX10_size 3 = .ok (.ifCond .gt 9, 3) := by decide +kernel
theorem dX10_size_6 : decode cX10_size 6 = .ok (.fconst 0, 1) := by decide +kernel
theorem dX10_size_7 : decode cX10_size 7 = .ok (.fload_n 0, 1) := by decide +kernel
theorem dX10_size_8 : decode cX10_size 8 = .ok (.fsub, 1) := by decide +kernel
theorem dX10_size_9 : decode cX10_size 9 = .ok (.goto 4, 3) := by decide +kernel
theorem dX10_size_12 : decode cX10_size 12 = .ok (.fload_n 0, 1) := by decide +kernel
theorem dX10_size_13 : decode cX10_size 13 = .ok (.freturn, 1) := by decide +kernel
theorem dX10_drawn_0 : decode cX10_drawn 0 = .ok (.aload_n 0, 1) := by decide +kernel
theorem dX10_drawn_1 : decode cX10_drawn 1 = .ok (.getfield 7, 3) := by decide +kernel
theorem dX10_drawn_4 : decode cX10_drawn 4 = .ok (.bipush 91, 2) := by decide +kernel
theorem dX10_drawn_6 : decode cX10_drawn 6 = .ok (.bipush 20, 2) := by decide +kernel
theorem dX10_drawn_8 : decode cX10_drawn 8 = .ok (.iload_n 1, 1) := by decide +kernel
theorem dX10_drawn_9 : decode cX10_drawn 9 = .ok (.imul, 1) := by decide +kernel
theorem dX10_drawn_10 : decode cX10_drawn 10 = .ok (.iadd, 1) := by decide +kernel
theorem dX10_drawn_11 : decode cX10_drawn 11 = .ok (.aload_n 0, 1) := by decide +kernel
theorem dX10_drawn_12 : decode cX10_drawn 12 = .ok (.getfield 7, 3) := by decide +kernel
theorem dX10_drawn_15 : decode cX10_drawn 15 = .ok (.iconst 0, 1) := by decide +kernel
theorem dX10_drawn_16 : decode cX10_drawn 16 = .ok (.iaload, 1) := by decide +kernel
theorem dX10_drawn_17 : decode cX10_drawn 17 = .ok (.iadd, 1) := by decide +kernel
theorem dX10_drawn_18 : decode cX10_drawn 18 = .ok (.iconst 1, 1) := by decide +kernel
theorem dX10_drawn_19 : decode cX10_drawn 19 = .ok (.isub, 1) := by decide +kernel
theorem dX10_drawn_20 : decode cX10_drawn 20 = .ok (.iload_n 2, 1) := by decide +kernel
theorem dX10_drawn_21 : decode cX10_drawn 21 = .ok (.isub, 1) := by decide +kernel
theorem dX10_drawn_22 : decode cX10_drawn 22 = .ok (.iaload, 1) := by decide +kernel
theorem dX10_drawn_23 : decode cX10_drawn 23 = .ok (.ireturn, 1) := by decide +kernel
theorem dX10_woven_0 : decode cX10_woven 0 = .ok (.aload_n 0, 1) := by decide +kernel
theorem dX10_woven_1 : decode cX10_woven 1 = .ok (.getfield 7, 3) := by decide +kernel
theorem dX10_woven_4 : decode cX10_woven 4 = .ok (.sipush 411, 3) := by decide +kernel
theorem dX10_woven_7 : decode cX10_woven 7 = .ok (.bipush 20, 2) := by decide +kernel
theorem dX10_woven_9 : decode cX10_woven 9 = .ok (.iload_n 1, 1) := by decide +kernel
theorem dX10_woven_10 : decode cX10_woven 10 = .ok (.imul, 1) := by decide +kernel
theorem dX10_woven_11 : decode cX10_woven 11 = .ok (.iadd, 1) := by decide +kernel
theorem dX10_woven_12 : decode cX10_woven 12 = .ok (.iload_n 2, 1) := by decide +kernel
theorem dX10_woven_13 : decode cX10_woven 13 = .ok (.iadd, 1) := by decide +kernel
theorem dX10_woven_14 : decode cX10_woven 14 = .ok (.iaload, 1) := by decide +kernel
theorem dX10_woven_15 : decode cX10_woven 15 = .ok (.ireturn, 1) := by decide +kernel
theorem dX10_yarn_0 : decode cX10_yarn 0 = .ok (.aload_n 0, 1) := by decide +kernel
theorem dX10_yarn_1 : decode cX10_yarn 1 = .ok (.getfield 7, 3) := by decide +kernel
theorem dX10_yarn_4 : decode cX10_yarn 4 = .ok (.sipush 731, 3) := by decide +kernel
theorem dX10_yarn_7 : decode cX10_yarn 7 = .ok (.bipush 20, 2) := by decide +kernel
theorem dX10_yarn_9 : decode cX10_yarn 9 = .ok (.iload_n 1, 1) := by decide +kernel
theorem dX10_yarn_10 : decode cX10_yarn 10 = .ok (.imul, 1) := by decide +kernel
theorem dX10_yarn_11 : decode cX10_yarn 11 = .ok (.iadd, 1) := by decide +kernel
theorem dX10_yarn_12 : decode cX10_yarn 12 = .ok (.iload_n 2, 1) := by decide +kernel
theorem dX10_yarn_13 : decode cX10_yarn 13 = .ok (.iadd, 1) := by decide +kernel
theorem dX10_yarn_14 : decode cX10_yarn 14 = .ok (.iaload, 1) := by decide +kernel
theorem dX10_yarn_15 : decode cX10_yarn 15 = .ok (.ireturn, 1) := by decide +kernel
theorem dX10_draws_0 : decode cX10_draws 0 = .ok (.iconst 0, 1) := by decide +kernel
theorem dX10_draws_1 : decode cX10_draws 1 = .ok (.istore_n 3, 1) := by decide +kernel
theorem dX10_draws_2 : decode cX10_draws 2 = .ok (.iload_n 3, 1) := by decide +kernel
theorem dX10_draws_3 : decode cX10_draws 3 = .ok (.aload_n 0, 1) := by decide +kernel
theorem dX10_draws_4 : decode cX10_draws 4 = .ok (.getfield 7, 3) := by decide +kernel
theorem dX10_draws_7 : decode cX10_draws 7 = .ok (.iconst 0, 1) := by decide +kernel
theorem dX10_draws_8 : decode cX10_draws 8 = .ok (.iaload, 1) := by decide +kernel
theorem dX10_draws_9 : decode cX10_draws 9 = .ok (.if_icmp .ge 46, 3) := by decide +kernel
theorem dX10_draws_12 : decode cX10_draws 12 = .ok (.aload_n 0, 1) := by decide +kernel
theorem dX10_draws_13 : decode cX10_draws 13 = .ok (.getfield 7, 3) := by decide +kernel
theorem dX10_draws_16 : decode cX10_draws 16 = .ok (.bipush 71, 2) := by decide +kernel
theorem dX10_draws_18 : decode cX10_draws 18 = .ok (.iload_n 3, 1) := by decide +kernel
theorem dX10_draws_19 : decode cX10_draws 19 = .ok (.iadd, 1) := by decide +kernel
theorem dX10_draws_20 : decode cX10_draws 20 = .ok (.iaload, 1) := by decide +kernel
theorem dX10_draws_21 : decode cX10_draws 21 = .ok (.istore 4, 2) := by decide +kernel
theorem dX10_draws_23 : decode cX10_draws 23 = .ok (.aload_n 0, 1) := by decide +kernel
theorem dX10_draws_24 : decode cX10_draws 24 = .ok (.getfield 22, 3) := by decide +kernel
theorem dX10_draws_27 : decode cX10_draws 27 = .ok (.iload_n 3, 1) := by decide +kernel
theorem dX10_draws_28 : decode cX10_draws 28 = .ok (.iload_n 2, 1) := by decide +kernel
theorem dX10_draws_29 : decode cX10_draws 29 = .ok (.ifCond .eq 13, 3) := by decide +kernel
theorem dX10_draws_32 : decode cX10_draws 32 = .ok (.iload 4, 2) := by decide +kernel
theorem dX10_draws_34 : decode cX10_draws 34 = .ok (.ifCond .lt 8, 3) := by decide +kernel
theorem dX10_draws_37 : decode cX10_draws 37 = .ok (.iload 4, 2) := by decide +kernel
theorem dX10_draws_39 : decode cX10_draws 39 = .ok (.goto 9, 3) := by decide +kernel
theorem dX10_draws_42 : decode cX10_draws 42 = .ok (.aload_n 0, 1) := by decide +kernel
theorem dX10_draws_43 : decode cX10_draws 43 = .ok (.iload_n 1, 1) := by decide +kernel
theorem dX10_draws_44 : decode cX10_draws 44 = .ok (.iload_n 3, 1) := by decide +kernel
theorem dX10_draws_45 : decode cX10_draws 45 = .ok (.invokevirtual 71, 3) := by decide +kernel
theorem dX10_draws_48 : decode cX10_draws 48 = .ok (.iastore, 1) := by decide +kernel
theorem dX10_draws_49 : decode cX10_draws 49 = .ok (.iinc 3 1, 3) := by decide +kernel
theorem dX10_draws_52 : decode cX10_draws 52 = .ok (.goto (-50), 3) := by decide +kernel
theorem dX10_draws_55 : decode cX10_draws 55 = .ok (.return_, 1) := by decide +kernel
theorem dX10_copies_0 : decode cX10_copies 0 = .ok (.iconst 0, 1) := by decide +kernel
theorem dX10_copies_1 : decode cX10_copies 1 = .ok (.istore_n 2, 1) := by decide +kernel
theorem dX10_copies_2 : decode cX10_copies 2 = .ok (.iload_n 2, 1) := by decide +kernel
theorem dX10_copies_3 : decode cX10_copies 3 = .ok (.aload_n 0, 1) := by decide +kernel
theorem dX10_copies_4 : decode cX10_copies 4 = .ok (.getfield 7, 3) := by decide +kernel
theorem dX10_copies_7 : decode cX10_copies 7 = .ok (.iconst 0, 1) := by decide +kernel
theorem dX10_copies_8 : decode cX10_copies 8 = .ok (.iaload, 1) := by decide +kernel
theorem dX10_copies_9 : decode cX10_copies 9 = .ok (.if_icmp .ge 21, 3) := by decide +kernel
theorem dX10_copies_12 : decode cX10_copies 12 = .ok (.aload_n 0, 1) := by decide +kernel
theorem dX10_copies_13 : decode cX10_copies 13 = .ok (.getfield 22, 3) := by decide +kernel
theorem dX10_copies_16 : decode cX10_copies 16 = .ok (.iload_n 2, 1) := by decide +kernel
theorem dX10_copies_17 : decode cX10_copies 17 = .ok (.aload_n 0, 1) := by decide +kernel
theorem dX10_copies_18 : decode cX10_copies 18 = .ok (.iload_n 1, 1) := by decide +kernel
theorem dX10_copies_19 : decode cX10_copies 19 = .ok (.iload_n 2, 1) := by decide +kernel
theorem dX10_copies_20 : decode cX10_copies 20 = .ok (.invokevirtual 74, 3) := by decide +kernel
theorem dX10_copies_23 : decode cX10_copies 23 = .ok (.iastore, 1) := by decide +kernel
theorem dX10_copies_24 : decode cX10_copies 24 = .ok (.iinc 2 1, 3) := by decide +kernel
theorem dX10_copies_27 : decode cX10_copies 27 = .ok (.goto (-25), 3) := by decide +kernel
theorem dX10_copies_30 : decode cX10_copies 30 = .ok (.return_, 1) := by decide +kernel
theorem dX10_begins_0 : decode cX10_begins 0 = .ok (.iload_n 1, 1) := by decide +kernel
theorem dX10_begins_1 : decode cX10_begins 1 = .ok (.ifCond .eq 20, 3) := by decide +kernel
theorem dX10_begins_4 : decode cX10_begins 4 = .ok (.aload_n 0, 1) := by decide +kernel
theorem dX10_begins_5 : decode cX10_begins 5 = .ok (.getfield 22, 3) := by decide +kernel
theorem dX10_begins_8 : decode cX10_begins 8 = .ok (.iload_n 1, 1) := by decide +kernel
theorem dX10_begins_9 : decode cX10_begins 9 = .ok (.iaload, 1) := by decide +kernel
theorem dX10_begins_10 : decode cX10_begins 10 = .ok (.aload_n 0, 1) := by decide +kernel
theorem dX10_begins_11 : decode cX10_begins 11 = .ok (.getfield 22, 3) := by decide +kernel
theorem dX10_begins_14 : decode cX10_begins 14 = .ok (.iload_n 1, 1) := by decide +kernel
theorem dX10_begins_15 : decode cX10_begins 15 = .ok (.iconst 1, 1) := by decide +kernel
theorem dX10_begins_16 : decode cX10_begins 16 = .ok (.isub, 1) := by decide +kernel
theorem dX10_begins_17 : decode cX10_begins 17 = .ok (.iaload, 1) := by decide +kernel
theorem dX10_begins_18 : decode cX10_begins 18 = .ok (.if_icmp .eq 7, 3) := by decide +kernel
theorem dX10_begins_21 : decode cX10_begins 21 = .ok (.iconst 1, 1) := by decide +kernel
theorem dX10_begins_22 : decode cX10_begins 22 = .ok (.goto 4, 3) := by decide +kernel
theorem dX10_begins_25 : decode cX10_begins 25 = .ok (.iconst 0, 1) := by decide +kernel
theorem dX10_begins_26 : decode cX10_begins 26 = .ok (.ireturn, 1) := by decide +kernel
theorem dX10_runs_0 : decode cX10_runs 0 = .ok (.iconst 0, 1) := by decide +kernel
theorem dX10_runs_1 : decode cX10_runs 1 = .ok (.istore_n 1, 1) := by decide +kernel
theorem dX10_runs_2 : decode cX10_runs 2 = .ok (.iconst 0, 1) := by decide +kernel
theorem dX10_runs_3 : decode cX10_runs 3 = .ok (.istore_n 2, 1) := by decide +kernel
theorem dX10_runs_4 : decode cX10_runs 4 = .ok (.iload_n 2, 1) := by decide +kernel
theorem dX10_runs_5 : decode cX10_runs 5 = .ok (.aload_n 0, 1) := by decide +kernel
theorem dX10_runs_6 : decode cX10_runs 6 = .ok (.getfield 7, 3) := by decide +kernel
theorem dX10_runs_9 : decode cX10_runs 9 = .ok (.iconst 0, 1) := by decide +kernel
theorem dX10_runs_10 : decode cX10_runs 10 = .ok (.iaload, 1) := by decide +kernel
theorem dX10_runs_11 : decode cX10_runs 11 = .ok (.if_icmp .ge 25, 3) := by decide +kernel
theorem dX10_runs_14 : decode cX10_runs 14 = .ok (.iload_n 1, 1) := by decide +kernel
theorem dX10_runs_15 : decode cX10_runs 15 = .ok (.aload_n 0, 1) := by decide +kernel
theorem dX10_runs_16 : decode cX10_runs 16 = .ok (.iload_n 2, 1) := by decide +kernel
theorem dX10_runs_17 : decode cX10_runs 17 = .ok (.invokevirtual 77, 3) := by decide +kernel
theorem dX10_runs_20 : decode cX10_runs 20 = .ok (.ifCond .eq 7, 3) := by decide +kernel
theorem dX10_runs_23 : decode cX10_runs 23 = .ok (.iconst 1, 1) := by decide +kernel
theorem dX10_runs_24 : decode cX10_runs 24 = .ok (.goto 4, 3) := by decide +kernel
theorem dX10_runs_27 : decode cX10_runs 27 = .ok (.iconst 0, 1) := by decide +kernel
theorem dX10_runs_28 : decode cX10_runs 28 = .ok (.iadd, 1) := by decide +kernel
theorem dX10_runs_29 : decode cX10_runs 29 = .ok (.istore_n 1, 1) := by decide +kernel
theorem dX10_runs_30 : decode cX10_runs 30 = .ok (.iinc 2 1, 3) := by decide +kernel
theorem dX10_runs_33 : decode cX10_runs 33 = .ok (.goto (-29), 3) := by decide +kernel
theorem dX10_runs_36 : decode cX10_runs 36 = .ok (.iload_n 1, 1) := by decide +kernel
theorem dX10_runs_37 : decode cX10_runs 37 = .ok (.ireturn, 1) := by decide +kernel
theorem dX10_runsOf_0 : decode cX10_runsOf 0 = .ok (.iconst 0, 1) := by decide +kernel
theorem dX10_runsOf_1 : decode cX10_runsOf 1 = .ok (.istore_n 2, 1) := by decide +kernel
theorem dX10_runsOf_2 : decode cX10_runsOf 2 = .ok (.iconst 0, 1) := by decide +kernel
theorem dX10_runsOf_3 : decode cX10_runsOf 3 = .ok (.istore_n 3, 1) := by decide +kernel
theorem dX10_runsOf_4 : decode cX10_runsOf 4 = .ok (.iload_n 3, 1) := by decide +kernel
theorem dX10_runsOf_5 : decode cX10_runsOf 5 = .ok (.aload_n 0, 1) := by decide +kernel
theorem dX10_runsOf_6 : decode cX10_runsOf 6 = .ok (.getfield 7, 3) := by decide +kernel
theorem dX10_runsOf_9 : decode cX10_runsOf 9 = .ok (.iconst 0, 1) := by decide +kernel
theorem dX10_runsOf_10 : decode cX10_runsOf 10 = .ok (.iaload, 1) := by decide +kernel
theorem dX10_runsOf_11 : decode cX10_runsOf 11 = .ok (.if_icmp .ge 35, 3) := by decide +kernel
theorem dX10_runsOf_14 : decode cX10_runsOf 14 = .ok (.iload_n 2, 1) := by decide +kernel
theorem dX10_runsOf_15 : decode cX10_runsOf 15 = .ok (.aload_n 0, 1) := by decide +kernel
theorem dX10_runsOf_16 : decode cX10_runsOf 16 = .ok (.getfield 22, 3) := by decide +kernel
theorem dX10_runsOf_19 : decode cX10_runsOf 19 = .ok (.iload_n 3, 1) := by decide +kernel
theorem dX10_runsOf_20 : decode cX10_runsOf 20 = .ok (.iaload, 1) := by decide +kernel
theorem dX10_runsOf_21 : decode cX10_runsOf 21 = .ok (.iload_n 1, 1) := by decide +kernel
theorem dX10_runsOf_22 : decode cX10_runsOf 22 = .ok (.if_icmp .ne 15, 3) := by decide +kernel
theorem dX10_runsOf_25 : decode cX10_runsOf 25 = .ok (.aload_n 0, 1) := by decide +kernel
theorem dX10_runsOf_26 : decode cX10_runsOf 26 = .ok (.iload_n 3, 1) := by decide +kernel
theorem dX10_runsOf_27 : decode cX10_runsOf 27 = .ok (.invokevirtual 77, 3) := by decide +kernel
theorem dX10_runsOf_30 : decode cX10_runsOf 30 = .ok (.ifCond .eq 7, 3) := by decide +kernel
theorem dX10_runsOf_33 : decode cX10_runsOf 33 = .ok (.iconst 1, 1) := by decide +kernel
theorem dX10_runsOf_34 : decode cX10_runsOf 34 = .ok (.goto 4, 3) := by decide +kernel
theorem dX10_runsOf_37 : decode cX10_runsOf 37 = .ok (.iconst 0, 1) := by decide +kernel
theorem dX10_runsOf_38 : decode cX10_runsOf 38 = .ok (.iadd, 1) := by decide +kernel
theorem dX10_runsOf_39 : decode cX10_runsOf 39 = .ok (.istore_n 2, 1) := by decide +kernel
theorem dX10_runsOf_40 : decode cX10_runsOf 40 = .ok (.iinc 3 1, 3) := by decide +kernel
theorem dX10_runsOf_43 : decode cX10_runsOf 43 = .ok (.goto (-39), 3) := by decide +kernel
theorem dX10_runsOf_46 : decode cX10_runsOf 46 = .ok (.iload_n 2, 1) := by decide +kernel
theorem dX10_runsOf_47 : decode cX10_runsOf 47 = .ok (.ireturn, 1) := by decide +kernel
theorem dX10_cellsOf_0 : decode cX10_cellsOf 0 = .ok (.iconst 0, 1) := by decide +kernel
theorem dX10_cellsOf_1 : decode cX10_cellsOf 1 = .ok (.istore_n 2, 1) := by decide +kernel
theorem dX10_cellsOf_2 : decode cX10_cellsOf 2 = .ok (.iconst 0, 1) := by decide +kernel
theorem dX10_cellsOf_3 : decode cX10_cellsOf 3 = .ok (.istore_n 3, 1) := by decide +kernel
theorem dX10_cellsOf_4 : decode cX10_cellsOf 4 = .ok (.iload_n 3, 1) := by decide +kernel
theorem dX10_cellsOf_5 : decode cX10_cellsOf 5 = .ok (.aload_n 0, 1) := by decide +kernel
theorem dX10_cellsOf_6 : decode cX10_cellsOf 6 = .ok (.getfield 7, 3) := by decide +kernel
theorem dX10_cellsOf_9 : decode cX10_cellsOf 9 = .ok (.iconst 0, 1) := by decide +kernel
theorem dX10_cellsOf_10 : decode cX10_cellsOf 10 = .ok (.iaload, 1) := by decide +kernel
theorem dX10_cellsOf_11 : decode cX10_cellsOf 11 = .ok (.if_icmp .ge 27, 3) := by decide +kernel
theorem dX10_cellsOf_14 : decode cX10_cellsOf 14 = .ok (.iload_n 2, 1) := by decide +kernel
theorem dX10_cellsOf_15 : decode cX10_cellsOf 15 = .ok (.aload_n 0, 1) := by decide +kernel
theorem dX10_cellsOf_16 : decode cX10_cellsOf 16 = .ok (.getfield 22, 3) := by decide +kernel
theorem dX10_cellsOf_19 : decode cX10_cellsOf 19 = .ok (.iload_n 3, 1) := by decide +kernel
theorem dX10_cellsOf_20 : decode cX10_cellsOf 20 = .ok (.iaload, 1) := by decide +kernel
theorem dX10_cellsOf_21 : decode cX10_cellsOf 21 = .ok (.iload_n 1, 1) := by decide +kernel
theorem dX10_cellsOf_22 : decode cX10_cellsOf 22 = .ok (.if_icmp .ne 7, 3) := by decide +kernel
theorem dX10_cellsOf_25 : decode cX10_cellsOf 25 = .ok (.iconst 1, 1) := by decide +kernel
theorem dX10_cellsOf_26 : decode cX10_cellsOf 26 = .ok (.goto 4, 3) := by decide +kernel
theorem dX10_cellsOf_29 : decode cX10_cellsOf 29 = .ok (.iconst 0, 1) := by decide +kernel
theorem dX10_cellsOf_30 : decode cX10_cellsOf 30 = .ok (.iadd, 1) := by decide +kernel
theorem dX10_cellsOf_31 : decode cX10_cellsOf 31 = .ok (.istore_n 2, 1) := by decide +kernel
theorem dX10_cellsOf_32 : decode cX10_cellsOf 32 = .ok (.iinc 3 1, 3) := by decide +kernel
theorem dX10_cellsOf_35 : decode cX10_cellsOf 35 = .ok (.goto (-31), 3) := by decide +kernel
theorem dX10_cellsOf_38 : decode cX10_cellsOf 38 = .ok (.iload_n 2, 1) := by decide +kernel
theorem dX10_cellsOf_39 : decode cX10_cellsOf 39 = .ok (.ireturn, 1) := by decide +kernel
theorem dX10_unitsOf_0 : decode cX10_unitsOf 0 = .ok (.iconst 0, 1) := by decide +kernel
theorem dX10_unitsOf_1 : decode cX10_unitsOf 1 = .ok (.istore_n 2, 1) := by decide +kernel
theorem dX10_unitsOf_2 : decode cX10_unitsOf 2 = .ok (.iconst 0, 1) := by decide +kernel
theorem dX10_unitsOf_3 : decode cX10_unitsOf 3 = .ok (.istore_n 3, 1) := by decide +kernel
theorem dX10_unitsOf_4 : decode cX10_unitsOf 4 = .ok (.iload_n 3, 1) := by decide +kernel
theorem dX10_unitsOf_5 : decode cX10_unitsOf 5 = .ok (.aload_n 0, 1) := by decide +kernel
theorem dX10_unitsOf_6 : decode cX10_unitsOf 6 = .ok (.getfield 7, 3) := by decide +kernel
theorem dX10_unitsOf_9 : decode cX10_unitsOf 9 = .ok (.iconst 3, 1) := by decide +kernel
theorem dX10_unitsOf_10 : decode cX10_unitsOf 10 = .ok (.iaload, 1) := by decide +kernel
theorem dX10_unitsOf_11 : decode cX10_unitsOf 11 = .ok (.if_icmp .ge 32, 3) := by decide +kernel
theorem dX10_unitsOf_14 : decode cX10_unitsOf 14 = .ok (.iload_n 2, 1) := by decide +kernel
theorem dX10_unitsOf_15 : decode cX10_unitsOf 15 = .ok (.aload_n 0, 1) := by decide +kernel
theorem dX10_unitsOf_16 : decode cX10_unitsOf 16 = .ok (.iload_n 3, 1) := by decide +kernel
theorem dX10_unitsOf_17 : decode cX10_unitsOf 17 = .ok (.iconst 0, 1) := by decide +kernel
theorem dX10_unitsOf_18 : decode cX10_unitsOf 18 = .ok (.invokevirtual 67, 3) := by decide +kernel
theorem dX10_unitsOf_21 : decode cX10_unitsOf 21 = .ok (.iload_n 1, 1) := by decide +kernel
theorem dX10_unitsOf_22 : decode cX10_unitsOf 22 = .ok (.if_icmp .ne 12, 3) := by decide +kernel
theorem dX10_unitsOf_25 : decode cX10_unitsOf 25 = .ok (.aload_n 0, 1) := by decide +kernel
theorem dX10_unitsOf_26 : decode cX10_unitsOf 26 = .ok (.iload_n 3, 1) := by decide +kernel
theorem dX10_unitsOf_27 : decode cX10_unitsOf 27 = .ok (.iconst 2, 1) := by decide +kernel
theorem dX10_unitsOf_28 : decode cX10_unitsOf 28 = .ok (.invokevirtual 67, 3) := by decide +kernel
theorem dX10_unitsOf_31 : decode cX10_unitsOf 31 = .ok (.goto 4, 3) := by decide +kernel
theorem dX10_unitsOf_34 : decode cX10_unitsOf 34 = .ok (.iconst 0, 1) := by decide +kernel
theorem dX10_unitsOf_35 : decode cX10_unitsOf 35 = .ok (.iadd, 1) := by decide +kernel
theorem dX10_unitsOf_36 : decode cX10_unitsOf 36 = .ok (.istore_n 2, 1) := by decide +kernel
theorem dX10_unitsOf_37 : decode cX10_unitsOf 37 = .ok (.iinc 3 1, 3) := by decide +kernel
theorem dX10_unitsOf_40 : decode cX10_unitsOf 40 = .ok (.goto (-36), 3) := by decide +kernel
theorem dX10_unitsOf_43 : decode cX10_unitsOf 43 = .ok (.iload_n 2, 1) := by decide +kernel
theorem dX10_unitsOf_44 : decode cX10_unitsOf 44 = .ok (.ireturn, 1) := by decide +kernel
theorem dX10_inUse_0 : decode cX10_inUse 0 = .ok (.iconst (-1), 1) := by decide +kernel
theorem dX10_inUse_1 : decode cX10_inUse 1 = .ok (.istore_n 2, 1) := by decide +kernel
theorem dX10_inUse_2 : decode cX10_inUse 2 = .ok (.aload_n 0, 1) := by decide +kernel
theorem dX10_inUse_3 : decode cX10_inUse 3 = .ok (.getfield 7, 3) := by decide +kernel
theorem dX10_inUse_6 : decode cX10_inUse 6 = .ok (.iconst 3, 1) := by decide +kernel
theorem dX10_inUse_7 : decode cX10_inUse 7 = .ok (.iaload, 1) := by decide +kernel
theorem dX10_inUse_8 : decode cX10_inUse 8 = .ok (.iconst 1, 1) := by decide +kernel
theorem dX10_inUse_9 : decode cX10_inUse 9 = .ok (.isub, 1) := by decide +kernel
theorem dX10_inUse_10 : decode cX10_inUse 10 = .ok (.istore_n 3, 1) := by decide +kernel
theorem dX10_inUse_11 : decode cX10_inUse 11 = .ok (.iload_n 3, 1) := by decide +kernel
theorem dX10_inUse_12 : decode cX10_inUse 12 = .ok (.ifCond .lt 34, 3) := by decide +kernel
theorem dX10_inUse_15 : decode cX10_inUse 15 = .ok (.aload_n 0, 1) := by decide +kernel
theorem dX10_inUse_16 : decode cX10_inUse 16 = .ok (.iload_n 3, 1) := by decide +kernel
theorem dX10_inUse_17 : decode cX10_inUse 17 = .ok (.iconst 0, 1) := by decide +kernel
theorem dX10_inUse_18 : decode cX10_inUse 18 = .ok (.invokevirtual 67, 3) := by decide +kernel
theorem dX10_inUse_21 : decode cX10_inUse 21 = .ok (.iload_n 1, 1) := by decide +kernel
theorem dX10_inUse_22 : decode cX10_inUse 22 = .ok (.if_icmp .ne 16, 3) := by decide +kernel
theorem dX10_inUse_25 : decode cX10_inUse 25 = .ok (.aload_n 0, 1) := by decide +kernel
theorem dX10_inUse_26 : decode cX10_inUse 26 = .ok (.iload_n 3, 1) := by decide +kernel
theorem dX10_inUse_27 : decode cX10_inUse 27 = .ok (.iconst 2, 1) := by decide +kernel
theorem dX10_inUse_28 : decode cX10_inUse 28 = .ok (.invokevirtual 67, 3) := by decide +kernel
theorem dX10_inUse_31 : decode cX10_inUse 31 = .ok (.ifCond .le 7, 3) := by decide +kernel
theorem dX10_inUse_34 : decode cX10_inUse 34 = .ok (.iload_n 3, 1) := by decide +kernel
theorem dX10_inUse_35 : decode cX10_inUse 35 = .ok (.goto 4, 3) := by decide +kernel
theorem dX10_inUse_38 : decode cX10_inUse 38 = .ok (.iload_n 2, 1) := by decide +kernel
theorem dX10_inUse_39 : decode cX10_inUse 39 = .ok (.istore_n 2, 1) := by decide +kernel
theorem dX10_inUse_40 : decode cX10_inUse 40 = .ok (.iinc 3 (-1), 3) := by decide +kernel
theorem dX10_inUse_43 : decode cX10_inUse 43 = .ok (.goto (-32), 3) := by decide +kernel
theorem dX10_inUse_46 : decode cX10_inUse 46 = .ok (.iload_n 2, 1) := by decide +kernel
theorem dX10_inUse_47 : decode cX10_inUse 47 = .ok (.ireturn, 1) := by decide +kernel
theorem dX10_takes_0 : decode cX10_takes 0 = .ok (.aload_n 0, 1) := by decide +kernel
theorem dX10_takes_1 : decode cX10_takes 1 = .ok (.iload_n 1, 1) := by decide +kernel
theorem dX10_takes_2 : decode cX10_takes 2 = .ok (.invokevirtual 81, 3) := by decide +kernel
theorem dX10_takes_5 : decode cX10_takes 5 = .ok (.istore_n 2, 1) := by decide +kernel
theorem dX10_takes_6 : decode cX10_takes 6 = .ok (.aload_n 0, 1) := by decide +kernel
theorem dX10_takes_7 : decode cX10_takes 7 = .ok (.getfield 7, 3) := by decide +kernel
theorem dX10_takes_10 : decode cX10_takes 10 = .ok (.bipush 7, 2) := by decide +kernel
theorem dX10_takes_12 : decode cX10_takes 12 = .ok (.iconst 4, 1) := by decide +kernel
theorem dX10_takes_13 : decode cX10_takes 13 = .ok (.iload_n 2, 1) := by decide +kernel
theorem dX10_takes_14 : decode cX10_takes 14 = .ok (.imul, 1) := by decide +kernel
theorem dX10_takes_15 : decode cX10_takes 15 = .ok (.iadd, 1) := by decide +kernel
theorem dX10_takes_16 : decode cX10_takes 16 = .ok (.iconst 2, 1) := by decide +kernel
theorem dX10_takes_17 : decode cX10_takes 17 = .ok (.iadd, 1) := by decide +kernel
theorem dX10_takes_18 : decode cX10_takes 18 = .ok (.dup2, 1) := by decide +kernel
theorem dX10_takes_19 : decode cX10_takes 19 = .ok (.iaload, 1) := by decide +kernel
theorem dX10_takes_20 : decode cX10_takes 20 = .ok (.iconst 1, 1) := by decide +kernel
theorem dX10_takes_21 : decode cX10_takes 21 = .ok (.isub, 1) := by decide +kernel
theorem dX10_takes_22 : decode cX10_takes 22 = .ok (.iastore, 1) := by decide +kernel
theorem dX10_takes_23 : decode cX10_takes 23 = .ok (.iload_n 2, 1) := by decide +kernel
theorem dX10_takes_24 : decode cX10_takes 24 = .ok (.ireturn, 1) := by decide +kernel
theorem dX10_weavesOne_0 : decode cX10_weavesOne 0 = .ok (.aload_n 0, 1) := by decide +kernel
theorem dX10_weavesOne_1 : decode cX10_weavesOne 1 = .ok (.getfield 7, 3) := by decide +kernel
theorem dX10_weavesOne_4 : decode cX10_weavesOne 4 = .ok (.iconst 2, 1) := by decide +kernel
theorem dX10_weavesOne_5 : decode cX10_weavesOne 5 = .ok (.iaload, 1) := by decide +kernel
theorem dX10_weavesOne_6 : decode cX10_weavesOne 6 = .ok (.aload_n 0, 1) := by decide +kernel
theorem dX10_weavesOne_7 : decode cX10_weavesOne 7 = .ok (.getfield 7, 3) := by decide +kernel
theorem dX10_weavesOne_10 : decode cX10_weavesOne 10 = .ok (.iconst 1, 1) := by decide +kernel
theorem dX10_weavesOne_11 : decode cX10_weavesOne 11 = .ok (.iaload, 1) := by decide +kernel
theorem dX10_weavesOne_12 : decode cX10_weavesOne 12 = .ok (.if_icmp .ne 5, 3) := by decide +kernel
theorem dX10_weavesOne_15 : decode cX10_weavesOne 15 = .ok (.iconst 0, 1) := by decide +kernel
theorem dX10_weavesOne_16 : decode cX10_weavesOne 16 = .ok (.ireturn, 1) := by decide +kernel
theorem dX10_weavesOne_17 : decode cX10_weavesOne 17 = .ok (.aload_n 0, 1) := by decide +kernel
theorem dX10_weavesOne_18 : decode cX10_weavesOne 18 = .ok (.getfield 7, 3) := by decide +kernel
theorem dX10_weavesOne_21 : decode cX10_weavesOne 21 = .ok (.iconst 2, 1) := by decide +kernel
theorem dX10_weavesOne_22 : decode cX10_weavesOne 22 = .ok (.iaload, 1) := by decide +kernel
theorem dX10_weavesOne_23 : decode cX10_weavesOne 23 = .ok (.istore_n 1, 1) := by decide +kernel
theorem dX10_weavesOne_24 : decode cX10_weavesOne 24 = .ok (.aload_n 0, 1) := by decide +kernel
theorem dX10_weavesOne_25 : decode cX10_weavesOne 25 = .ok (.iload_n 1, 1) := by decide +kernel
theorem dX10_weavesOne_26 : decode cX10_weavesOne 26 = .ok (.iconst 1, 1) := by decide +kernel
theorem dX10_weavesOne_27 : decode cX10_weavesOne 27 = .ok (.invokevirtual 85, 3) := by decide +kernel
theorem dX10_weavesOne_30 : decode cX10_weavesOne 30 = .ok (.iconst 0, 1) := by decide +kernel
theorem dX10_weavesOne_31 : decode cX10_weavesOne 31 = .ok (.istore_n 2, 1) := by decide +kernel
theorem dX10_weavesOne_32 : decode cX10_weavesOne 32 = .ok (.iload_n 2, 1) := by decide +kernel
theorem dX10_weavesOne_33 : decode cX10_weavesOne 33 = .ok (.bipush 8, 2) := by decide +kernel
theorem dX10_weavesOne_35 : decode cX10_weavesOne 35 = .ok (.if_icmp .ge 30, 3) := by decide +kernel
theorem dX10_weavesOne_38 : decode cX10_weavesOne 38 = .ok (.aload_n 0, 1) := by decide +kernel
theorem dX10_weavesOne_39 : decode cX10_weavesOne 39 = .ok (.iload_n 2, 1) := by decide +kernel
theorem dX10_weavesOne_40 : decode cX10_weavesOne 40 = .ok (.invokevirtual 89, 3) := by decide +kernel
theorem dX10_weavesOne_43 : decode cX10_weavesOne 43 = .ok (.aload_n 0, 1) := by decide +kernel
theorem dX10_weavesOne_44 : decode cX10_weavesOne 44 = .ok (.iload_n 2, 1) := by decide +kernel
theorem dX10_weavesOne_45 : decode cX10_weavesOne 45 = .ok (.invokevirtual 92, 3) := by decide +kernel
theorem dX10_weavesOne_48 : decode cX10_weavesOne 48 = .ok (.iadd, 1) := by decide +kernel
theorem dX10_weavesOne_49 : decode cX10_weavesOne 49 = .ok (.aload_n 0, 1) := by decide +kernel
theorem dX10_weavesOne_50 : decode cX10_weavesOne 50 = .ok (.iload_n 2, 1) := by decide +kernel
theorem dX10_weavesOne_51 : decode cX10_weavesOne 51 = .ok (.invokevirtual 95, 3) := by decide +kernel
theorem dX10_weavesOne_54 : decode cX10_weavesOne 54 = .ok (.if_icmp .le 5, 3) := by decide +kernel
theorem dX10_weavesOne_57 : decode cX10_weavesOne 57 = .ok (.iconst 0, 1) := by decide +kernel
theorem dX10_weavesOne_58 : decode cX10_weavesOne 58 = .ok (.ireturn, 1) := by decide +kernel
theorem dX10_weavesOne_59 : decode cX10_weavesOne 59 = .ok (.iinc 2 1, 3) := by decide +kernel
theorem dX10_weavesOne_62 : decode cX10_weavesOne 62 = .ok (.goto (-30), 3) := by decide +kernel
theorem dX10_weavesOne_65 : decode cX10_weavesOne 65 = .ok (.iconst 0, 1) := by decide +kernel
theorem dX10_weavesOne_66 : decode cX10_weavesOne 66 = .ok (.istore_n 2, 1) := by decide +kernel
theorem dX10_weavesOne_67 : decode cX10_weavesOne 67 = .ok (.iload_n 2, 1) := by decide +kernel
theorem dX10_weavesOne_68 : decode cX10_weavesOne 68 = .ok (.aload_n 0, 1) := by decide +kernel
theorem dX10_weavesOne_69 : decode cX10_weavesOne 69 = .ok (.getfield 7, 3) := by decide +kernel
theorem dX10_weavesOne_72 : decode cX10_weavesOne 72 = .ok (.iconst 0, 1) := by decide +kernel
theorem dX10_weavesOne_73 : decode cX10_weavesOne 73 = .ok (.iaload, 1) := by decide +kernel
theorem dX10_weavesOne_74 : decode cX10_weavesOne 74 = .ok (.if_icmp .ge 96, 3) := by decide +kernel
theorem dX10_weavesOne_77 : decode cX10_weavesOne 77 = .ok (.aload_n 0, 1) := by decide +kernel
theorem dX10_weavesOne_78 : decode cX10_weavesOne 78 = .ok (.iload_n 2, 1) := by decide +kernel
theorem dX10_weavesOne_79 : decode cX10_weavesOne 79 = .ok (.invokevirtual 77, 3) := by decide +kernel
theorem dX10_weavesOne_82 : decode cX10_weavesOne 82 = .ok (.ifCond .eq 16, 3) := by decide +kernel
theorem dX10_weavesOne_85 : decode cX10_weavesOne 85 = .ok (.aload_n 0, 1) := by decide +kernel
theorem dX10_weavesOne_86 : decode cX10_weavesOne 86 = .ok (.aload_n 0, 1) := by decide +kernel
theorem dX10_weavesOne_87 : decode cX10_weavesOne 87 = .ok (.getfield 22, 3) := by decide +kernel
theorem dX10_weavesOne_90 : decode cX10_weavesOne 90 = .ok (.iload_n 2, 1) := by decide +kernel
theorem dX10_weavesOne_91 : decode cX10_weavesOne 91 = .ok (.iaload, 1) := by decide +kernel
theorem dX10_weavesOne_92 : decode cX10_weavesOne 92 = .ok (.invokevirtual 98, 3) := by decide +kernel
theorem dX10_weavesOne_95 : decode cX10_weavesOne 95 = .ok (.goto 4, 3) := by decide +kernel
theorem dX10_weavesOne_98 : decode cX10_weavesOne 98 = .ok (.iconst 0, 1) := by decide +kernel
theorem dX10_weavesOne_99 : decode cX10_weavesOne 99 = .ok (.istore_n 3, 1) := by decide +kernel
theorem dX10_weavesOne_100 : decode cX10_weavesOne 100 = .ok (.aload_n 0, 1) := by decide +kernel
theorem dX10_weavesOne_101 : decode cX10_weavesOne 101 = .ok (.getfield 7, 3) := by decide +kernel
theorem dX10_weavesOne_104 : decode cX10_weavesOne 104 = .ok (.sipush 411, 3) := by decide +kernel
theorem dX10_weavesOne_107 : decode cX10_weavesOne 107 = .ok (.bipush 20, 2) := by decide +kernel
theorem dX10_weavesOne_109 : decode cX10_weavesOne 109 = .ok (.iload_n 1, 1) := by decide +kernel
theorem dX10_weavesOne_110 : decode cX10_weavesOne 110 = .ok (.imul, 1) := by decide +kernel
theorem dX10_weavesOne_111 : decode cX10_weavesOne 111 = .ok (.iadd, 1) := by decide +kernel
theorem dX10_weavesOne_112 : decode cX10_weavesOne 112 = .ok (.iload_n 2, 1) := by decide +kernel
theorem dX10_weavesOne_113 : decode cX10_weavesOne 113 = .ok (.iadd, 1) := by decide +kernel
theorem dX10_weavesOne_114 : decode cX10_weavesOne 114 = .ok (.aload_n 0, 1) := by decide +kernel
theorem dX10_weavesOne_115 : decode cX10_weavesOne 115 = .ok (.getfield 22, 3) := by decide +kernel
theorem dX10_weavesOne_118 : decode cX10_weavesOne 118 = .ok (.iload_n 2, 1) := by decide +kernel
theorem dX10_weavesOne_119 : decode cX10_weavesOne 119 = .ok (.iaload, 1) := by decide +kernel
theorem dX10_weavesOne_120 : decode cX10_weavesOne 120 = .ok (.iastore, 1) := by decide +kernel
theorem dX10_weavesOne_121 : decode cX10_weavesOne 121 = .ok (.aload_n 0, 1) := by decide +kernel
theorem dX10_weavesOne_122 : decode cX10_weavesOne 122 = .ok (.getfield 7, 3) := by decide +kernel
theorem dX10_weavesOne_125 : decode cX10_weavesOne 125 = .ok (.sipush 731, 3) := by decide +kernel
theorem dX10_weavesOne_128 : decode cX10_weavesOne 128 = .ok (.bipush 20, 2) := by decide +kernel
theorem dX10_weavesOne_130 : decode cX10_weavesOne 130 = .ok (.iload_n 1, 1) := by decide +kernel
theorem dX10_weavesOne_131 : decode cX10_weavesOne 131 = .ok (.imul, 1) := by decide +kernel
theorem dX10_weavesOne_132 : decode cX10_weavesOne 132 = .ok (.iadd, 1) := by decide +kernel
theorem dX10_weavesOne_133 : decode cX10_weavesOne 133 = .ok (.iload_n 2, 1) := by decide +kernel
theorem dX10_weavesOne_134 : decode cX10_weavesOne 134 = .ok (.iadd, 1) := by decide +kernel
theorem dX10_weavesOne_135 : decode cX10_weavesOne 135 = .ok (.iload_n 3, 1) := by decide +kernel
theorem dX10_weavesOne_136 : decode cX10_weavesOne 136 = .ok (.ifCond .ge 7, 3) := by decide +kernel
theorem dX10_weavesOne_139 : decode cX10_weavesOne 139 = .ok (.iconst (-1), 1) := by decide +kernel
theorem dX10_weavesOne_140 : decode cX10_weavesOne 140 = .ok (.goto 13, 3) := by decide +kernel
theorem dX10_weavesOne_143 : decode cX10_weavesOne 143 = .ok (.aload_n 0, 1) := by decide +kernel
theorem dX10_weavesOne_144 : decode cX10_weavesOne 144 = .ok (.aload_n 0, 1) := by decide +kernel
theorem dX10_weavesOne_145 : decode cX10_weavesOne 145 = .ok (.getfield 22, 3) := by decide +kernel
theorem dX10_weavesOne_148 : decode cX10_weavesOne 148 = .ok (.iload_n 2, 1) := by decide +kernel
theorem dX10_weavesOne_149 : decode cX10_weavesOne 149 = .ok (.iaload, 1) := by decide +kernel
theorem dX10_weavesOne_150 : decode cX10_weavesOne 150 = .ok (.invokevirtual 98, 3) := by decide +kernel
theorem dX10_weavesOne_153 : decode cX10_weavesOne 153 = .ok (.iastore, 1) := by decide +kernel
theorem dX10_weavesOne_154 : decode cX10_weavesOne 154 = .ok (.aload_n 0, 1) := by decide +kernel
theorem dX10_weavesOne_155 : decode cX10_weavesOne 155 = .ok (.getfield 7, 3) := by decide +kernel
theorem dX10_weavesOne_158 : decode cX10_weavesOne 158 = .ok (.bipush 71, 2) := by decide +kernel
theorem dX10_weavesOne_160 : decode cX10_weavesOne 160 = .ok (.iload_n 2, 1) := by decide +kernel
theorem dX10_weavesOne_161 : decode cX10_weavesOne 161 = .ok (.iadd, 1) := by decide +kernel
theorem dX10_weavesOne_162 : decode cX10_weavesOne 162 = .ok (.iconst (-1), 1) := by decide +kernel
theorem dX10_weavesOne_163 : decode cX10_weavesOne 163 = .ok (.iastore, 1) := by decide +kernel
theorem dX10_weavesOne_164 : decode cX10_weavesOne 164 = .ok (.iinc 2 1, 3) := by decide +kernel
theorem dX10_weavesOne_167 : decode cX10_weavesOne 167 = .ok (.goto (-100), 3) := by decide +kernel
theorem dX10_weavesOne_170 : decode cX10_weavesOne 170 = .ok (.aload_n 0, 1) := by decide +kernel
theorem dX10_weavesOne_171 : decode cX10_weavesOne 171 = .ok (.getfield 7, 3) := by decide +kernel
theorem dX10_weavesOne_174 : decode cX10_weavesOne 174 = .ok (.iconst 2, 1) := by decide +kernel
theorem dX10_weavesOne_175 : decode cX10_weavesOne 175 = .ok (.dup2, 1) := by decide +kernel
theorem dX10_weavesOne_176 : decode cX10_weavesOne 176 = .ok (.iaload, 1) := by decide +kernel
theorem dX10_weavesOne_177 : decode cX10_weavesOne 177 = .ok (.iconst 1, 1) := by decide +kernel
theorem dX10_weavesOne_178 : decode cX10_weavesOne 178 = .ok (.iadd, 1) := by decide +kernel
theorem dX10_weavesOne_179 : decode cX10_weavesOne 179 = .ok (.iastore, 1) := by decide +kernel
theorem dX10_weavesOne_180 : decode cX10_weavesOne 180 = .ok (.iconst 1, 1) := by decide +kernel
theorem dX10_weavesOne_181 : decode cX10_weavesOne 181 = .ok (.ireturn, 1) := by decide +kernel
theorem dX10_fresh_0 : decode cX10_fresh 0 = .ok (.aload_n 0, 1) := by decide +kernel
theorem dX10_fresh_1 : decode cX10_fresh 1 = .ok (.iload_n 1, 1) := by decide +kernel
theorem dX10_fresh_2 : decode cX10_fresh 2 = .ok (.invokevirtual 101, 3) := by decide +kernel
theorem dX10_fresh_5 : decode cX10_fresh 5 = .ok (.iconst 0, 1) := by decide +kernel
theorem dX10_fresh_6 : decode cX10_fresh 6 = .ok (.istore_n 2, 1) := by decide +kernel
theorem dX10_fresh_7 : decode cX10_fresh 7 = .ok (.iconst 0, 1) := by decide +kernel
theorem dX10_fresh_8 : decode cX10_fresh 8 = .ok (.istore_n 3, 1) := by decide +kernel
theorem dX10_fresh_9 : decode cX10_fresh 9 = .ok (.iconst 0, 1) := by decide +kernel
theorem dX10_fresh_10 : decode cX10_fresh 10 = .ok (.istore 4, 2) := by decide +kernel
theorem dX10_fresh_12 : decode cX10_fresh 12 = .ok (.iload 4, 2) := by decide +kernel
theorem dX10_fresh_14 : decode cX10_fresh 14 = .ok (.aload_n 0, 1) := by decide +kernel
theorem dX10_fresh_15 : decode cX10_fresh 15 = .ok (.getfield 7, 3) := by decide +kernel
theorem dX10_fresh_18 : decode cX10_fresh 18 = .ok (.iconst 0, 1) := by decide +kernel
theorem dX10_fresh_19 : decode cX10_fresh 19 = .ok (.iaload, 1) := by decide +kernel
theorem dX10_fresh_20 : decode cX10_fresh 20 = .ok (.if_icmp .ge 107, 3) := by decide +kernel
theorem dX10_fresh_23 : decode cX10_fresh 23 = .ok (.aload_n 0, 1) := by decide +kernel
theorem dX10_fresh_24 : decode cX10_fresh 24 = .ok (.iload 4, 2) := by decide +kernel
theorem dX10_fresh_26 : decode cX10_fresh 26 = .ok (.invokevirtual 77, 3) := by decide +kernel
theorem dX10_fresh_29 : decode cX10_fresh 29 = .ok (.ifCond .ne 7, 3) := by decide +kernel
theorem dX10_fresh_32 : decode cX10_fresh 32 = .ok (.iload_n 3, 1) := by decide +kernel
theorem dX10_fresh_33 : decode cX10_fresh 33 = .ok (.ifCond .ne 26, 3) := by decide +kernel
theorem dX10_fresh_36 : decode cX10_fresh 36 = .ok (.iload_n 1, 1) := by decide +kernel
theorem dX10_fresh_37 : decode cX10_fresh 37 = .ok (.ifCond .le 26, 3) := by decide +kernel
theorem dX10_fresh_40 : decode cX10_fresh 40 = .ok (.aload_n 0, 1) := by decide +kernel
theorem dX10_fresh_41 : decode cX10_fresh 41 = .ok (.iload_n 1, 1) := by decide +kernel
theorem dX10_fresh_42 : decode cX10_fresh 42 = .ok (.iconst 1, 1) := by decide +kernel
theorem dX10_fresh_43 : decode cX10_fresh 43 = .ok (.isub, 1) := by decide +kernel
theorem dX10_fresh_44 : decode cX10_fresh 44 = .ok (.iload 4, 2) := by decide +kernel
theorem dX10_fresh_46 : decode cX10_fresh 46 = .ok (.invokevirtual 74, 3) := by decide +kernel
theorem dX10_fresh_49 : decode cX10_fresh 49 = .ok (.aload_n 0, 1) := by decide +kernel
theorem dX10_fresh_50 : decode cX10_fresh 50 = .ok (.getfield 22, 3) := by decide +kernel
theorem dX10_fresh_53 : decode cX10_fresh 53 = .ok (.iload 4, 2) := by decide +kernel
theorem dX10_fresh_55 : decode cX10_fresh 55 = .ok (.iaload, 1) := by decide +kernel
theorem dX10_fresh_56 : decode cX10_fresh 56 = .ok (.if_icmp .ne 7, 3) := by decide +kernel
theorem dX10_fresh_59 : decode cX10_fresh 59 = .ok (.iconst 1, 1) := by decide +kernel
theorem dX10_fresh_60 : decode cX10_fresh 60 = .ok (.goto 4, 3) := by decide +kernel
theorem dX10_fresh_63 : decode cX10_fresh 63 = .ok (.iconst 0, 1) := by decide +kernel
theorem dX10_fresh_64 : decode cX10_fresh 64 = .ok (.istore_n 3, 1) := by decide +kernel
theorem dX10_fresh_65 : decode cX10_fresh 65 = .ok (.iload 4, 2) := by decide +kernel
theorem dX10_fresh_67 : decode cX10_fresh 67 = .ok (.iconst 1, 1) := by decide +kernel
theorem dX10_fresh_68 : decode cX10_fresh 68 = .ok (.iadd, 1) := by decide +kernel
theorem dX10_fresh_69 : decode cX10_fresh 69 = .ok (.aload_n 0, 1) := by decide +kernel
theorem dX10_fresh_70 : decode cX10_fresh 70 = .ok (.getfield 7, 3) := by decide +kernel
theorem dX10_fresh_73 : decode cX10_fresh 73 = .ok (.iconst 0, 1) := by decide +kernel
theorem dX10_fresh_74 : decode cX10_fresh 74 = .ok (.iaload, 1) := by decide +kernel
theorem dX10_fresh_75 : decode cX10_fresh 75 = .ok (.if_icmp .eq 22, 3) := by decide +kernel
theorem dX10_fresh_78 : decode cX10_fresh 78 = .ok (.aload_n 0, 1) := by decide +kernel
theorem dX10_fresh_79 : decode cX10_fresh 79 = .ok (.getfield 22, 3) := by decide +kernel
theorem dX10_fresh_82 : decode cX10_fresh 82 = .ok (.iload 4, 2) := by decide +kernel
theorem dX10_fresh_84 : decode cX10_fresh 84 = .ok (.iconst 1, 1) := by decide +kernel
theorem dX10_fresh_85 : decode cX10_fresh 85 = .ok (.iadd, 1) := by decide +kernel
theorem dX10_fresh_86 : decode cX10_fresh 86 = .ok (.iaload, 1) := by decide +kernel
theorem dX10_fresh_87 : decode cX10_fresh 87 = .ok (.aload_n 0, 1) := by decide +kernel
theorem dX10_fresh_88 : decode cX10_fresh 88 = .ok (.getfield 22, 3) := by decide +kernel
theorem dX10_fresh_91 : decode cX10_fresh 91 = .ok (.iload 4, 2) := by decide +kernel
theorem dX10_fresh_93 : decode cX10_fresh 93 = .ok (.iaload, 1) := by decide +kernel
theorem dX10_fresh_94 : decode cX10_fresh 94 = .ok (.if_icmp .eq 7, 3) := by decide +kernel
theorem dX10_fresh_97 : decode cX10_fresh 97 = .ok (.iconst 1, 1) := by decide +kernel
theorem dX10_fresh_98 : decode cX10_fresh 98 = .ok (.goto 4, 3) := by decide +kernel
theorem dX10_fresh_101 : decode cX10_fresh 101 = .ok (.iconst 0, 1) := by decide +kernel
theorem dX10_fresh_102 : decode cX10_fresh 102 = .ok (.istore 5, 2) := by decide +kernel
theorem dX10_fresh_104 : decode cX10_fresh 104 = .ok (.iload_n 2, 1) := by decide +kernel
theorem dX10_fresh_105 : decode cX10_fresh 105 = .ok (.iload 5, 2) := by decide +kernel
theorem dX10_fresh_107 : decode cX10_fresh 107 = .ok (.ifCond .eq 11, 3) := by decide +kernel
theorem dX10_fresh_110 : decode cX10_fresh 110 = .ok (.iload_n 3, 1) := by decide +kernel
theorem dX10_fresh_111 : decode cX10_fresh 111 = .ok (.ifCond .ne 7, 3) := by decide +kernel
theorem dX10_fresh_114 : decode cX10_fresh 114 = .ok (.iconst 1, 1) := by decide +kernel
theorem dX10_fresh_115 : decode cX10_fresh 115 = .ok (.goto 4, 3) := by decide +kernel
theorem dX10_fresh_118 : decode cX10_fresh 118 = .ok (.iconst 0, 1) := by decide +kernel
theorem dX10_fresh_119 : decode cX10_fresh 119 = .ok (.iadd, 1) := by decide +kernel
theorem dX10_fresh_120 : decode cX10_fresh 120 = .ok (.istore_n 2, 1) := by decide +kernel
theorem dX10_fresh_121 : decode cX10_fresh 121 = .ok (.iinc 4 1, 3) := by decide +kernel
theorem dX10_fresh_124 : decode cX10_fresh 124 = .ok (.goto (-112), 3) := by decide +kernel
theorem dX10_fresh_127 : decode cX10_fresh 127 = .ok (.iload_n 2, 1) := by decide +kernel
theorem dX10_fresh_128 : decode cX10_fresh 128 = .ok (.ireturn, 1) := by decide +kernel
theorem dX10_wrong_0 : decode cX10_wrong 0 = .ok (.iconst 0, 1) := by decide +kernel
theorem dX10_wrong_1 : decode cX10_wrong 1 = .ok (.istore_n 2, 1) := by decide +kernel
theorem dX10_wrong_2 : decode cX10_wrong 2 = .ok (.iconst 0, 1) := by decide +kernel
theorem dX10_wrong_3 : decode cX10_wrong 3 = .ok (.istore_n 3, 1) := by decide +kernel
theorem dX10_wrong_4 : decode cX10_wrong 4 = .ok (.iload_n 3, 1) := by decide +kernel
theorem dX10_wrong_5 : decode cX10_wrong 5 = .ok (.aload_n 0, 1) := by decide +kernel
theorem dX10_wrong_6 : decode cX10_wrong 6 = .ok (.getfield 7, 3) := by decide +kernel
theorem dX10_wrong_9 : decode cX10_wrong 9 = .ok (.iconst 0, 1) := by decide +kernel
theorem dX10_wrong_10 : decode cX10_wrong 10 = .ok (.iaload, 1) := by decide +kernel
theorem dX10_wrong_11 : decode cX10_wrong 11 = .ok (.if_icmp .ge 32, 3) := by decide +kernel
theorem dX10_wrong_14 : decode cX10_wrong 14 = .ok (.iload_n 2, 1) := by decide +kernel
theorem dX10_wrong_15 : decode cX10_wrong 15 = .ok (.aload_n 0, 1) := by decide +kernel
theorem dX10_wrong_16 : decode cX10_wrong 16 = .ok (.iload_n 1, 1) := by decide +kernel
theorem dX10_wrong_17 : decode cX10_wrong 17 = .ok (.iload_n 3, 1) := by decide +kernel
theorem dX10_wrong_18 : decode cX10_wrong 18 = .ok (.invokevirtual 74, 3) := by decide +kernel
theorem dX10_wrong_21 : decode cX10_wrong 21 = .ok (.aload_n 0, 1) := by decide +kernel
theorem dX10_wrong_22 : decode cX10_wrong 22 = .ok (.iload_n 1, 1) := by decide +kernel
theorem dX10_wrong_23 : decode cX10_wrong 23 = .ok (.iload_n 3, 1) := by decide +kernel
theorem dX10_wrong_24 : decode cX10_wrong 24 = .ok (.invokevirtual 71, 3) := by decide +kernel
theorem dX10_wrong_27 : decode cX10_wrong 27 = .ok (.if_icmp .ne 7, 3) := by decide +kernel
theorem dX10_wrong_30 : decode cX10_wrong 30 = .ok (.iconst 0, 1) := by decide +kernel
theorem dX10_wrong_31 : decode cX10_wrong 31 = .ok (.goto 4, 3) := by decide +kernel
theorem dX10_wrong_34 : decode cX10_wrong 34 = .ok (.iconst 1, 1) := by decide +kernel
theorem dX10_wrong_35 : decode cX10_wrong 35 = .ok (.iadd, 1) := by decide +kernel
theorem dX10_wrong_36 : decode cX10_wrong 36 = .ok (.istore_n 2, 1) := by decide +kernel
theorem dX10_wrong_37 : decode cX10_wrong 37 = .ok (.iinc 3 1, 3) := by decide +kernel
theorem dX10_wrong_40 : decode cX10_wrong 40 = .ok (.goto (-36), 3) := by decide +kernel
theorem dX10_wrong_43 : decode cX10_wrong 43 = .ok (.iload_n 2, 1) := by decide +kernel
theorem dX10_wrong_44 : decode cX10_wrong 44 = .ok (.ireturn, 1) := by decide +kernel
theorem dX10_lotsIn_0 : decode cX10_lotsIn 0 = .ok (.iconst 0, 1) := by decide +kernel
theorem dX10_lotsIn_1 : decode cX10_lotsIn 1 = .ok (.istore_n 2, 1) := by decide +kernel
theorem dX10_lotsIn_2 : decode cX10_lotsIn 2 = .ok (.iconst 0, 1) := by decide +kernel
theorem dX10_lotsIn_3 : decode cX10_lotsIn 3 = .ok (.istore_n 3, 1) := by decide +kernel
theorem dX10_lotsIn_4 : decode cX10_lotsIn 4 = .ok (.iload_n 3, 1) := by decide +kernel
theorem dX10_lotsIn_5 : decode cX10_lotsIn 5 = .ok (.aload_n 0, 1) := by decide +kernel
theorem dX10_lotsIn_6 : decode cX10_lotsIn 6 = .ok (.getfield 7, 3) := by decide +kernel
theorem dX10_lotsIn_9 : decode cX10_lotsIn 9 = .ok (.iconst 3, 1) := by decide +kernel
theorem dX10_lotsIn_10 : decode cX10_lotsIn 10 = .ok (.iaload, 1) := by decide +kernel
theorem dX10_lotsIn_11 : decode cX10_lotsIn 11 = .ok (.if_icmp .ge 68, 3) := by decide +kernel
theorem dX10_lotsIn_14 : decode cX10_lotsIn 14 = .ok (.iconst 0, 1) := by decide +kernel
theorem dX10_lotsIn_15 : decode cX10_lotsIn 15 = .ok (.istore 4, 2) := by decide +kernel
theorem dX10_lotsIn_17 : decode cX10_lotsIn 17 = .ok (.iconst 0, 1) := by decide +kernel
theorem dX10_lotsIn_18 : decode cX10_lotsIn 18 = .ok (.istore 5, 2) := by decide +kernel
theorem dX10_lotsIn_20 : decode cX10_lotsIn 20 = .ok (.iload 5, 2) := by decide +kernel
theorem dX10_lotsIn_22 : decode cX10_lotsIn 22 = .ok (.aload_n 0, 1) := by decide +kernel
theorem dX10_lotsIn_23 : decode cX10_lotsIn 23 = .ok (.getfield 7, 3) := by decide +kernel
theorem dX10_lotsIn_26 : decode cX10_lotsIn 26 = .ok (.iconst 0, 1) := by decide +kernel
theorem dX10_lotsIn_27 : decode cX10_lotsIn 27 = .ok (.iaload, 1) := by decide +kernel
theorem dX10_lotsIn_28 : decode cX10_lotsIn 28 = .ok (.if_icmp .ge 32, 3) := by decide +kernel
theorem dX10_lotsIn_31 : decode cX10_lotsIn 31 = .ok (.iload 4, 2) := by decide +kernel
theorem dX10_lotsIn_33 : decode cX10_lotsIn 33 = .ok (.ifCond .ne 14, 3) := by decide +kernel
theorem dX10_lotsIn_36 : decode cX10_lotsIn 36 = .ok (.aload_n 0, 1) := by decide +kernel
theorem dX10_lotsIn_37 : decode cX10_lotsIn 37 = .ok (.iload_n 1, 1) := by decide +kernel
theorem dX10_lotsIn_38 : decode cX10_lotsIn 38 = .ok (.iload 5, 2) := by decide +kernel
theorem dX10_lotsIn_40 : decode cX10_lotsIn 40 = .ok (.invokevirtual 105, 3) := by decide +kernel
theorem dX10_lotsIn_43 : decode cX10_lotsIn 43 = .ok (.iload_n 3, 1) := by decide +kernel
theorem dX10_lotsIn_44 : decode cX10_lotsIn 44 = .ok (.if_icmp .ne 7, 3) := by decide +kernel
theorem dX10_lotsIn_47 : decode cX10_lotsIn 47 = .ok (.iconst 1, 1) := by decide +kernel
theorem dX10_lotsIn_48 : decode cX10_lotsIn 48 = .ok (.goto 4, 3) := by decide +kernel
theorem dX10_lotsIn_51 : decode cX10_lotsIn 51 = .ok (.iconst 0, 1) := by decide +kernel
theorem dX10_lotsIn_52 : decode cX10_lotsIn 52 = .ok (.istore 4, 2) := by decide +kernel
theorem dX10_lotsIn_54 : decode cX10_lotsIn 54 = .ok (.iinc 5 1, 3) := by decide +kernel
theorem dX10_lotsIn_57 : decode cX10_lotsIn 57 = .ok (.goto (-37), 3) := by decide +kernel
theorem dX10_lotsIn_60 : decode cX10_lotsIn 60 = .ok (.iload_n 2, 1) := by decide +kernel
theorem dX10_lotsIn_61 : decode cX10_lotsIn 61 = .ok (.iload 4, 2) := by decide +kernel
theorem dX10_lotsIn_63 : decode cX10_lotsIn 63 = .ok (.ifCond .eq 7, 3) := by decide +kernel
theorem dX10_lotsIn_66 : decode cX10_lotsIn 66 = .ok (.iconst 1, 1) := by decide +kernel
theorem dX10_lotsIn_67 : decode cX10_lotsIn 67 = .ok (.goto 4, 3) := by decide +kernel
theorem dX10_lotsIn_70 : decode cX10_lotsIn 70 = .ok (.iconst 0, 1) := by decide +kernel
theorem dX10_lotsIn_71 : decode cX10_lotsIn 71 = .ok (.iadd, 1) := by decide +kernel
theorem dX10_lotsIn_72 : decode cX10_lotsIn 72 = .ok (.istore_n 2, 1) := by decide +kernel
theorem dX10_lotsIn_73 : decode cX10_lotsIn 73 = .ok (.iinc 3 1, 3) := by decide +kernel
theorem dX10_lotsIn_76 : decode cX10_lotsIn 76 = .ok (.goto (-72), 3) := by decide +kernel
theorem dX10_lotsIn_79 : decode cX10_lotsIn 79 = .ok (.iload_n 2, 1) := by decide +kernel
theorem dX10_lotsIn_80 : decode cX10_lotsIn 80 = .ok (.ireturn, 1) := by decide +kernel
theorem dX10_shuttles_0 : decode cX10_shuttles 0 = .ok (.aload_n 0, 1) := by decide +kernel
theorem dX10_shuttles_1 : decode cX10_shuttles 1 = .ok (.iload_n 1, 1) := by decide +kernel
theorem dX10_shuttles_2 : decode cX10_shuttles 2 = .ok (.invokevirtual 101, 3) := by decide +kernel
theorem dX10_shuttles_5 : decode cX10_shuttles 5 = .ok (.aload_n 0, 1) := by decide +kernel
theorem dX10_shuttles_6 : decode cX10_shuttles 6 = .ok (.invokevirtual 108, 3) := by decide +kernel
theorem dX10_shuttles_9 : decode cX10_shuttles 9 = .ok (.ireturn, 1) := by decide +kernel
theorem dX10_parts_0 : decode cX10_parts 0 = .ok (.aload_n 0, 1) := by decide +kernel
theorem dX10_parts_1 : decode cX10_parts 1 = .ok (.iload_n 1, 1) := by decide +kernel
theorem dX10_parts_2 : decode cX10_parts 2 = .ok (.invokevirtual 112, 3) := by decide +kernel
theorem dX10_parts_5 : decode cX10_parts 5 = .ok (.ifCond .eq 24, 3) := by decide +kernel
theorem dX10_parts_8 : decode cX10_parts 8 = .ok (.aload_n 0, 1) := by decide +kernel
theorem dX10_parts_9 : decode cX10_parts 9 = .ok (.iload_n 1, 1) := by decide +kernel
theorem dX10_parts_10 : decode cX10_parts 10 = .ok (.iload_n 2, 1) := by decide +kernel
theorem dX10_parts_11 : decode cX10_parts 11 = .ok (.invokevirtual 74, 3) := by decide +kernel
theorem dX10_parts_14 : decode cX10_parts 14 = .ok (.aload_n 0, 1) := by decide +kernel
theorem dX10_parts_15 : decode cX10_parts 15 = .ok (.iload_n 1, 1) := by decide +kernel
theorem dX10_parts_16 : decode cX10_parts 16 = .ok (.iload_n 2, 1) := by decide +kernel
theorem dX10_parts_17 : decode cX10_parts 17 = .ok (.iconst 1, 1) := by decide +kernel
theorem dX10_parts_18 : decode cX10_parts 18 = .ok (.iadd, 1) := by decide +kernel
theorem dX10_parts_19 : decode cX10_parts 19 = .ok (.invokevirtual 74, 3) := by decide +kernel
theorem dX10_parts_22 : decode cX10_parts 22 = .ok (.if_icmp .eq 7, 3) := by decide +kernel
theorem dX10_parts_25 : decode cX10_parts 25 = .ok (.iconst 1, 1) := by decide +kernel
theorem dX10_parts_26 : decode cX10_parts 26 = .ok (.goto 4, 3) := by decide +kernel
theorem dX10_parts_29 : decode cX10_parts 29 = .ok (.iconst 0, 1) := by decide +kernel
theorem dX10_parts_30 : decode cX10_parts 30 = .ok (.ireturn, 1) := by decide +kernel
theorem dX10_finds_0 : decode cX10_finds 0 = .ok (.aload_n 0, 1) := by decide +kernel
theorem dX10_finds_1 : decode cX10_finds 1 = .ok (.iconst 0, 1) := by decide +kernel
theorem dX10_finds_2 : decode cX10_finds 2 = .ok (.putfield 115, 3) := by decide +kernel
theorem dX10_finds_5 : decode cX10_finds 5 = .ok (.iconst 0, 1) := by decide +kernel
theorem dX10_finds_6 : decode cX10_finds 6 = .ok (.istore_n 2, 1) := by decide +kernel
theorem dX10_finds_7 : decode cX10_finds 7 = .ok (.iload_n 2, 1) := by decide +kernel
theorem dX10_finds_8 : decode cX10_finds 8 = .ok (.iconst 1, 1) := by decide +kernel
theorem dX10_finds_9 : decode cX10_finds 9 = .ok (.iadd, 1) := by decide +kernel
theorem dX10_finds_10 : decode cX10_finds 10 = .ok (.aload_n 0, 1) := by decide +kernel
theorem dX10_finds_11 : decode cX10_finds 11 = .ok (.getfield 7, 3) := by decide +kernel
theorem dX10_finds_14 : decode cX10_finds 14 = .ok (.iconst 0, 1) := by decide +kernel
theorem dX10_finds_15 : decode cX10_finds 15 = .ok (.iaload, 1) := by decide +kernel
theorem dX10_finds_16 : decode cX10_finds 16 = .ok (.if_icmp .ge 113, 3) := by decide +kernel
theorem dX10_finds_19 : decode cX10_finds 19 = .ok (.iconst 0, 1) := by decide +kernel
theorem dX10_finds_20 : decode cX10_finds 20 = .ok (.istore_n 3, 1) := by decide +kernel
theorem dX10_finds_21 : decode cX10_finds 21 = .ok (.iconst 0, 1) := by decide +kernel
theorem dX10_finds_22 : decode cX10_finds 22 = .ok (.istore 4, 2) := by decide +kernel
theorem dX10_finds_24 : decode cX10_finds 24 = .ok (.iload 4, 2) := by decide +kernel
theorem dX10_finds_26 : decode cX10_finds 26 = .ok (.aload_n 0, 1) := by decide +kernel
theorem dX10_finds_27 : decode cX10_finds 27 = .ok (.getfield 7, 3) := by decide +kernel
theorem dX10_finds_30 : decode cX10_finds 30 = .ok (.iconst 2, 1) := by decide +kernel
theorem dX10_finds_31 : decode cX10_finds 31 = .ok (.iaload, 1) := by decide +kernel
theorem dX10_finds_32 : decode cX10_finds 32 = .ok (.if_icmp .ge 91, 3) := by decide +kernel
theorem dX10_finds_35 : decode cX10_finds 35 = .ok (.aload_n 0, 1) := by decide +kernel
theorem dX10_finds_36 : decode cX10_finds 36 = .ok (.iload 4, 2) := by decide +kernel
theorem dX10_finds_38 : decode cX10_finds 38 = .ok (.iload_n 2, 1) := by decide +kernel
theorem dX10_finds_39 : decode cX10_finds 39 = .ok (.invokevirtual 118, 3) := by decide +kernel
theorem dX10_finds_42 : decode cX10_finds 42 = .ok (.ifCond .eq 7, 3) := by decide +kernel
theorem dX10_finds_45 : decode cX10_finds 45 = .ok (.iload_n 3, 1) := by decide +kernel
theorem dX10_finds_46 : decode cX10_finds 46 = .ok (.goto 7, 3) := by decide +kernel
theorem dX10_finds_49 : decode cX10_finds 49 = .ok (.iload 4, 2) := by decide +kernel
theorem dX10_finds_51 : decode cX10_finds 51 = .ok (.iconst 1, 1) := by decide +kernel
theorem dX10_finds_52 : decode cX10_finds 52 = .ok (.iadd, 1) := by decide +kernel
theorem dX10_finds_53 : decode cX10_finds 53 = .ok (.istore_n 3, 1) := by decide +kernel
theorem dX10_finds_54 : decode cX10_finds 54 = .ok (.aload_n 0, 1) := by decide +kernel
theorem dX10_finds_55 : decode cX10_finds 55 = .ok (.iload 4, 2) := by decide +kernel
theorem dX10_finds_57 : decode cX10_finds 57 = .ok (.iconst 1, 1) := by decide +kernel
theorem dX10_finds_58 : decode cX10_finds 58 = .ok (.iadd, 1) := by decide +kernel
theorem dX10_finds_59 : decode cX10_finds 59 = .ok (.iload_n 2, 1) := by decide +kernel
theorem dX10_finds_60 : decode cX10_finds 60 = .ok (.invokevirtual 118, 3) := by decide +kernel
theorem dX10_finds_63 : decode cX10_finds 63 = .ok (.ifCond .ne 54, 3) := by decide +kernel
theorem dX10_finds_66 : decode cX10_finds 66 = .ok (.iload 4, 2) := by decide +kernel
theorem dX10_finds_68 : decode cX10_finds 68 = .ok (.iconst 1, 1) := by decide +kernel
theorem dX10_finds_69 : decode cX10_finds 69 = .ok (.iadd, 1) := by decide +kernel
theorem dX10_finds_70 : decode cX10_finds 70 = .ok (.iload_n 3, 1) := by decide +kernel
theorem dX10_finds_71 : decode cX10_finds 71 = .ok (.isub, 1) := by decide +kernel
theorem dX10_finds_72 : decode cX10_finds 72 = .ok (.iload_n 1, 1) := by decide +kernel
theorem dX10_finds_73 : decode cX10_finds 73 = .ok (.if_icmp .le 44, 3) := by decide +kernel
theorem dX10_finds_76 : decode cX10_finds 76 = .ok (.aload_n 0, 1) := by decide +kernel
theorem dX10_finds_77 : decode cX10_finds 77 = .ok (.getfield 31, 3) := by decide +kernel
theorem dX10_finds_80 : decode cX10_finds 80 = .ok (.aload_n 0, 1) := by decide +kernel
theorem dX10_finds_81 : decode cX10_finds 81 = .ok (.getfield 115, 3) := by decide +kernel
theorem dX10_finds_84 : decode cX10_finds 84 = .ok (.iload_n 2, 1) := by decide +kernel
theorem dX10_finds_85 : decode cX10_finds 85 = .ok (.iastore, 1) := by decide +kernel
theorem dX10_finds_86 : decode cX10_finds 86 = .ok (.aload_n 0, 1) := by decide +kernel
theorem dX10_finds_87 : decode cX10_finds 87 = .ok (.getfield 34, 3) := by decide +kernel
theorem dX10_finds_90 : decode cX10_finds 90 = .ok (.aload_n 0, 1) := by decide +kernel
theorem dX10_finds_91 : decode cX10_finds 91 = .ok (.getfield 115, 3) := by decide +kernel
theorem dX10_finds_94 : decode cX10_finds 94 = .ok (.iload_n 3, 1) := by decide +kernel
theorem dX10_finds_95 : decode cX10_finds 95 = .ok (.iastore, 1) := by decide +kernel
theorem dX10_finds_96 : decode cX10_finds 96 = .ok (.aload_n 0, 1) := by decide +kernel
theorem dX10_finds_97 : decode cX10_finds 97 = .ok (.getfield 37, 3) := by decide +kernel
theorem dX10_finds_100 : decode cX10_finds 100 = .ok (.aload_n 0, 1) := by decide +kernel
theorem dX10_finds_101 : decode cX10_finds 101 = .ok (.getfield 115, 3) := by decide +kernel
theorem dX10_finds_104 : decode cX10_finds 104 = .ok (.iload 4, 2) := by decide +kernel
theorem dX10_finds_106 : decode cX10_finds 106 = .ok (.iastore, 1) := by decide +kernel
theorem dX10_finds_107 : decode cX10_finds 107 = .ok (.aload_n 0, 1) := by decide +kernel
theorem dX10_finds_108 : decode cX10_finds 108 = .ok (.dup, 1) := by decide +kernel
theorem dX10_finds_109 : decode cX10_finds 109 = .ok (.getfield 115, 3) := by decide +kernel
theorem dX10_finds_112 : decode cX10_finds 112 = .ok (.iconst 1, 1) := by decide +kernel
theorem dX10_finds_113 : decode cX10_finds 113 = .ok (.iadd, 1) := by decide +kernel
theorem dX10_finds_114 : decode cX10_finds 114 = .ok (.putfield 115, 3) := by decide +kernel
theorem dX10_finds_117 : decode cX10_finds 117 = .ok (.iinc 4 1, 3) := by decide +kernel
theorem dX10_finds_120 : decode cX10_finds 120 = .ok (.goto (-96), 3) := by decide +kernel
theorem dX10_finds_123 : decode cX10_finds 123 = .ok (.iinc 2 1, 3) := by decide +kernel
theorem dX10_finds_126 : decode cX10_finds 126 = .ok (.goto (-119), 3) := by decide +kernel
theorem dX10_finds_129 : decode cX10_finds 129 = .ok (.return_, 1) := by decide +kernel
theorem dX10_isSewn_0 : decode cX10_isSewn 0 = .ok (.aload_n 0, 1) := by decide +kernel
theorem dX10_isSewn_1 : decode cX10_isSewn 1 = .ok (.getfield 7, 3) := by decide +kernel
theorem dX10_isSewn_4 : decode cX10_isSewn 4 = .ok (.sipush 1051, 3) := by decide +kernel
theorem dX10_isSewn_7 : decode cX10_isSewn 7 = .ok (.bipush 16, 2) := by decide +kernel
theorem dX10_isSewn_9 : decode cX10_isSewn 9 = .ok (.aload_n 0, 1) := by decide +kernel
theorem dX10_isSewn_10 : decode cX10_isSewn 10 = .ok (.getfield 31, 3) := by decide +kernel
theorem dX10_isSewn_13 : decode cX10_isSewn 13 = .ok (.iload_n 1, 1) := by decide +kernel
theorem dX10_isSewn_14 : decode cX10_isSewn 14 = .ok (.iaload, 1) := by decide +kernel
theorem dX10_isSewn_15 : decode cX10_isSewn 15 = .ok (.imul, 1) := by decide +kernel
theorem dX10_isSewn_16 : decode cX10_isSewn 16 = .ok (.iadd, 1) := by decide +kernel
theorem dX10_isSewn_17 : decode cX10_isSewn 17 = .ok (.aload_n 0, 1) := by decide +kernel
theorem dX10_isSewn_18 : decode cX10_isSewn 18 = .ok (.getfield 34, 3) := by decide +kernel
theorem dX10_isSewn_21 : decode cX10_isSewn 21 = .ok (.iload_n 1, 1) := by decide +kernel
theorem dX10_isSewn_22 : decode cX10_isSewn 22 = .ok (.iaload, 1) := by decide +kernel
theorem dX10_isSewn_23 : decode cX10_isSewn 23 = .ok (.iadd, 1) := by decide +kernel
theorem dX10_isSewn_24 : decode cX10_isSewn 24 = .ok (.iaload, 1) := by decide +kernel
theorem dX10_isSewn_25 : decode cX10_isSewn 25 = .ok (.iconst 1, 1) := by decide +kernel
theorem dX10_isSewn_26 : decode cX10_isSewn 26 = .ok (.if_icmp .ne 7, 3) := by decide +kernel
theorem dX10_isSewn_29 : decode cX10_isSewn 29 = .ok (.iconst 1, 1) := by decide +kernel
theorem dX10_isSewn_30 : decode cX10_isSewn 30 = .ok (.goto 4, 3) := by decide +kernel
theorem dX10_isSewn_33 : decode cX10_isSewn 33 = .ok (.iconst 0, 1) := by decide +kernel
theorem dX10_isSewn_34 : decode cX10_isSewn 34 = .ok (.ireturn, 1) := by decide +kernel
theorem dX10_forgets_0 : decode cX10_forgets 0 = .ok (.aload_n 0, 1) := by decide +kernel
theorem dX10_forgets_1 : decode cX10_forgets 1 = .ok (.aload_n 0, 1) := by decide +kernel
theorem dX10_forgets_2 : decode cX10_forgets 2 = .ok (.getfield 7, 3) := by decide +kernel
theorem dX10_forgets_5 : decode cX10_forgets 5 = .ok (.iconst 4, 1) := by decide +kernel
theorem dX10_forgets_6 : decode cX10_forgets 6 = .ok (.iaload, 1) := by decide +kernel
theorem dX10_forgets_7 : decode cX10_forgets 7 = .ok (.invokevirtual 122, 3) := by decide +kernel
theorem dX10_forgets_10 : decode cX10_forgets 10 = .ok (.iconst 0, 1) := by decide +kernel
theorem dX10_forgets_11 : decode cX10_forgets 11 = .ok (.istore_n 1, 1) := by decide +kernel
theorem dX10_forgets_12 : decode cX10_forgets 12 = .ok (.iload_n 1, 1) := by decide +kernel
theorem dX10_forgets_13 : decode cX10_forgets 13 = .ok (.sipush 320, 3) := by decide +kernel
theorem dX10_forgets_16 : decode cX10_forgets 16 = .ok (.if_icmp .ge 90, 3) := by decide +kernel
theorem dX10_forgets_19 : decode cX10_forgets 19 = .ok (.iconst 0, 1) := by decide +kernel
theorem dX10_forgets_20 : decode cX10_forgets 20 = .ok (.istore_n 2, 1) := by decide +kernel
theorem dX10_forgets_21 : decode cX10_forgets 21 = .ok (.iconst 0, 1) := by decide +kernel
theorem dX10_forgets_22 : decode cX10_forgets 22 = .ok (.istore_n 3, 1) := by decide +kernel
theorem dX10_forgets_23 : decode cX10_forgets 23 = .ok (.iload_n 3, 1) := by decide +kernel
theorem dX10_forgets_24 : decode cX10_forgets 24 = .ok (.aload_n 0, 1) := by decide +kernel
theorem dX10_forgets_25 : decode cX10_forgets 25 = .ok (.getfield 115, 3) := by decide +kernel
theorem dX10_forgets_28 : decode cX10_forgets 28 = .ok (.if_icmp .ge 53, 3) := by decide +kernel
theorem dX10_forgets_31 : decode cX10_forgets 31 = .ok (.aload_n 0, 1) := by decide +kernel
theorem dX10_forgets_32 : decode cX10_forgets 32 = .ok (.getfield 7, 3) := by decide +kernel
theorem dX10_forgets_35 : decode cX10_forgets 35 = .ok (.sipush 1051, 3) := by decide +kernel
theorem dX10_forgets_38 : decode cX10_forgets 38 = .ok (.iload_n 1, 1) := by decide +kernel
theorem dX10_forgets_39 : decode cX10_forgets 39 = .ok (.iadd, 1) := by decide +kernel
theorem dX10_forgets_40 : decode cX10_forgets 40 = .ok (.iaload, 1) := by decide +kernel
theorem dX10_forgets_41 : decode cX10_forgets 41 = .ok (.iconst 1, 1) := by decide +kernel
theorem dX10_forgets_42 : decode cX10_forgets 42 = .ok (.if_icmp .ne 39, 3) := by decide +kernel
theorem dX10_forgets_45 : decode cX10_forgets 45 = .ok (.iload_n 2, 1) := by decide +kernel
theorem dX10_forgets_46 : decode cX10_forgets 46 = .ok (.ifCond .ne 23, 3) := by decide +kernel
theorem dX10_forgets_49 : decode cX10_forgets 49 = .ok (.bipush 16, 2) := by decide +kernel
theorem dX10_forgets_51 : decode cX10_forgets 51 = .ok (.aload_n 0, 1) := by decide +kernel
theorem dX10_forgets_52 : decode cX10_forgets 52 = .ok (.getfield 31, 3) := by decide +kernel
theorem dX10_forgets_55 : decode cX10_forgets 55 = .ok (.iload_n 3, 1) := by decide +kernel
theorem dX10_forgets_56 : decode cX10_forgets 56 = .ok (.iaload, 1) := by decide +kernel
theorem dX10_forgets_57 : decode cX10_forgets 57 = .ok (.imul, 1) := by decide +kernel
theorem dX10_forgets_58 : decode cX10_forgets 58 = .ok (.aload_n 0, 1) := by decide +kernel
theorem dX10_forgets_59 : decode cX10_forgets 59 = .ok (.getfield 34, 3) := by decide +kernel
theorem dX10_forgets_62 : decode cX10_forgets 62 = .ok (.iload_n 3, 1) := by decide +kernel
theorem dX10_forgets_63 : decode cX10_forgets 63 = .ok (.iaload, 1) := by decide +kernel
theorem dX10_forgets_64 : decode cX10_forgets 64 = .ok (.iadd, 1) := by decide +kernel
theorem dX10_forgets_65 : decode cX10_forgets 65 = .ok (.iload_n 1, 1) := by decide +kernel
theorem dX10_forgets_66 : decode cX10_forgets 66 = .ok (.if_icmp .ne 7, 3) := by decide +kernel
theorem dX10_forgets_69 : decode cX10_forgets 69 = .ok (.iconst 1, 1) := by decide +kernel
theorem dX10_forgets_70 : decode cX10_forgets 70 = .ok (.goto 4, 3) := by decide +kernel
theorem dX10_forgets_73 : decode cX10_forgets 73 = .ok (.iconst 0, 1) := by decide +kernel
theorem dX10_forgets_74 : decode cX10_forgets 74 = .ok (.istore_n 2, 1) := by decide +kernel
theorem dX10_forgets_75 : decode cX10_forgets 75 = .ok (.iinc 3 1, 3) := by decide +kernel
theorem dX10_forgets_78 : decode cX10_forgets 78 = .ok (.goto (-55), 3) := by decide +kernel
theorem dX10_forgets_81 : decode cX10_forgets 81 = .ok (.aload_n 0, 1) := by decide +kernel
theorem dX10_forgets_82 : decode cX10_forgets 82 = .ok (.getfield 7, 3) := by decide +kernel
theorem dX10_forgets_85 : decode cX10_forgets 85 = .ok (.sipush 1051, 3) := by decide +kernel
theorem dX10_forgets_88 : decode cX10_forgets 88 = .ok (.iload_n 1, 1) := by decide +kernel
theorem dX10_forgets_89 : decode cX10_forgets 89 = .ok (.iadd, 1) := by decide +kernel
theorem dX10_forgets_90 : decode cX10_forgets 90 = .ok (.iload_n 2, 1) := by decide +kernel
theorem dX10_forgets_91 : decode cX10_forgets 91 = .ok (.ifCond .eq 7, 3) := by decide +kernel
theorem dX10_forgets_94 : decode cX10_forgets 94 = .ok (.iconst 1, 1) := by decide +kernel
theorem dX10_forgets_95 : decode cX10_forgets 95 = .ok (.goto 4, 3) := by decide +kernel
theorem dX10_forgets_98 : decode cX10_forgets 98 = .ok (.iconst 0, 1) := by decide +kernel
theorem dX10_forgets_99 : decode cX10_forgets 99 = .ok (.iastore, 1) := by decide +kernel
theorem dX10_forgets_100 : decode cX10_forgets 100 = .ok (.iinc 1 1, 3) := by decide +kernel
theorem dX10_forgets_103 : decode cX10_forgets 103 = .ok (.goto (-91), 3) := by decide +kernel
theorem dX10_forgets_106 : decode cX10_forgets 106 = .ok (.return_, 1) := by decide +kernel
theorem dX10_sewn_0 : decode cX10_sewn 0 = .ok (.iconst 0, 1) := by decide +kernel
theorem dX10_sewn_1 : decode cX10_sewn 1 = .ok (.istore_n 1, 1) := by decide +kernel
theorem dX10_sewn_2 : decode cX10_sewn 2 = .ok (.iconst 0, 1) := by decide +kernel
theorem dX10_sewn_3 : decode cX10_sewn 3 = .ok (.istore_n 2, 1) := by decide +kernel
theorem dX10_sewn_4 : decode cX10_sewn 4 = .ok (.iload_n 2, 1) := by decide +kernel
theorem dX10_sewn_5 : decode cX10_sewn 5 = .ok (.aload_n 0, 1) := by decide +kernel
theorem dX10_sewn_6 : decode cX10_sewn 6 = .ok (.getfield 115, 3) := by decide +kernel
theorem dX10_sewn_9 : decode cX10_sewn 9 = .ok (.if_icmp .ge 25, 3) := by decide +kernel
theorem dX10_sewn_12 : decode cX10_sewn 12 = .ok (.iload_n 1, 1) := by decide +kernel
theorem dX10_sewn_13 : decode cX10_sewn 13 = .ok (.aload_n 0, 1) := by decide +kernel
theorem dX10_sewn_14 : decode cX10_sewn 14 = .ok (.iload_n 2, 1) := by decide +kernel
theorem dX10_sewn_15 : decode cX10_sewn 15 = .ok (.invokevirtual 125, 3) := by decide +kernel
theorem dX10_sewn_18 : decode cX10_sewn 18 = .ok (.ifCond .eq 7, 3) := by decide +kernel
theorem dX10_sewn_21 : decode cX10_sewn 21 = .ok (.iconst 1, 1) := by decide +kernel
theorem dX10_sewn_22 : decode cX10_sewn 22 = .ok (.goto 4, 3) := by decide +kernel
theorem dX10_sewn_25 : decode cX10_sewn 25 = .ok (.iconst 0, 1) := by decide +kernel
theorem dX10_sewn_26 : decode cX10_sewn 26 = .ok (.iadd, 1) := by decide +kernel
theorem dX10_sewn_27 : decode cX10_sewn 27 = .ok (.istore_n 1, 1) := by decide +kernel
theorem dX10_sewn_28 : decode cX10_sewn 28 = .ok (.iinc 2 1, 3) := by decide +kernel
theorem dX10_sewn_31 : decode cX10_sewn 31 = .ok (.goto (-27), 3) := by decide +kernel
theorem dX10_sewn_34 : decode cX10_sewn 34 = .ok (.iload_n 1, 1) := by decide +kernel
theorem dX10_sewn_35 : decode cX10_sewn 35 = .ok (.ireturn, 1) := by decide +kernel
theorem dX10_sewnRows_0 : decode cX10_sewnRows 0 = .ok (.iconst 0, 1) := by decide +kernel
theorem dX10_sewnRows_1 : decode cX10_sewnRows 1 = .ok (.istore_n 1, 1) := by decide +kernel
theorem dX10_sewnRows_2 : decode cX10_sewnRows 2 = .ok (.iconst 0, 1) := by decide +kernel
theorem dX10_sewnRows_3 : decode cX10_sewnRows 3 = .ok (.istore_n 2, 1) := by decide +kernel
theorem dX10_sewnRows_4 : decode cX10_sewnRows 4 = .ok (.iload_n 2, 1) := by decide +kernel
theorem dX10_sewnRows_5 : decode cX10_sewnRows 5 = .ok (.aload_n 0, 1) := by decide +kernel
theorem dX10_sewnRows_6 : decode cX10_sewnRows 6 = .ok (.getfield 115, 3) := by decide +kernel
theorem dX10_sewnRows_9 : decode cX10_sewnRows 9 = .ok (.if_icmp .ge 39, 3) := by decide +kernel
theorem dX10_sewnRows_12 : decode cX10_sewnRows 12 = .ok (.iload_n 1, 1) := by decide +kernel
theorem dX10_sewnRows_13 : decode cX10_sewnRows 13 = .ok (.aload_n 0, 1) := by decide +kernel
theorem dX10_sewnRows_14 : decode cX10_sewnRows 14 = .ok (.iload_n 2, 1) := by decide +kernel
theorem dX10_sewnRows_15 : decode cX10_sewnRows 15 = .ok (.invokevirtual 125, 3) := by decide +kernel
theorem dX10_sewnRows_18 : decode cX10_sewnRows 18 = .ok (.ifCond .eq 21, 3) := by decide +kernel
theorem dX10_sewnRows_21 : decode cX10_sewnRows 21 = .ok (.aload_n 0, 1) := by decide +kernel
theorem dX10_sewnRows_22 : decode cX10_sewnRows 22 = .ok (.getfield 37, 3) := by decide +kernel
theorem dX10_sewnRows_25 : decode cX10_sewnRows 25 = .ok (.iload_n 2, 1) := by decide +kernel
theorem dX10_sewnRows_26 : decode cX10_sewnRows 26 = .ok (.iaload, 1) := by decide +kernel
theorem dX10_sewnRows_27 : decode cX10_sewnRows 27 = .ok (.aload_n 0, 1) := by decide +kernel
theorem dX10_sewnRows_28 : decode cX10_sewnRows 28 = .ok (.getfield 34, 3) := by decide +kernel
theorem dX10_sewnRows_31 : decode cX10_sewnRows 31 = .ok (.iload_n 2, 1) := by decide +kernel
theorem dX10_sewnRows_32 : decode cX10_sewnRows 32 = .ok (.iaload, 1) := by decide +kernel
theorem dX10_sewnRows_33 : decode cX10_sewnRows 33 = .ok (.isub, 1) := by decide +kernel
theorem dX10_sewnRows_34 : decode cX10_sewnRows 34 = .ok (.iconst 1, 1) := by decide +kernel
theorem dX10_sewnRows_35 : decode cX10_sewnRows 35 = .ok (.iadd, 1) := by decide +kernel
theorem dX10_sewnRows_36 : decode cX10_sewnRows 36 = .ok (.goto 4, 3) := by decide +kernel
theorem dX10_sewnRows_39 : decode cX10_sewnRows 39 = .ok (.iconst 0, 1) := by decide +kernel
theorem dX10_sewnRows_40 : decode cX10_sewnRows 40 = .ok (.iadd, 1) := by decide +kernel
theorem dX10_sewnRows_41 : decode cX10_sewnRows 41 = .ok (.istore_n 1, 1) := by decide +kernel
theorem dX10_sewnRows_42 : decode cX10_sewnRows 42 = .ok (.iinc 2 1, 3) := by decide +kernel
theorem dX10_sewnRows_45 : decode cX10_sewnRows 45 = .ok (.goto (-41), 3) := by decide +kernel
theorem dX10_sewnRows_48 : decode cX10_sewnRows 48 = .ok (.iload_n 1, 1) := by decide +kernel
theorem dX10_sewnRows_49 : decode cX10_sewnRows 49 = .ok (.ireturn, 1) := by decide +kernel
theorem dX10_cloths_0 : decode cX10_cloths 0 = .ok (.iload_n 1, 1) := by decide +kernel
theorem dX10_cloths_1 : decode cX10_cloths 1 = .ok (.iconst 1, 1) := by decide +kernel
theorem dX10_cloths_2 : decode cX10_cloths 2 = .ok (.bipush 20, 2) := by decide +kernel
theorem dX10_cloths_4 : decode cX10_cloths 4 = .ok (.invokestatic 56, 3) := by decide +kernel
theorem dX10_cloths_7 : decode cX10_cloths 7 = .ok (.ifCond .eq 13, 3) := by decide +kernel
theorem dX10_cloths_10 : decode cX10_cloths 10 = .ok (.iload_n 2, 1) := by decide +kernel
theorem dX10_cloths_11 : decode cX10_cloths 11 = .ok (.iconst 1, 1) := by decide +kernel
theorem dX10_cloths_12 : decode cX10_cloths 12 = .ok (.bipush 16, 2) := by decide +kernel
theorem dX10_cloths_14 : decode cX10_cloths 14 = .ok (.invokestatic 56, 3) := by decide +kernel
theorem dX10_cloths_17 : decode cX10_cloths 17 = .ok (.ifCond .ne 5, 3) := by decide +kernel
theorem dX10_cloths_20 : decode cX10_cloths 20 = .ok (.iconst 1, 1) := by decide +kernel
theorem dX10_cloths_21 : decode cX10_cloths 21 = .ok (.ireturn, 1) := by decide +kernel
theorem dX10_cloths_22 : decode cX10_cloths 22 = .ok (.aload_n 0, 1) := by decide +kernel
theorem dX10_cloths_23 : decode cX10_cloths 23 = .ok (.aload_n 0, 1) := by decide +kernel
theorem dX10_cloths_24 : decode cX10_cloths 24 = .ok (.getfield 7, 3) := by decide +kernel
theorem dX10_cloths_27 : decode cX10_cloths 27 = .ok (.iconst 2, 1) := by decide +kernel
theorem dX10_cloths_28 : decode cX10_cloths 28 = .ok (.iaload, 1) := by decide +kernel
theorem dX10_cloths_29 : decode cX10_cloths 29 = .ok (.putfield 128, 3) := by decide +kernel
theorem dX10_cloths_32 : decode cX10_cloths 32 = .ok (.aload_n 0, 1) := by decide +kernel
theorem dX10_cloths_33 : decode cX10_cloths 33 = .ok (.getfield 7, 3) := by decide +kernel
theorem dX10_cloths_36 : decode cX10_cloths 36 = .ok (.iconst 0, 1) := by decide +kernel
theorem dX10_cloths_37 : decode cX10_cloths 37 = .ok (.iload_n 1, 1) := by decide +kernel
theorem dX10_cloths_38 : decode cX10_cloths 38 = .ok (.iastore, 1) := by decide +kernel
theorem dX10_cloths_39 : decode cX10_cloths 39 = .ok (.aload_n 0, 1) := by decide +kernel
theorem dX10_cloths_40 : decode cX10_cloths 40 = .ok (.getfield 7, 3) := by decide +kernel
theorem dX10_cloths_43 : decode cX10_cloths 43 = .ok (.iconst 1, 1) := by decide +kernel
theorem dX10_cloths_44 : decode cX10_cloths 44 = .ok (.iload_n 2, 1) := by decide +kernel
theorem dX10_cloths_45 : decode cX10_cloths 45 = .ok (.iastore, 1) := by decide +kernel
theorem dX10_cloths_46 : decode cX10_cloths 46 = .ok (.aload_n 0, 1) := by decide +kernel
theorem dX10_cloths_47 : decode cX10_cloths 47 = .ok (.getfield 7, 3) := by decide +kernel
theorem dX10_cloths_50 : decode cX10_cloths 50 = .ok (.iconst 2, 1) := by decide +kernel
theorem dX10_cloths_51 : decode cX10_cloths 51 = .ok (.iconst 0, 1) := by decide +kernel
theorem dX10_cloths_52 : decode cX10_cloths 52 = .ok (.iastore, 1) := by decide +kernel
theorem dX10_cloths_53 : decode cX10_cloths 53 = .ok (.iconst 0, 1) := by decide +kernel
theorem dX10_cloths_54 : decode cX10_cloths 54 = .ok (.istore_n 3, 1) := by decide +kernel
theorem dX10_cloths_55 : decode cX10_cloths 55 = .ok (.iload_n 3, 1) := by decide +kernel
theorem dX10_cloths_56 : decode cX10_cloths 56 = .ok (.sipush 320, 3) := by decide +kernel
theorem dX10_cloths_59 : decode cX10_cloths 59 = .ok (.if_icmp .ge 30, 3) := by decide +kernel
theorem dX10_cloths_62 : decode cX10_cloths 62 = .ok (.aload_n 0, 1) := by decide +kernel
theorem dX10_cloths_63 : decode cX10_cloths 63 = .ok (.getfield 7, 3) := by decide +kernel
theorem dX10_cloths_66 : decode cX10_cloths 66 = .ok (.bipush 91, 2) := by decide +kernel
theorem dX10_cloths_68 : decode cX10_cloths 68 = .ok (.iload_n 3, 1) := by decide +kernel
theorem dX10_cloths_69 : decode cX10_cloths 69 = .ok (.iadd, 1) := by decide +kernel
theorem dX10_cloths_70 : decode cX10_cloths 70 = .ok (.iconst 0, 1) := by decide +kernel
theorem dX10_cloths_71 : decode cX10_cloths 71 = .ok (.iastore, 1) := by decide +kernel
theorem dX10_cloths_72 : decode cX10_cloths 72 = .ok (.aload_n 0, 1) := by decide +kernel
theorem dX10_cloths_73 : decode cX10_cloths 73 = .ok (.getfield 7, 3) := by decide +kernel
theorem dX10_cloths_76 : decode cX10_cloths 76 = .ok (.sipush 1051, 3) := by decide +kernel
theorem dX10_cloths_79 : decode cX10_cloths 79 = .ok (.iload_n 3, 1) := by decide +kernel
theorem dX10_cloths_80 : decode cX10_cloths 80 = .ok (.iadd, 1) := by decide +kernel
theorem dX10_cloths_81 : decode cX10_cloths 81 = .ok (.iconst 0, 1) := by decide +kernel
theorem dX10_cloths_82 : decode cX10_cloths 82 = .ok (.iastore, 1) := by decide +kernel
theorem dX10_cloths_83 : decode cX10_cloths 83 = .ok (.iinc 3 1, 3) := by decide +kernel
theorem dX10_cloths_86 : decode cX10_cloths 86 = .ok (.goto (-31), 3) := by decide +kernel
theorem dX10_cloths_89 : decode cX10_cloths 89 = .ok (.iconst 0, 1) := by decide +kernel
theorem dX10_cloths_90 : decode cX10_cloths 90 = .ok (.istore_n 3, 1) := by decide +kernel
theorem dX10_cloths_91 : decode cX10_cloths 91 = .ok (.iload_n 3, 1) := by decide +kernel
theorem dX10_cloths_92 : decode cX10_cloths 92 = .ok (.bipush 20, 2) := by decide +kernel
theorem dX10_cloths_94 : decode cX10_cloths 94 = .ok (.if_icmp .ge 19, 3) := by decide +kernel
theorem dX10_cloths_97 : decode cX10_cloths 97 = .ok (.aload_n 0, 1) := by decide +kernel
theorem dX10_cloths_98 : decode cX10_cloths 98 = .ok (.getfield 7, 3) := by decide +kernel
theorem dX10_cloths_101 : decode cX10_cloths 101 = .ok (.bipush 71, 2) := by decide +kernel
theorem dX10_cloths_103 : decode cX10_cloths 103 = .ok (.iload_n 3, 1) := by decide +kernel
theorem dX10_cloths_104 : decode cX10_cloths 104 = .ok (.iadd, 1) := by decide +kernel
theorem dX10_cloths_105 : decode cX10_cloths 105 = .ok (.iconst (-1), 1) := by decide +kernel
theorem dX10_cloths_106 : decode cX10_cloths 106 = .ok (.iastore, 1) := by decide +kernel
theorem dX10_cloths_107 : decode cX10_cloths 107 = .ok (.iinc 3 1, 3) := by decide +kernel
theorem dX10_cloths_110 : decode cX10_cloths 110 = .ok (.goto (-19), 3) := by decide +kernel
theorem dX10_cloths_113 : decode cX10_cloths 113 = .ok (.iconst 0, 1) := by decide +kernel
theorem dX10_cloths_114 : decode cX10_cloths 114 = .ok (.ireturn, 1) := by decide +kernel
theorem dX10_fills_0 : decode cX10_fills 0 = .ok (.aload_n 0, 1) := by decide +kernel
theorem dX10_fills_1 : decode cX10_fills 1 = .ok (.iload_n 1, 1) := by decide +kernel
theorem dX10_fills_2 : decode cX10_fills 2 = .ok (.iload_n 2, 1) := by decide +kernel
theorem dX10_fills_3 : decode cX10_fills 3 = .ok (.invokevirtual 131, 3) := by decide +kernel
theorem dX10_fills_6 : decode cX10_fills 6 = .ok (.ifCond .eq 13, 3) := by decide +kernel
theorem dX10_fills_9 : decode cX10_fills 9 = .ok (.aload_n 0, 1) := by decide +kernel
theorem dX10_fills_10 : decode cX10_fills 10 = .ok (.iload_n 3, 1) := by decide +kernel
theorem dX10_fills_11 : decode cX10_fills 11 = .ok (.iload 4, 2) := by decide +kernel
theorem dX10_fills_13 : decode cX10_fills 13 = .ok (.invokevirtual 131, 3) := by decide +kernel
theorem dX10_fills_16 : decode cX10_fills 16 = .ok (.ifCond .ne 5, 3) := by decide +kernel
theorem dX10_fills_19 : decode cX10_fills 19 = .ok (.iconst 1, 1) := by decide +kernel
theorem dX10_fills_20 : decode cX10_fills 20 = .ok (.ireturn, 1) := by decide +kernel
theorem dX10_fills_21 : decode cX10_fills 21 = .ok (.iload_n 3, 1) := by decide +kernel
theorem dX10_fills_22 : decode cX10_fills 22 = .ok (.iload_n 1, 1) := by decide +kernel
theorem dX10_fills_23 : decode cX10_fills 23 = .ok (.if_icmp .lt 20, 3) := by decide +kernel
theorem dX10_fills_26 : decode cX10_fills 26 = .ok (.iload 4, 2) := by decide +kernel
theorem dX10_fills_28 : decode cX10_fills 28 = .ok (.iload_n 2, 1) := by decide +kernel
theorem dX10_fills_29 : decode cX10_fills 29 = .ok (.if_icmp .lt 14, 3) := by decide +kernel
theorem dX10_fills_32 : decode cX10_fills 32 = .ok (.iload 5, 2) := by decide +kernel
theorem dX10_fills_34 : decode cX10_fills 34 = .ok (.iconst 0, 1) := by decide +kernel
theorem dX10_fills_35 : decode cX10_fills 35 = .ok (.bipush 7, 2) := by decide +kernel
theorem dX10_fills_37 : decode cX10_fills 37 = .ok (.invokestatic 56, 3) := by decide +kernel
theorem dX10_fills_40 : decode cX10_fills 40 = .ok (.ifCond .ne 5, 3) := by decide +kernel
theorem dX10_fills_43 : decode cX10_fills 43 = .ok (.iconst 2, 1) := by decide +kernel
theorem dX10_fills_44 : decode cX10_fills 44 = .ok (.ireturn, 1) := by decide +kernel
theorem dX10_fills_45 : decode cX10_fills 45 = .ok (.aload_n 0, 1) := by decide +kernel
theorem dX10_fills_46 : decode cX10_fills 46 = .ok (.iconst 0, 1) := by decide +kernel
theorem dX10_fills_47 : decode cX10_fills 47 = .ok (.putfield 128, 3) := by decide +kernel
theorem dX10_fills_50 : decode cX10_fills 50 = .ok (.iload_n 2, 1) := by decide +kernel
theorem dX10_fills_51 : decode cX10_fills 51 = .ok (.istore 6, 2) := by decide +kernel
theorem dX10_fills_53 : decode cX10_fills 53 = .ok (.iload 6, 2) := by decide +kernel
theorem dX10_fills_55 : decode cX10_fills 55 = .ok (.iload 4, 2) := by decide +kernel
theorem dX10_fills_57 : decode cX10_fills 57 = .ok (.if_icmp .gt 77, 3) := by decide +kernel
theorem dX10_fills_60 : decode cX10_fills 60 = .ok (.iload_n 1, 1) := by decide +kernel
theorem dX10_fills_61 : decode cX10_fills 61 = .ok (.istore 7, 2) := by decide +kernel
theorem dX10_fills_63 : decode cX10_fills 63 = .ok (.iload 7, 2) := by decide +kernel
theorem dX10_fills_65 : decode cX10_fills 65 = .ok (.iload_n 3, 1) := by decide +kernel
theorem dX10_fills_66 : decode cX10_fills 66 = .ok (.if_icmp .gt 62, 3) := by decide +kernel
theorem dX10_fills_69 : decode cX10_fills 69 = .ok (.aload_n 0, 1) := by decide +kernel
theorem dX10_fills_70 : decode cX10_fills 70 = .ok (.dup, 1) := by decide +kernel
theorem dX10_fills_71 : decode cX10_fills 71 = .ok (.getfield 128, 3) := by decide +kernel
theorem dX10_fills_74 : decode cX10_fills 74 = .ok (.aload_n 0, 1) := by decide +kernel
theorem dX10_fills_75 : decode cX10_fills 75 = .ok (.getfield 7, 3) := by decide +kernel
theorem dX10_fills_78 : decode cX10_fills 78 = .ok (.bipush 91, 2) := by decide +kernel
theorem dX10_fills_80 : decode cX10_fills 80 = .ok (.bipush 20, 2) := by decide +kernel
theorem dX10_fills_82 : decode cX10_fills 82 = .ok (.iload 6, 2) := by decide +kernel
theorem dX10_fills_84 : decode cX10_fills 84 = .ok (.imul, 1) := by decide +kernel
theorem dX10_fills_85 : decode cX10_fills 85 = .ok (.iadd, 1) := by decide +kernel
theorem dX10_fills_86 : decode cX10_fills 86 = .ok (.iload 7, 2) := by decide +kernel
theorem dX10_fills_88 : decode cX10_fills 88 = .ok (.iadd, 1) := by decide +kernel
theorem dX10_fills_89 : decode cX10_fills 89 = .ok (.iaload, 1) := by decide +kernel
theorem dX10_fills_90 : decode cX10_fills 90 = .ok (.iload 5, 2) := by decide +kernel
theorem dX10_fills_92 : decode cX10_fills 92 = .ok (.if_icmp .ne 7, 3) := by decide +kernel
theorem dX10_fills_95 : decode cX10_fills 95 = .ok (.iconst 0, 1) := by decide +kernel
theorem dX10_fills_96 : decode cX10_fills 96 = .ok (.goto 4, 3) := by decide +kernel
theorem dX10_fills_99 : decode cX10_fills 99 = .ok (.iconst 1, 1) := by decide +kernel
theorem dX10_fills_100 : decode cX10_fills 100 = .ok (.iadd, 1) := by decide +kernel
theorem dX10_fills_101 : decode cX10_fills 101 = .ok (.putfield 128, 3) := by decide +kernel
theorem dX10_fills_104 : decode cX10_fills 104 = .ok (.aload_n 0, 1) := by decide +kernel
theorem dX10_fills_105 : decode cX10_fills 105 = .ok (.getfield 7, 3) := by decide +kernel
theorem dX10_fills_108 : decode cX10_fills 108 = .ok (.bipush 91, 2) := by decide +kernel
theorem dX10_fills_110 : decode cX10_fills 110 = .ok (.bipush 20, 2) := by decide +kernel
theorem dX10_fills_112 : decode cX10_fills 112 = .ok (.iload 6, 2) := by decide +kernel
theorem dX10_fills_114 : decode cX10_fills 114 = .ok (.imul, 1) := by decide +kernel
theorem dX10_fills_115 : decode cX10_fills 115 = .ok (.iadd, 1) := by decide +kernel
theorem dX10_fills_116 : decode cX10_fills 116 = .ok (.iload 7, 2) := by decide +kernel
theorem dX10_fills_118 : decode cX10_fills 118 = .ok (.iadd, 1) := by decide +kernel
theorem dX10_fills_119 : decode cX10_fills 119 = .ok (.iload 5, 2) := by decide +kernel
theorem dX10_fills_121 : decode cX10_fills 121 = .ok (.iastore, 1) := by decide +kernel
theorem dX10_fills_122 : decode cX10_fills 122 = .ok (.iinc 7 1, 3) := by decide +kernel
theorem dX10_fills_125 : decode cX10_fills 125 = .ok (.goto (-62), 3) := by decide +kernel
theorem dX10_fills_128 : decode cX10_fills 128 = .ok (.iinc 6 1, 3) := by decide +kernel
theorem dX10_fills_131 : decode cX10_fills 131 = .ok (.goto (-78), 3) := by decide +kernel
theorem dX10_fills_134 : decode cX10_fills 134 = .ok (.iconst 0, 1) := by decide +kernel
theorem dX10_fills_135 : decode cX10_fills 135 = .ok (.ireturn, 1) := by decide +kernel
theorem dX10_adds_0 : decode cX10_adds 0 = .ok (.iload_n 1, 1) := by decide +kernel
theorem dX10_adds_1 : decode cX10_adds 1 = .ok (.iconst 0, 1) := by decide +kernel
theorem dX10_adds_2 : decode cX10_adds 2 = .ok (.bipush 7, 2) := by decide +kernel
theorem dX10_adds_4 : decode cX10_adds 4 = .ok (.invokestatic 56, 3) := by decide +kernel
theorem dX10_adds_7 : decode cX10_adds 7 = .ok (.ifCond .eq 21, 3) := by decide +kernel
theorem dX10_adds_10 : decode cX10_adds 10 = .ok (.iload_n 2, 1) := by decide +kernel
theorem dX10_adds_11 : decode cX10_adds 11 = .ok (.iconst 1, 1) := by decide +kernel
theorem dX10_adds_12 : decode cX10_adds 12 = .ok (.sipush 999, 3) := by decide +kernel
theorem dX10_adds_15 : decode cX10_adds 15 = .ok (.invokestatic 56, 3) := by decide +kernel
theorem dX10_adds_18 : decode cX10_adds 18 = .ok (.ifCond .eq 10, 3) := by decide +kernel
theorem dX10_adds_21 : decode cX10_adds 21 = .ok (.iload_n 3, 1) := by decide +kernel
theorem dX10_adds_22 : decode cX10_adds 22 = .ok (.invokestatic 134, 3) := by decide +kernel
theorem dX10_adds_25 : decode cX10_adds 25 = .ok (.ifCond .ne 5, 3) := by decide +kernel
theorem dX10_adds_28 : decode cX10_adds 28 = .ok (.iconst 1, 1) := by decide +kernel
theorem dX10_adds_29 : decode cX10_adds 29 = .ok (.ireturn, 1) := by decide +kernel
theorem dX10_adds_30 : decode cX10_adds 30 = .ok (.aload_n 0, 1) := by decide +kernel
theorem dX10_adds_31 : decode cX10_adds 31 = .ok (.getfield 7, 3) := by decide +kernel
theorem dX10_adds_34 : decode cX10_adds 34 = .ok (.iconst 3, 1) := by decide +kernel
theorem dX10_adds_35 : decode cX10_adds 35 = .ok (.iaload, 1) := by decide +kernel
theorem dX10_adds_36 : decode cX10_adds 36 = .ok (.bipush 16, 2) := by decide +kernel
theorem dX10_adds_38 : decode cX10_adds 38 = .ok (.if_icmp .ne 5, 3) := by decide +kernel
theorem dX10_adds_41 : decode cX10_adds 41 = .ok (.iconst 2, 1) := by decide +kernel
theorem dX10_adds_42 : decode cX10_adds 42 = .ok (.ireturn, 1) := by decide +kernel
theorem dX10_adds_43 : decode cX10_adds 43 = .ok (.aload_n 0, 1) := by decide +kernel
theorem dX10_adds_44 : decode cX10_adds 44 = .ok (.aload_n 0, 1) := by decide +kernel
theorem dX10_adds_45 : decode cX10_adds 45 = .ok (.getfield 7, 3) := by decide +kernel
theorem dX10_adds_48 : decode cX10_adds 48 = .ok (.iconst 3, 1) := by decide +kernel
theorem dX10_adds_49 : decode cX10_adds 49 = .ok (.iaload, 1) := by decide +kernel
theorem dX10_adds_50 : decode cX10_adds 50 = .ok (.putfield 128, 3) := by decide +kernel
theorem dX10_adds_53 : decode cX10_adds 53 = .ok (.bipush 7, 2) := by decide +kernel
theorem dX10_adds_55 : decode cX10_adds 55 = .ok (.iconst 4, 1) := by decide +kernel
theorem dX10_adds_56 : decode cX10_adds 56 = .ok (.aload_n 0, 1) := by decide +kernel
theorem dX10_adds_57 : decode cX10_adds 57 = .ok (.getfield 7, 3) := by decide +kernel
theorem dX10_adds_60 : decode cX10_adds 60 = .ok (.iconst 3, 1) := by decide +kernel
theorem dX10_adds_61 : decode cX10_adds 61 = .ok (.iaload, 1) := by decide +kernel
theorem dX10_adds_62 : decode cX10_adds 62 = .ok (.imul, 1) := by decide +kernel
theorem dX10_adds_63 : decode cX10_adds 63 = .ok (.iadd, 1) := by decide +kernel
theorem dX10_adds_64 : decode cX10_adds 64 = .ok (.istore 4, 2) := by decide +kernel
theorem dX10_adds_66 : decode cX10_adds 66 = .ok (.aload_n 0, 1) := by decide +kernel
theorem dX10_adds_67 : decode cX10_adds 67 = .ok (.getfield 7, 3) := by decide +kernel
theorem dX10_adds_70 : decode cX10_adds 70 = .ok (.iload 4, 2) := by decide +kernel
theorem dX10_adds_72 : decode cX10_adds 72 = .ok (.iload_n 1, 1) := by decide +kernel
theorem dX10_adds_73 : decode cX10_adds 73 = .ok (.iastore, 1) := by decide +kernel
theorem dX10_adds_74 : decode cX10_adds 74 = .ok (.aload_n 0, 1) := by decide +kernel
theorem dX10_adds_75 : decode cX10_adds 75 = .ok (.getfield 7, 3) := by decide +kernel
theorem dX10_adds_78 : decode cX10_adds 78 = .ok (.iload 4, 2) := by decide +kernel
theorem dX10_adds_80 : decode cX10_adds 80 = .ok (.iconst 1, 1) := by decide +kernel
theorem dX10_adds_81 : decode cX10_adds 81 = .ok (.iadd, 1) := by decide +kernel
theorem dX10_adds_82 : decode cX10_adds 82 = .ok (.iload_n 2, 1) := by decide +kernel
theorem dX10_adds_83 : decode cX10_adds 83 = .ok (.iastore, 1) := by decide +kernel
theorem dX10_adds_84 : decode cX10_adds 84 = .ok (.aload_n 0, 1) := by decide +kernel
theorem dX10_adds_85 : decode cX10_adds 85 = .ok (.getfield 7, 3) := by decide +kernel
theorem dX10_adds_88 : decode cX10_adds 88 = .ok (.iload 4, 2) := by decide +kernel
theorem dX10_adds_90 : decode cX10_adds 90 = .ok (.iconst 2, 1) := by decide +kernel
theorem dX10_adds_91 : decode cX10_adds 91 = .ok (.iadd, 1) := by decide +kernel
theorem dX10_adds_92 : decode cX10_adds 92 = .ok (.iload_n 2, 1) := by decide +kernel
theorem dX10_adds_93 : decode cX10_adds 93 = .ok (.iastore, 1) := by decide +kernel
theorem dX10_adds_94 : decode cX10_adds 94 = .ok (.aload_n 0, 1) := by decide +kernel
theorem dX10_adds_95 : decode cX10_adds 95 = .ok (.getfield 7, 3) := by decide +kernel
theorem dX10_adds_98 : decode cX10_adds 98 = .ok (.iload 4, 2) := by decide +kernel
theorem dX10_adds_100 : decode cX10_adds 100 = .ok (.iconst 3, 1) := by decide +kernel
theorem dX10_adds_101 : decode cX10_adds 101 = .ok (.iadd, 1) := by decide +kernel
theorem dX10_adds_102 : decode cX10_adds 102 = .ok (.iload_n 3, 1) := by decide +kernel
theorem dX10_adds_103 : decode cX10_adds 103 = .ok (.iastore, 1) := by decide +kernel
theorem dX10_adds_104 : decode cX10_adds 104 = .ok (.aload_n 0, 1) := by decide +kernel
theorem dX10_adds_105 : decode cX10_adds 105 = .ok (.getfield 7, 3) := by decide +kernel
theorem dX10_adds_108 : decode cX10_adds 108 = .ok (.iconst 3, 1) := by decide +kernel
theorem dX10_adds_109 : decode cX10_adds 109 = .ok (.dup2, 1) := by decide +kernel
theorem dX10_adds_110 : decode cX10_adds 110 = .ok (.iaload, 1) := by decide +kernel
theorem dX10_adds_111 : decode cX10_adds 111 = .ok (.iconst 1, 1) := by decide +kernel
theorem dX10_adds_112 : decode cX10_adds 112 = .ok (.iadd, 1) := by decide +kernel
theorem dX10_adds_113 : decode cX10_adds 113 = .ok (.iastore, 1) := by decide +kernel
theorem dX10_adds_114 : decode cX10_adds 114 = .ok (.iconst 0, 1) := by decide +kernel
theorem dX10_adds_115 : decode cX10_adds 115 = .ok (.ireturn, 1) := by decide +kernel
theorem dX10_limits_0 : decode cX10_limits 0 = .ok (.iload_n 1, 1) := by decide +kernel
theorem dX10_limits_1 : decode cX10_limits 1 = .ok (.iconst 1, 1) := by decide +kernel
theorem dX10_limits_2 : decode cX10_limits 2 = .ok (.bipush 16, 2) := by decide +kernel
theorem dX10_limits_4 : decode cX10_limits 4 = .ok (.invokestatic 56, 3) := by decide +kernel
theorem dX10_limits_7 : decode cX10_limits 7 = .ok (.ifCond .ne 5, 3) := by decide +kernel
theorem dX10_limits_10 : decode cX10_limits 10 = .ok (.iconst 1, 1) := by decide +kernel
theorem dX10_limits_11 : decode cX10_limits 11 = .ok (.ireturn, 1) := by decide +kernel
theorem dX10_limits_12 : decode cX10_limits 12 = .ok (.aload_n 0, 1) := by decide +kernel
theorem dX10_limits_13 : decode cX10_limits 13 = .ok (.aload_n 0, 1) := by decide +kernel
theorem dX10_limits_14 : decode cX10_limits 14 = .ok (.getfield 7, 3) := by decide +kernel
theorem dX10_limits_17 : decode cX10_limits 17 = .ok (.iconst 4, 1) := by decide +kernel
theorem dX10_limits_18 : decode cX10_limits 18 = .ok (.iaload, 1) := by decide +kernel
theorem dX10_limits_19 : decode cX10_limits 19 = .ok (.putfield 128, 3) := by decide +kernel
theorem dX10_limits_22 : decode cX10_limits 22 = .ok (.aload_n 0, 1) := by decide +kernel
theorem dX10_limits_23 : decode cX10_limits 23 = .ok (.getfield 7, 3) := by decide +kernel
theorem dX10_limits_26 : decode cX10_limits 26 = .ok (.iconst 4, 1) := by decide +kernel
theorem dX10_limits_27 : decode cX10_limits 27 = .ok (.iload_n 1, 1) := by decide +kernel
theorem dX10_limits_28 : decode cX10_limits 28 = .ok (.iastore, 1) := by decide +kernel
theorem dX10_limits_29 : decode cX10_limits 29 = .ok (.aload_n 0, 1) := by decide +kernel
theorem dX10_limits_30 : decode cX10_limits 30 = .ok (.invokevirtual 137, 3) := by decide +kernel
theorem dX10_limits_33 : decode cX10_limits 33 = .ok (.iconst 0, 1) := by decide +kernel
theorem dX10_limits_34 : decode cX10_limits 34 = .ok (.ireturn, 1) := by decide +kernel
theorem dX10_planted_0 : decode cX10_planted 0 = .ok (.iconst 0, 1) := by decide +kernel
theorem dX10_planted_1 : decode cX10_planted 1 = .ok (.istore_n 1, 1) := by decide +kernel
theorem dX10_planted_2 : decode cX10_planted 2 = .ok (.iconst 0, 1) := by decide +kernel
theorem dX10_planted_3 : decode cX10_planted 3 = .ok (.istore_n 2, 1) := by decide +kernel
theorem dX10_planted_4 : decode cX10_planted 4 = .ok (.iload_n 2, 1) := by decide +kernel
theorem dX10_planted_5 : decode cX10_planted 5 = .ok (.aload_n 0, 1) := by decide +kernel
theorem dX10_planted_6 : decode cX10_planted 6 = .ok (.getfield 7, 3) := by decide +kernel
theorem dX10_planted_9 : decode cX10_planted 9 = .ok (.iconst 0, 1) := by decide +kernel
theorem dX10_planted_10 : decode cX10_planted 10 = .ok (.iaload, 1) := by decide +kernel
theorem dX10_planted_11 : decode cX10_planted 11 = .ok (.if_icmp .ge 29, 3) := by decide +kernel
theorem dX10_planted_14 : decode cX10_planted 14 = .ok (.iload_n 1, 1) := by decide +kernel
theorem dX10_planted_15 : decode cX10_planted 15 = .ok (.aload_n 0, 1) := by decide +kernel
theorem dX10_planted_16 : decode cX10_planted 16 = .ok (.getfield 7, 3) := by decide +kernel
theorem dX10_planted_19 : decode cX10_planted 19 = .ok (.bipush 71, 2) := by decide +kernel
theorem dX10_planted_21 : decode cX10_planted 21 = .ok (.iload_n 2, 1) := by decide +kernel
theorem dX10_planted_22 : decode cX10_planted 22 = .ok (.iadd, 1) := by decide +kernel
theorem dX10_planted_23 : decode cX10_planted 23 = .ok (.iaload, 1) := by decide +kernel
theorem dX10_planted_24 : decode cX10_planted 24 = .ok (.ifCond .ge 7, 3) := by decide +kernel
theorem dX10_planted_27 : decode cX10_planted 27 = .ok (.iconst 0, 1) := by decide +kernel
theorem dX10_planted_28 : decode cX10_planted 28 = .ok (.goto 4, 3) := by decide +kernel
theorem dX10_planted_31 : decode cX10_planted 31 = .ok (.iconst 1, 1) := by decide +kernel
theorem dX10_planted_32 : decode cX10_planted 32 = .ok (.iadd, 1) := by decide +kernel
theorem dX10_planted_33 : decode cX10_planted 33 = .ok (.istore_n 1, 1) := by decide +kernel
theorem dX10_planted_34 : decode cX10_planted 34 = .ok (.iinc 2 1, 3) := by decide +kernel
theorem dX10_planted_37 : decode cX10_planted 37 = .ok (.goto (-33), 3) := by decide +kernel
theorem dX10_planted_40 : decode cX10_planted 40 = .ok (.iload_n 1, 1) := by decide +kernel
theorem dX10_planted_41 : decode cX10_planted 41 = .ok (.ireturn, 1) := by decide +kernel
theorem dX10_plants_0 : decode cX10_plants 0 = .ok (.iload_n 1, 1) := by decide +kernel
theorem dX10_plants_1 : decode cX10_plants 1 = .ok (.iconst 0, 1) := by decide +kernel
theorem dX10_plants_2 : decode cX10_plants 2 = .ok (.aload_n 0, 1) := by decide +kernel
theorem dX10_plants_3 : decode cX10_plants 3 = .ok (.getfield 7, 3) := by decide +kernel
theorem dX10_plants_6 : decode cX10_plants 6 = .ok (.iconst 0, 1) := by decide +kernel
theorem dX10_plants_7 : decode cX10_plants 7 = .ok (.iaload, 1) := by decide +kernel
theorem dX10_plants_8 : decode cX10_plants 8 = .ok (.iconst 1, 1) := by decide +kernel
theorem dX10_plants_9 : decode cX10_plants 9 = .ok (.isub, 1) := by decide +kernel
theorem dX10_plants_10 : decode cX10_plants 10 = .ok (.invokestatic 56, 3) := by decide +kernel
theorem dX10_plants_13 : decode cX10_plants 13 = .ok (.ifCond .ne 5, 3) := by decide +kernel
theorem dX10_plants_16 : decode cX10_plants 16 = .ok (.iconst 1, 1) := by decide +kernel
theorem dX10_plants_17 : decode cX10_plants 17 = .ok (.ireturn, 1) := by decide +kernel
theorem dX10_plants_18 : decode cX10_plants 18 = .ok (.iload_n 2, 1) := by decide +kernel
theorem dX10_plants_19 : decode cX10_plants 19 = .ok (.iconst 0, 1) := by decide +kernel
theorem dX10_plants_20 : decode cX10_plants 20 = .ok (.bipush 7, 2) := by decide +kernel
theorem dX10_plants_22 : decode cX10_plants 22 = .ok (.invokestatic 56, 3) := by decide +kernel
theorem dX10_plants_25 : decode cX10_plants 25 = .ok (.ifCond .ne 5, 3) := by decide +kernel
theorem dX10_plants_28 : decode cX10_plants 28 = .ok (.iconst 2, 1) := by decide +kernel
theorem dX10_plants_29 : decode cX10_plants 29 = .ok (.ireturn, 1) := by decide +kernel
theorem dX10_plants_30 : decode cX10_plants 30 = .ok (.aload_n 0, 1) := by decide +kernel
theorem dX10_plants_31 : decode cX10_plants 31 = .ok (.getfield 7, 3) := by decide +kernel
theorem dX10_plants_34 : decode cX10_plants 34 = .ok (.bipush 71, 2) := by decide +kernel
theorem dX10_plants_36 : decode cX10_plants 36 = .ok (.iload_n 1, 1) := by decide +kernel
theorem dX10_plants_37 : decode cX10_plants 37 = .ok (.iadd, 1) := by decide +kernel
theorem dX10_plants_38 : decode cX10_plants 38 = .ok (.iload_n 2, 1) := by decide +kernel
theorem dX10_plants_39 : decode cX10_plants 39 = .ok (.iastore, 1) := by decide +kernel
theorem dX10_plants_40 : decode cX10_plants 40 = .ok (.aload_n 0, 1) := by decide +kernel
theorem dX10_plants_41 : decode cX10_plants 41 = .ok (.aload_n 0, 1) := by decide +kernel
theorem dX10_plants_42 : decode cX10_plants 42 = .ok (.invokevirtual 140, 3) := by decide +kernel
theorem dX10_plants_45 : decode cX10_plants 45 = .ok (.putfield 128, 3) := by decide +kernel
theorem dX10_plants_48 : decode cX10_plants 48 = .ok (.iconst 0, 1) := by decide +kernel
theorem dX10_plants_49 : decode cX10_plants 49 = .ok (.ireturn, 1) := by decide +kernel
theorem dX10_weaves_0 : decode cX10_weaves 0 = .ok (.iload_n 1, 1) := by decide +kernel
theorem dX10_weaves_1 : decode cX10_weaves 1 = .ok (.iconst 1, 1) := by decide +kernel
theorem dX10_weaves_2 : decode cX10_weaves 2 = .ok (.bipush 16, 2) := by decide +kernel
theorem dX10_weaves_4 : decode cX10_weaves 4 = .ok (.invokestatic 56, 3) := by decide +kernel
theorem dX10_weaves_7 : decode cX10_weaves 7 = .ok (.ifCond .ne 5, 3) := by decide +kernel
theorem dX10_weaves_10 : decode cX10_weaves 10 = .ok (.iconst 1, 1) := by decide +kernel
theorem dX10_weaves_11 : decode cX10_weaves 11 = .ok (.ireturn, 1) := by decide +kernel
theorem dX10_weaves_12 : decode cX10_weaves 12 = .ok (.iconst 0, 1) := by decide +kernel
theorem dX10_weaves_13 : decode cX10_weaves 13 = .ok (.istore_n 2, 1) := by decide +kernel
theorem dX10_weaves_14 : decode cX10_weaves 14 = .ok (.iload_n 2, 1) := by decide +kernel
theorem dX10_weaves_15 : decode cX10_weaves 15 = .ok (.iload_n 1, 1) := by decide +kernel
theorem dX10_weaves_16 : decode cX10_weaves 16 = .ok (.if_icmp .ge 16, 3) := by decide +kernel
theorem dX10_weaves_19 : decode cX10_weaves 19 = .ok (.aload_n 0, 1) := by decide +kernel
theorem dX10_weaves_20 : decode cX10_weaves 20 = .ok (.invokevirtual 143, 3) := by decide +kernel
theorem dX10_weaves_23 : decode cX10_weaves 23 = .ok (.ifCond .eq 9, 3) := by decide +kernel
theorem dX10_weaves_26 : decode cX10_weaves 26 = .ok (.iinc 2 1, 3) := by decide +kernel
theorem dX10_weaves_29 : decode cX10_weaves 29 = .ok (.goto (-15), 3) := by decide +kernel
theorem dX10_weaves_32 : decode cX10_weaves 32 = .ok (.aload_n 0, 1) := by decide +kernel
theorem dX10_weaves_33 : decode cX10_weaves 33 = .ok (.iload_n 2, 1) := by decide +kernel
theorem dX10_weaves_34 : decode cX10_weaves 34 = .ok (.putfield 128, 3) := by decide +kernel
theorem dX10_weaves_37 : decode cX10_weaves 37 = .ok (.iconst 0, 1) := by decide +kernel
theorem dX10_weaves_38 : decode cX10_weaves 38 = .ok (.ireturn, 1) := by decide +kernel
theorem dX10_unweaves_0 : decode cX10_unweaves 0 = .ok (.iload_n 1, 1) := by decide +kernel
theorem dX10_unweaves_1 : decode cX10_unweaves 1 = .ok (.iconst 1, 1) := by decide +kernel
theorem dX10_unweaves_2 : decode cX10_unweaves 2 = .ok (.bipush 16, 2) := by decide +kernel
theorem dX10_unweaves_4 : decode cX10_unweaves 4 = .ok (.invokestatic 56, 3) := by decide +kernel
theorem dX10_unweaves_7 : decode cX10_unweaves 7 = .ok (.ifCond .ne 5, 3) := by decide +kernel
theorem dX10_unweaves_10 : decode cX10_unweaves 10 = .ok (.iconst 1, 1) := by decide +kernel
theorem dX10_unweaves_11 : decode cX10_unweaves 11 = .ok (.ireturn, 1) := by decide +kernel
theorem dX10_unweaves_12 : decode cX10_unweaves 12 = .ok (.aload_n 0, 1) := by decide +kernel
theorem dX10_unweaves_13 : decode cX10_unweaves 13 = .ok (.getfield 7, 3) := by decide +kernel
theorem dX10_unweaves_16 : decode cX10_unweaves 16 = .ok (.iconst 2, 1) := by decide +kernel
theorem dX10_unweaves_17 : decode cX10_unweaves 17 = .ok (.iaload, 1) := by decide +kernel
theorem dX10_unweaves_18 : decode cX10_unweaves 18 = .ok (.iload_n 1, 1) := by decide +kernel
theorem dX10_unweaves_19 : decode cX10_unweaves 19 = .ok (.if_icmp .ge 5, 3) := by decide +kernel
theorem dX10_unweaves_22 : decode cX10_unweaves 22 = .ok (.iconst 2, 1) := by decide +kernel
theorem dX10_unweaves_23 : decode cX10_unweaves 23 = .ok (.ireturn, 1) := by decide +kernel
theorem dX10_unweaves_24 : decode cX10_unweaves 24 = .ok (.aload_n 0, 1) := by decide +kernel
theorem dX10_unweaves_25 : decode cX10_unweaves 25 = .ok (.iload_n 1, 1) := by decide +kernel
theorem dX10_unweaves_26 : decode cX10_unweaves 26 = .ok (.aload_n 0, 1) := by decide +kernel
theorem dX10_unweaves_27 : decode cX10_unweaves 27 = .ok (.getfield 7, 3) := by decide +kernel
theorem dX10_unweaves_30 : decode cX10_unweaves 30 = .ok (.iconst 0, 1) := by decide +kernel
theorem dX10_unweaves_31 : decode cX10_unweaves 31 = .ok (.iaload, 1) := by decide +kernel
theorem dX10_unweaves_32 : decode cX10_unweaves 32 = .ok (.imul, 1) := by decide +kernel
theorem dX10_unweaves_33 : decode cX10_unweaves 33 = .ok (.putfield 128, 3) := by decide +kernel
theorem dX10_unweaves_36 : decode cX10_unweaves 36 = .ok (.aload_n 0, 1) := by decide +kernel
theorem dX10_unweaves_37 : decode cX10_unweaves 37 = .ok (.getfield 7, 3) := by decide +kernel
theorem dX10_unweaves_40 : decode cX10_unweaves 40 = .ok (.iconst 2, 1) := by decide +kernel
theorem dX10_unweaves_41 : decode cX10_unweaves 41 = .ok (.iaload, 1) := by decide +kernel
theorem dX10_unweaves_42 : decode cX10_unweaves 42 = .ok (.iload_n 1, 1) := by decide +kernel
theorem dX10_unweaves_43 : decode cX10_unweaves 43 = .ok (.isub, 1) := by decide +kernel
theorem dX10_unweaves_44 : decode cX10_unweaves 44 = .ok (.istore_n 2, 1) := by decide +kernel
theorem dX10_unweaves_45 : decode cX10_unweaves 45 = .ok (.iload_n 2, 1) := by decide +kernel
theorem dX10_unweaves_46 : decode cX10_unweaves 46 = .ok (.aload_n 0, 1) := by decide +kernel
theorem dX10_unweaves_47 : decode cX10_unweaves 47 = .ok (.getfield 7, 3) := by decide +kernel
theorem dX10_unweaves_50 : decode cX10_unweaves 50 = .ok (.iconst 2, 1) := by decide +kernel
theorem dX10_unweaves_51 : decode cX10_unweaves 51 = .ok (.iaload, 1) := by decide +kernel
theorem dX10_unweaves_52 : decode cX10_unweaves 52 = .ok (.if_icmp .ge 49, 3) := by decide +kernel
theorem dX10_unweaves_55 : decode cX10_unweaves 55 = .ok (.iconst 0, 1) := by decide +kernel
theorem dX10_unweaves_56 : decode cX10_unweaves 56 = .ok (.istore_n 3, 1) := by decide +kernel
theorem dX10_unweaves_57 : decode cX10_unweaves 57 = .ok (.iload_n 3, 1) := by decide +kernel
theorem dX10_unweaves_58 : decode cX10_unweaves 58 = .ok (.aload_n 0, 1) := by decide +kernel
theorem dX10_unweaves_59 : decode cX10_unweaves 59 = .ok (.getfield 7, 3) := by decide +kernel
theorem dX10_unweaves_62 : decode cX10_unweaves 62 = .ok (.iconst 0, 1) := by decide +kernel
theorem dX10_unweaves_63 : decode cX10_unweaves 63 = .ok (.iaload, 1) := by decide +kernel
theorem dX10_unweaves_64 : decode cX10_unweaves 64 = .ok (.if_icmp .ge 31, 3) := by decide +kernel
theorem dX10_unweaves_67 : decode cX10_unweaves 67 = .ok (.aload_n 0, 1) := by decide +kernel
theorem dX10_unweaves_68 : decode cX10_unweaves 68 = .ok (.getfield 7, 3) := by decide +kernel
theorem dX10_unweaves_71 : decode cX10_unweaves 71 = .ok (.bipush 7, 2) := by decide +kernel
theorem dX10_unweaves_73 : decode cX10_unweaves 73 = .ok (.iconst 4, 1) := by decide +kernel
theorem dX10_unweaves_74 : decode cX10_unweaves 74 = .ok (.aload_n 0, 1) := by decide +kernel
theorem dX10_unweaves_75 : decode cX10_unweaves 75 = .ok (.iload_n 2, 1) := by decide +kernel
theorem dX10_unweaves_76 : decode cX10_unweaves 76 = .ok (.iload_n 3, 1) := by decide +kernel
theorem dX10_unweaves_77 : decode cX10_unweaves 77 = .ok (.invokevirtual 105, 3) := by decide +kernel
theorem dX10_unweaves_80 : decode cX10_unweaves 80 = .ok (.imul, 1) := by decide +kernel
theorem dX10_unweaves_81 : decode cX10_unweaves 81 = .ok (.iadd, 1) := by decide +kernel
theorem dX10_unweaves_82 : decode cX10_unweaves 82 = .ok (.iconst 2, 1) := by decide +kernel
theorem dX10_unweaves_83 : decode cX10_unweaves 83 = .ok (.iadd, 1) := by decide +kernel
theorem dX10_unweaves_84 : decode cX10_unweaves 84 = .ok (.dup2, 1) := by decide +kernel
theorem dX10_unweaves_85 : decode cX10_unweaves 85 = .ok (.iaload, 1) := by decide +kernel
theorem dX10_unweaves_86 : decode cX10_unweaves 86 = .ok (.iconst 1, 1) := by decide +kernel
theorem dX10_unweaves_87 : decode cX10_unweaves 87 = .ok (.iadd, 1) := by decide +kernel
theorem dX10_unweaves_88 : decode cX10_unweaves 88 = .ok (.iastore, 1) := by decide +kernel
theorem dX10_unweaves_89 : decode cX10_unweaves 89 = .ok (.iinc 3 1, 3) := by decide +kernel
theorem dX10_unweaves_92 : decode cX10_unweaves 92 = .ok (.goto (-35), 3) := by decide +kernel
theorem dX10_unweaves_95 : decode cX10_unweaves 95 = .ok (.iinc 2 1, 3) := by decide +kernel
theorem dX10_unweaves_98 : decode cX10_unweaves 98 = .ok (.goto (-53), 3) := by decide +kernel
theorem dX10_unweaves_101 : decode cX10_unweaves 101 = .ok (.aload_n 0, 1) := by decide +kernel
theorem dX10_unweaves_102 : decode cX10_unweaves 102 = .ok (.getfield 7, 3) := by decide +kernel
theorem dX10_unweaves_105 : decode cX10_unweaves 105 = .ok (.iconst 2, 1) := by decide +kernel
theorem dX10_unweaves_106 : decode cX10_unweaves 106 = .ok (.dup2, 1) := by decide +kernel
theorem dX10_unweaves_107 : decode cX10_unweaves 107 = .ok (.iaload, 1) := by decide +kernel
theorem dX10_unweaves_108 : decode cX10_unweaves 108 = .ok (.iload_n 1, 1) := by decide +kernel
theorem dX10_unweaves_109 : decode cX10_unweaves 109 = .ok (.isub, 1) := by decide +kernel
theorem dX10_unweaves_110 : decode cX10_unweaves 110 = .ok (.iastore, 1) := by decide +kernel
theorem dX10_unweaves_111 : decode cX10_unweaves 111 = .ok (.aload_n 0, 1) := by decide +kernel
theorem dX10_unweaves_112 : decode cX10_unweaves 112 = .ok (.invokevirtual 137, 3) := by decide +kernel
theorem dX10_unweaves_115 : decode cX10_unweaves 115 = .ok (.iconst 0, 1) := by decide +kernel
theorem dX10_unweaves_116 : decode cX10_unweaves 116 = .ok (.ireturn, 1) := by decide +kernel
theorem dX10_sews_0 : decode cX10_sews 0 = .ok (.aload_n 0, 1) := by decide +kernel
theorem dX10_sews_1 : decode cX10_sews 1 = .ok (.aload_n 0, 1) := by decide +kernel
theorem dX10_sews_2 : decode cX10_sews 2 = .ok (.getfield 7, 3) := by decide +kernel
theorem dX10_sews_5 : decode cX10_sews 5 = .ok (.iconst 4, 1) := by decide +kernel
theorem dX10_sews_6 : decode cX10_sews 6 = .ok (.iaload, 1) := by decide +kernel
theorem dX10_sews_7 : decode cX10_sews 7 = .ok (.invokevirtual 122, 3) := by decide +kernel
theorem dX10_sews_10 : decode cX10_sews 10 = .ok (.iload_n 1, 1) := by decide +kernel
theorem dX10_sews_11 : decode cX10_sews 11 = .ok (.iconst 0, 1) := by decide +kernel
theorem dX10_sews_12 : decode cX10_sews 12 = .ok (.aload_n 0, 1) := by decide +kernel
theorem dX10_sews_13 : decode cX10_sews 13 = .ok (.getfield 115, 3) := by decide +kernel
theorem dX10_sews_16 : decode cX10_sews 16 = .ok (.iconst 1, 1) := by decide +kernel
theorem dX10_sews_17 : decode cX10_sews 17 = .ok (.isub, 1) := by decide +kernel
theorem dX10_sews_18 : decode cX10_sews 18 = .ok (.invokestatic 56, 3) := by decide +kernel
theorem dX10_sews_21 : decode cX10_sews 21 = .ok (.ifCond .ne 5, 3) := by decide +kernel
theorem dX10_sews_24 : decode cX10_sews 24 = .ok (.iconst 1, 1) := by decide +kernel
theorem dX10_sews_25 : decode cX10_sews 25 = .ok (.ireturn, 1) := by decide +kernel
theorem dX10_sews_26 : decode cX10_sews 26 = .ok (.aload_n 0, 1) := by decide +kernel
theorem dX10_sews_27 : decode cX10_sews 27 = .ok (.iload_n 1, 1) := by decide +kernel
theorem dX10_sews_28 : decode cX10_sews 28 = .ok (.invokevirtual 125, 3) := by decide +kernel
theorem dX10_sews_31 : decode cX10_sews 31 = .ok (.ifCond .eq 5, 3) := by decide +kernel
theorem dX10_sews_34 : decode cX10_sews 34 = .ok (.iconst 2, 1) := by decide +kernel
theorem dX10_sews_35 : decode cX10_sews 35 = .ok (.ireturn, 1) := by decide +kernel
theorem dX10_sews_36 : decode cX10_sews 36 = .ok (.aload_n 0, 1) := by decide +kernel
theorem dX10_sews_37 : decode cX10_sews 37 = .ok (.getfield 7, 3) := by decide +kernel
theorem dX10_sews_40 : decode cX10_sews 40 = .ok (.sipush 1051, 3) := by decide +kernel
theorem dX10_sews_43 : decode cX10_sews 43 = .ok (.bipush 16, 2) := by decide +kernel
theorem dX10_sews_45 : decode cX10_sews 45 = .ok (.aload_n 0, 1) := by decide +kernel
theorem dX10_sews_46 : decode cX10_sews 46 = .ok (.getfield 31, 3) := by decide +kernel
theorem dX10_sews_49 : decode cX10_sews 49 = .ok (.iload_n 1, 1) := by decide +kernel
theorem dX10_sews_50 : decode cX10_sews 50 = .ok (.iaload, 1) := by decide +kernel
theorem dX10_sews_51 : decode cX10_sews 51 = .ok (.imul, 1) := by decide +kernel
theorem dX10_sews_52 : decode cX10_sews 52 = .ok (.iadd, 1) := by decide +kernel
theorem dX10_sews_53 : decode cX10_sews 53 = .ok (.aload_n 0, 1) := by decide +kernel
theorem dX10_sews_54 : decode cX10_sews 54 = .ok (.getfield 34, 3) := by decide +kernel
theorem dX10_sews_57 : decode cX10_sews 57 = .ok (.iload_n 1, 1) := by decide +kernel
theorem dX10_sews_58 : decode cX10_sews 58 = .ok (.iaload, 1) := by decide +kernel
theorem dX10_sews_59 : decode cX10_sews 59 = .ok (.iadd, 1) := by decide +kernel
theorem dX10_sews_60 : decode cX10_sews 60 = .ok (.iconst 1, 1) := by decide +kernel
theorem dX10_sews_61 : decode cX10_sews 61 = .ok (.iastore, 1) := by decide +kernel
theorem dX10_sews_62 : decode cX10_sews 62 = .ok (.aload_n 0, 1) := by decide +kernel
theorem dX10_sews_63 : decode cX10_sews 63 = .ok (.aload_n 0, 1) := by decide +kernel
theorem dX10_sews_64 : decode cX10_sews 64 = .ok (.getfield 115, 3) := by decide +kernel
theorem dX10_sews_67 : decode cX10_sews 67 = .ok (.aload_n 0, 1) := by decide +kernel
theorem dX10_sews_68 : decode cX10_sews 68 = .ok (.invokevirtual 147, 3) := by decide +kernel
theorem dX10_sews_71 : decode cX10_sews 71 = .ok (.isub, 1) := by decide +kernel
theorem dX10_sews_72 : decode cX10_sews 72 = .ok (.putfield 128, 3) := by decide +kernel
theorem dX10_sews_75 : decode cX10_sews 75 = .ok (.iconst 0, 1) := by decide +kernel
theorem dX10_sews_76 : decode cX10_sews 76 = .ok (.ireturn, 1) := by decide +kernel
theorem dX10_ends_0 : decode cX10_ends 0 = .ok (.iload_n 1, 1) := by decide +kernel
theorem dX10_ends_1 : decode cX10_ends 1 = .ok (.ifCond .le 9, 3) := by decide +kernel
theorem dX10_ends_4 : decode cX10_ends 4 = .ok (.aload_n 0, 1) := by decide +kernel
theorem dX10_ends_5 : decode cX10_ends 5 = .ok (.iload_n 1, 1) := by decide +kernel
theorem dX10_ends_6 : decode cX10_ends 6 = .ok (.invokevirtual 150, 3) := by decide +kernel
theorem dX10_ends_9 : decode cX10_ends 9 = .ok (.ireturn, 1) := by decide +kernel
theorem dX10_ends_10 : decode cX10_ends 10 = .ok (.aload_n 0, 1) := by decide +kernel
theorem dX10_ends_11 : decode cX10_ends 11 = .ok (.invokevirtual 153, 3) := by decide +kernel
theorem dX10_ends_14 : decode cX10_ends 14 = .ok (.aload_n 0, 1) := by decide +kernel
theorem dX10_ends_15 : decode cX10_ends 15 = .ok (.aload_n 0, 1) := by decide +kernel
theorem dX10_ends_16 : decode cX10_ends 16 = .ok (.getfield 128, 3) := by decide +kernel
theorem dX10_ends_19 : decode cX10_ends 19 = .ok (.invokevirtual 156, 3) := by decide +kernel
theorem dX10_ends_22 : decode cX10_ends 22 = .ok (.ireturn, 1) := by decide +kernel
theorem dX10_begin_0 : decode cX10_begin 0 = .ok (.aload_n 0, 1) := by decide +kernel
theorem dX10_begin_1 : decode cX10_begin 1 = .ok (.invokevirtual 159, 3) := by decide +kernel
theorem dX10_begin_4 : decode cX10_begin 4 = .ok (.aload_n 0, 1) := by decide +kernel
theorem dX10_begin_5 : decode cX10_begin 5 = .ok (.aload_n 0, 1) := by decide +kernel
theorem dX10_begin_6 : decode cX10_begin 6 = .ok (.iload_n 1, 1) := by decide +kernel
theorem dX10_begin_7 : decode cX10_begin 7 = .ok (.iload_n 2, 1) := by decide +kernel
theorem dX10_begin_8 : decode cX10_begin 8 = .ok (.invokevirtual 162, 3) := by decide +kernel
theorem dX10_begin_11 : decode cX10_begin 11 = .ok (.invokevirtual 165, 3) := by decide +kernel
theorem dX10_begin_14 : decode cX10_begin 14 = .ok (.ireturn, 1) := by decide +kernel
theorem dX10_fill_0 : decode cX10_fill 0 = .ok (.aload_n 0, 1) := by decide +kernel
theorem dX10_fill_1 : decode cX10_fill 1 = .ok (.invokevirtual 159, 3) := by decide +kernel
theorem dX10_fill_4 : decode cX10_fill 4 = .ok (.aload_n 0, 1) := by decide +kernel
theorem dX10_fill_5 : decode cX10_fill 5 = .ok (.aload_n 0, 1) := by decide +kernel
theorem dX10_fill_6 : decode cX10_fill 6 = .ok (.iload_n 1, 1) := by decide +kernel
theorem dX10_fill_7 : decode cX10_fill 7 = .ok (.iload_n 2, 1) := by decide +kernel
theorem dX10_fill_8 : decode cX10_fill 8 = .ok (.iload_n 3, 1) := by decide +kernel
theorem dX10_fill_9 : decode cX10_fill 9 = .ok (.iload 4, 2) := by decide +kernel
theorem dX10_fill_11 : decode cX10_fill 11 = .ok (.iload 5, 2) := by decide +kernel
theorem dX10_fill_13 : decode cX10_fill 13 = .ok (.invokevirtual 168, 3) := by decide +kernel
theorem dX10_fill_16 : decode cX10_fill 16 = .ok (.invokevirtual 165, 3) := by decide +kernel
theorem dX10_fill_19 : decode cX10_fill 19 = .ok (.ireturn, 1) := by decide +kernel
theorem dX10_addLot_0 : decode cX10_addLot 0 = .ok (.aload_n 0, 1) := by decide +kernel
theorem dX10_addLot_1 : decode cX10_addLot 1 = .ok (.invokevirtual 159, 3) := by decide +kernel
theorem dX10_addLot_4 : decode cX10_addLot 4 = .ok (.aload_n 0, 1) := by decide +kernel
theorem dX10_addLot_5 : decode cX10_addLot 5 = .ok (.aload_n 0, 1) := by decide +kernel
theorem dX10_addLot_6 : decode cX10_addLot 6 = .ok (.iload_n 1, 1) := by decide +kernel
theorem dX10_addLot_7 : decode cX10_addLot 7 = .ok (.iload_n 2, 1) := by decide +kernel
theorem dX10_addLot_8 : decode cX10_addLot 8 = .ok (.iload_n 3, 1) := by decide +kernel
theorem dX10_addLot_9 : decode cX10_addLot 9 = .ok (.invokevirtual 172, 3) := by decide +kernel
theorem dX10_addLot_12 : decode cX10_addLot 12 = .ok (.invokevirtual 165, 3) := by decide +kernel
theorem dX10_addLot_15 : decode cX10_addLot 15 = .ok (.ireturn, 1) := by decide +kernel
theorem dX10_setTolerance_0 : decode cX10_setTolerance 0 = .ok (.iload_n 1, 1) := by decide +kernel
theorem dX10_setTolerance_1 : decode cX10_setTolerance 1 = .ok (.invokestatic 134, 3) := by decide +kernel
theorem dX10_setTolerance_4 : decode cX10_setTolerance 4 = .ok (.ifCond .ne 9, 3) := by decide +kernel
theorem dX10_setTolerance_7 : decode cX10_setTolerance 7 = .ok (.aload_n 0, 1) := by decide +kernel
theorem dX10_setTolerance_8 : decode cX10_setTolerance 8 = .ok (.iconst 1, 1) := by decide +kernel
theorem dX10_setTolerance_9 : decode cX10_setTolerance 9 = .ok (.invokevirtual 150, 3) := by decide +kernel
theorem dX10_setTolerance_12 : decode cX10_setTolerance 12 = .ok (.ireturn, 1) := by decide +kernel
theorem dX10_setTolerance_13 : decode cX10_setTolerance 13 = .ok (.aload_n 0, 1) := by decide +kernel
theorem dX10_setTolerance_14 : decode cX10_setTolerance 14 = .ok (.invokevirtual 159, 3) := by decide +kernel
theorem dX10_setTolerance_17 : decode cX10_setTolerance 17 = .ok (.aload_n 0, 1) := by decide +kernel
theorem dX10_setTolerance_18 : decode cX10_setTolerance 18 = .ok (.aload_n 0, 1) := by decide +kernel
theorem dX10_setTolerance_19 : decode cX10_setTolerance 19 = .ok (.getfield 7, 3) := by decide +kernel
theorem dX10_setTolerance_22 : decode cX10_setTolerance 22 = .ok (.iconst 5, 1) := by decide +kernel
theorem dX10_setTolerance_23 : decode cX10_setTolerance 23 = .ok (.iaload, 1) := by decide +kernel
theorem dX10_setTolerance_24 : decode cX10_setTolerance 24 = .ok (.putfield 128, 3) := by decide +kernel
theorem dX10_setTolerance_27 : decode cX10_setTolerance 27 = .ok (.aload_n 0, 1) := by decide +kernel
theorem dX10_setTolerance_28 : decode cX10_setTolerance 28 = .ok (.getfield 7, 3) := by decide +kernel
theorem dX10_setTolerance_31 : decode cX10_setTolerance 31 = .ok (.iconst 5, 1) := by decide +kernel
theorem dX10_setTolerance_32 : decode cX10_setTolerance 32 = .ok (.iload_n 1, 1) := by decide +kernel
theorem dX10_setTolerance_33 : decode cX10_setTolerance 33 = .ok (.iastore, 1) := by decide +kernel
theorem dX10_setTolerance_34 : decode cX10_setTolerance 34 = .ok (.aload_n 0, 1) := by decide +kernel
theorem dX10_setTolerance_35 : decode cX10_setTolerance 35 = .ok (.iconst 0, 1) := by decide +kernel
theorem dX10_setTolerance_36 : decode cX10_setTolerance 36 = .ok (.invokevirtual 165, 3) := by decide +kernel
theorem dX10_setTolerance_39 : decode cX10_setTolerance 39 = .ok (.ireturn, 1) := by decide +kernel
theorem dX10_setLimit_0 : decode cX10_setLimit 0 = .ok (.aload_n 0, 1) := by decide +kernel
theorem dX10_setLimit_1 : decode cX10_setLimit 1 = .ok (.invokevirtual 159, 3) := by decide +kernel
theorem dX10_setLimit_4 : decode cX10_setLimit 4 = .ok (.aload_n 0, 1) := by decide +kernel
theorem dX10_setLimit_5 : decode cX10_setLimit 5 = .ok (.aload_n 0, 1) := by decide +kernel
theorem dX10_setLimit_6 : decode cX10_setLimit 6 = .ok (.iload_n 1, 1) := by decide +kernel
theorem dX10_setLimit_7 : decode cX10_setLimit 7 = .ok (.invokevirtual 176, 3) := by decide +kernel
theorem dX10_setLimit_10 : decode cX10_setLimit 10 = .ok (.invokevirtual 165, 3) := by decide +kernel
theorem dX10_setLimit_13 : decode cX10_setLimit 13 = .ok (.ireturn, 1) := by decide +kernel
theorem dX10_plant_0 : decode cX10_plant 0 = .ok (.aload_n 0, 1) := by decide +kernel
theorem dX10_plant_1 : decode cX10_plant 1 = .ok (.invokevirtual 159, 3) := by decide +kernel
theorem dX10_plant_4 : decode cX10_plant 4 = .ok (.aload_n 0, 1) := by decide +kernel
theorem dX10_plant_5 : decode cX10_plant 5 = .ok (.aload_n 0, 1) := by decide +kernel
theorem dX10_plant_6 : decode cX10_plant 6 = .ok (.iload_n 1, 1) := by decide +kernel
theorem dX10_plant_7 : decode cX10_plant 7 = .ok (.iload_n 2, 1) := by decide +kernel
theorem dX10_plant_8 : decode cX10_plant 8 = .ok (.invokevirtual 179, 3) := by decide +kernel
theorem dX10_plant_11 : decode cX10_plant 11 = .ok (.invokevirtual 165, 3) := by decide +kernel
theorem dX10_plant_14 : decode cX10_plant 14 = .ok (.ireturn, 1) := by decide +kernel
theorem dX10_weave_0 : decode cX10_weave 0 = .ok (.aload_n 0, 1) := by decide +kernel
theorem dX10_weave_1 : decode cX10_weave 1 = .ok (.invokevirtual 159, 3) := by decide +kernel
theorem dX10_weave_4 : decode cX10_weave 4 = .ok (.aload_n 0, 1) := by decide +kernel
theorem dX10_weave_5 : decode cX10_weave 5 = .ok (.aload_n 0, 1) := by decide +kernel
theorem dX10_weave_6 : decode cX10_weave 6 = .ok (.iload_n 1, 1) := by decide +kernel
theorem dX10_weave_7 : decode cX10_weave 7 = .ok (.invokevirtual 182, 3) := by decide +kernel
theorem dX10_weave_10 : decode cX10_weave 10 = .ok (.invokevirtual 165, 3) := by decide +kernel
theorem dX10_weave_13 : decode cX10_weave 13 = .ok (.ireturn, 1) := by decide +kernel
theorem dX10_unweave_0 : decode cX10_unweave 0 = .ok (.aload_n 0, 1) := by decide +kernel
theorem dX10_unweave_1 : decode cX10_unweave 1 = .ok (.invokevirtual 159, 3) := by decide +kernel
theorem dX10_unweave_4 : decode cX10_unweave 4 = .ok (.aload_n 0, 1) := by decide +kernel
theorem dX10_unweave_5 : decode cX10_unweave 5 = .ok (.aload_n 0, 1) := by decide +kernel
theorem dX10_unweave_6 : decode cX10_unweave 6 = .ok (.iload_n 1, 1) := by decide +kernel
theorem dX10_unweave_7 : decode cX10_unweave 7 = .ok (.invokevirtual 185, 3) := by decide +kernel
theorem dX10_unweave_10 : decode cX10_unweave 10 = .ok (.invokevirtual 165, 3) := by decide +kernel
theorem dX10_unweave_13 : decode cX10_unweave 13 = .ok (.ireturn, 1) := by decide +kernel
theorem dX10_sew_0 : decode cX10_sew 0 = .ok (.aload_n 0, 1) := by decide +kernel
theorem dX10_sew_1 : decode cX10_sew 1 = .ok (.invokevirtual 159, 3) := by decide +kernel
theorem dX10_sew_4 : decode cX10_sew 4 = .ok (.aload_n 0, 1) := by decide +kernel
theorem dX10_sew_5 : decode cX10_sew 5 = .ok (.aload_n 0, 1) := by decide +kernel
theorem dX10_sew_6 : decode cX10_sew 6 = .ok (.iload_n 1, 1) := by decide +kernel
theorem dX10_sew_7 : decode cX10_sew 7 = .ok (.invokevirtual 188, 3) := by decide +kernel
theorem dX10_sew_10 : decode cX10_sew 10 = .ok (.invokevirtual 165, 3) := by decide +kernel
theorem dX10_sew_13 : decode cX10_sew 13 = .ok (.ireturn, 1) := by decide +kernel
theorem dX10_cellOf_0 : decode cX10_cellOf 0 = .ok (.aload_n 0, 1) := by decide +kernel
theorem dX10_cellOf_1 : decode cX10_cellOf 1 = .ok (.getfield 7, 3) := by decide +kernel
theorem dX10_cellOf_4 : decode cX10_cellOf 4 = .ok (.iconst 0, 1) := by decide +kernel
theorem dX10_cellOf_5 : decode cX10_cellOf 5 = .ok (.iaload, 1) := by decide +kernel
theorem dX10_cellOf_6 : decode cX10_cellOf 6 = .ok (.iconst 1, 1) := by decide +kernel
theorem dX10_cellOf_7 : decode cX10_cellOf 7 = .ok (.isub, 1) := by decide +kernel
theorem dX10_cellOf_8 : decode cX10_cellOf 8 = .ok (.iload_n 1, 1) := by decide +kernel
theorem dX10_cellOf_9 : decode cX10_cellOf 9 = .ok (.isub, 1) := by decide +kernel
theorem dX10_cellOf_10 : decode cX10_cellOf 10 = .ok (.istore 4, 2) := by decide +kernel
theorem dX10_cellOf_12 : decode cX10_cellOf 12 = .ok (.iload_n 3, 1) := by decide +kernel
theorem dX10_cellOf_13 : decode cX10_cellOf 13 = .ok (.ifCond .eq 8, 3) := by decide +kernel
theorem dX10_cellOf_16 : decode cX10_cellOf 16 = .ok (.iload_n 3, 1) := by decide +kernel
theorem dX10_cellOf_17 : decode cX10_cellOf 17 = .ok (.iconst 3, 1) := by decide +kernel
theorem dX10_cellOf_18 : decode cX10_cellOf 18 = .ok (.if_icmp .ne 27, 3) := by decide +kernel
theorem dX10_cellOf_21 : decode cX10_cellOf 21 = .ok (.iload_n 3, 1) := by decide +kernel
theorem dX10_cellOf_22 : decode cX10_cellOf 22 = .ok (.ifCond .ne 20, 3) := by decide +kernel
theorem dX10_cellOf_25 : decode cX10_cellOf 25 = .ok (.aload_n 0, 1) := by decide +kernel
theorem dX10_cellOf_26 : decode cX10_cellOf 26 = .ok (.getfield 7, 3) := by decide +kernel
theorem dX10_cellOf_29 : decode cX10_cellOf 29 = .ok (.bipush 91, 2) := by decide +kernel
theorem dX10_cellOf_31 : decode cX10_cellOf 31 = .ok (.bipush 20, 2) := by decide +kernel
theorem dX10_cellOf_33 : decode cX10_cellOf 33 = .ok (.iload_n 2, 1) := by decide +kernel
theorem dX10_cellOf_34 : decode cX10_cellOf 34 = .ok (.imul, 1) := by decide +kernel
theorem dX10_cellOf_35 : decode cX10_cellOf 35 = .ok (.iadd, 1) := by decide +kernel
theorem dX10_cellOf_36 : decode cX10_cellOf 36 = .ok (.iload_n 1, 1) := by decide +kernel
theorem dX10_cellOf_37 : decode cX10_cellOf 37 = .ok (.iadd, 1) := by decide +kernel
theorem dX10_cellOf_38 : decode cX10_cellOf 38 = .ok (.iaload, 1) := by decide +kernel
theorem dX10_cellOf_39 : decode cX10_cellOf 39 = .ok (.goto 5, 3) := by decide +kernel
theorem dX10_cellOf_42 : decode cX10_cellOf 42 = .ok (.iload 4, 2) := by decide +kernel
theorem dX10_cellOf_44 : decode cX10_cellOf 44 = .ok (.ireturn, 1) := by decide +kernel
theorem dX10_cellOf_45 : decode cX10_cellOf 45 = .ok (.aload_n 0, 1) := by decide +kernel
theorem dX10_cellOf_46 : decode cX10_cellOf 46 = .ok (.iload_n 2, 1) := by decide +kernel
theorem dX10_cellOf_47 : decode cX10_cellOf 47 = .ok (.invokevirtual 112, 3) := by decide +kernel
theorem dX10_cellOf_50 : decode cX10_cellOf 50 = .ok (.ifCond .ne 7, 3) := by decide +kernel
theorem dX10_cellOf_53 : decode cX10_cellOf 53 = .ok (.iconst (-1), 1) := by decide +kernel
theorem dX10_cellOf_54 : decode cX10_cellOf 54 = .ok (.goto 25, 3) := by decide +kernel
theorem dX10_cellOf_57 : decode cX10_cellOf 57 = .ok (.iload_n 3, 1) := by decide +kernel
theorem dX10_cellOf_58 : decode cX10_cellOf 58 = .ok (.iconst 1, 1) := by decide +kernel
theorem dX10_cellOf_59 : decode cX10_cellOf 59 = .ok (.if_icmp .ne 13, 3) := by decide +kernel
theorem dX10_cellOf_62 : decode cX10_cellOf 62 = .ok (.aload_n 0, 1) := by decide +kernel
theorem dX10_cellOf_63 : decode cX10_cellOf 63 = .ok (.iload_n 2, 1) := by decide +kernel
theorem dX10_cellOf_64 : decode cX10_cellOf 64 = .ok (.iload 4, 2) := by decide +kernel
theorem dX10_cellOf_66 : decode cX10_cellOf 66 = .ok (.invokevirtual 74, 3) := by decide +kernel
theorem dX10_cellOf_69 : decode cX10_cellOf 69 = .ok (.goto 10, 3) := by decide +kernel
theorem dX10_cellOf_72 : decode cX10_cellOf 72 = .ok (.aload_n 0, 1) := by decide +kernel
theorem dX10_cellOf_73 : decode cX10_cellOf 73 = .ok (.iload_n 2, 1) := by decide +kernel
theorem dX10_cellOf_74 : decode cX10_cellOf 74 = .ok (.iload 4, 2) := by decide +kernel
theorem dX10_cellOf_76 : decode cX10_cellOf 76 = .ok (.invokevirtual 105, 3) := by decide +kernel
theorem dX10_cellOf_79 : decode cX10_cellOf 79 = .ok (.ireturn, 1) := by decide +kernel
theorem dX10_cell_0 : decode cX10_cell 0 = .ok (.aload_n 0, 1) := by decide +kernel
theorem dX10_cell_1 : decode cX10_cell 1 = .ok (.iload_n 1, 1) := by decide +kernel
theorem dX10_cell_2 : decode cX10_cell 2 = .ok (.iload_n 2, 1) := by decide +kernel
theorem dX10_cell_3 : decode cX10_cell 3 = .ok (.invokevirtual 131, 3) := by decide +kernel
theorem dX10_cell_6 : decode cX10_cell 6 = .ok (.ifCond .ne 9, 3) := by decide +kernel
theorem dX10_cell_9 : decode cX10_cell 9 = .ok (.aload_n 0, 1) := by decide +kernel
theorem dX10_cell_10 : decode cX10_cell 10 = .ok (.iconst 1, 1) := by decide +kernel
theorem dX10_cell_11 : decode cX10_cell 11 = .ok (.invokevirtual 150, 3) := by decide +kernel
theorem dX10_cell_14 : decode cX10_cell 14 = .ok (.ireturn, 1) := by decide +kernel
theorem dX10_cell_15 : decode cX10_cell 15 = .ok (.iload_n 3, 1) := by decide +kernel
theorem dX10_cell_16 : decode cX10_cell 16 = .ok (.iconst 0, 1) := by decide +kernel
theorem dX10_cell_17 : decode cX10_cell 17 = .ok (.iconst 3, 1) := by decide +kernel
theorem dX10_cell_18 : decode cX10_cell 18 = .ok (.invokestatic 56, 3) := by decide +kernel
theorem dX10_cell_21 : decode cX10_cell 21 = .ok (.ifCond .eq 17, 3) := by decide +kernel
theorem dX10_cell_24 : decode cX10_cell 24 = .ok (.aload_n 0, 1) := by decide +kernel
theorem dX10_cell_25 : decode cX10_cell 25 = .ok (.aload_n 0, 1) := by decide +kernel
theorem dX10_cell_26 : decode cX10_cell 26 = .ok (.iload_n 1, 1) := by decide +kernel
theorem dX10_cell_27 : decode cX10_cell 27 = .ok (.iload_n 2, 1) := by decide +kernel
theorem dX10_cell_28 : decode cX10_cell 28 = .ok (.iload_n 3, 1) := by decide +kernel
theorem dX10_cell_29 : decode cX10_cell 29 = .ok (.invokevirtual 191, 3) := by decide +kernel
theorem dX10_cell_32 : decode cX10_cell 32 = .ok (.invokevirtual 156, 3) := by decide +kernel
theorem dX10_cell_35 : decode cX10_cell 35 = .ok (.goto 8, 3) := by decide +kernel
theorem dX10_cell_38 : decode cX10_cell 38 = .ok (.aload_n 0, 1) := by decide +kernel
theorem dX10_cell_39 : decode cX10_cell 39 = .ok (.iconst 2, 1) := by decide +kernel
theorem dX10_cell_40 : decode cX10_cell 40 = .ok (.invokevirtual 150, 3) := by decide +kernel
theorem dX10_cell_43 : decode cX10_cell 43 = .ok (.ireturn, 1) := by decide +kernel
theorem dX10_rowOf_0 : decode cX10_rowOf 0 = .ok (.iload_n 2, 1) := by decide +kernel
theorem dX10_rowOf_1 : decode cX10_rowOf 1 = .ok (.tableswitch 62 0 3 #[31, 37, 43, 49], 31) := by decide +kernel
theorem dX10_rowOf_32 : decode cX10_rowOf 32 = .ok (.aload_n 0, 1) := by decide +kernel
theorem dX10_rowOf_33 : decode cX10_rowOf 33 = .ok (.iload_n 1, 1) := by decide +kernel
theorem dX10_rowOf_34 : decode cX10_rowOf 34 = .ok (.invokevirtual 194, 3) := by decide +kernel
theorem dX10_rowOf_37 : decode cX10_rowOf 37 = .ok (.ireturn, 1) := by decide +kernel
theorem dX10_rowOf_38 : decode cX10_rowOf 38 = .ok (.aload_n 0, 1) := by decide +kernel
theorem dX10_rowOf_39 : decode cX10_rowOf 39 = .ok (.iload_n 1, 1) := by decide +kernel
theorem dX10_rowOf_40 : decode cX10_rowOf 40 = .ok (.invokevirtual 197, 3) := by decide +kernel
theorem dX10_rowOf_43 : decode cX10_rowOf 43 = .ok (.ireturn, 1) := by decide +kernel
theorem dX10_rowOf_44 : decode cX10_rowOf 44 = .ok (.aload_n 0, 1) := by decide +kernel
theorem dX10_rowOf_45 : decode cX10_rowOf 45 = .ok (.iload_n 1, 1) := by decide +kernel
theorem dX10_rowOf_46 : decode cX10_rowOf 46 = .ok (.invokevirtual 200, 3) := by decide +kernel
theorem dX10_rowOf_49 : decode cX10_rowOf 49 = .ok (.ireturn, 1) := by decide +kernel
theorem dX10_rowOf_50 : decode cX10_rowOf 50 = .ok (.aload_n 0, 1) := by decide +kernel
theorem dX10_rowOf_51 : decode cX10_rowOf 51 = .ok (.getfield 7, 3) := by decide +kernel
theorem dX10_rowOf_54 : decode cX10_rowOf 54 = .ok (.iconst 0, 1) := by decide +kernel
theorem dX10_rowOf_55 : decode cX10_rowOf 55 = .ok (.iaload, 1) := by decide +kernel
theorem dX10_rowOf_56 : decode cX10_rowOf 56 = .ok (.aload_n 0, 1) := by decide +kernel
theorem dX10_rowOf_57 : decode cX10_rowOf 57 = .ok (.iload_n 1, 1) := by decide +kernel
theorem dX10_rowOf_58 : decode cX10_rowOf 58 = .ok (.invokevirtual 194, 3) := by decide +kernel
theorem dX10_rowOf_61 : decode cX10_rowOf 61 = .ok (.iadd, 1) := by decide +kernel
theorem dX10_rowOf_62 : decode cX10_rowOf 62 = .ok (.ireturn, 1) := by decide +kernel
theorem dX10_rowOf_63 : decode cX10_rowOf 63 = .ok (.aload_n 0, 1) := by decide +kernel
theorem dX10_rowOf_64 : decode cX10_rowOf 64 = .ok (.iload_n 1, 1) := by decide +kernel
theorem dX10_rowOf_65 : decode cX10_rowOf 65 = .ok (.invokevirtual 203, 3) := by decide +kernel
theorem dX10_rowOf_68 : decode cX10_rowOf 68 = .ok (.ireturn, 1) := by decide +kernel
theorem dX10_row_0 : decode cX10_row 0 = .ok (.aload_n 0, 1) := by decide +kernel
theorem dX10_row_1 : decode cX10_row 1 = .ok (.iload_n 1, 1) := by decide +kernel
theorem dX10_row_2 : decode cX10_row 2 = .ok (.invokevirtual 112, 3) := by decide +kernel
theorem dX10_row_5 : decode cX10_row 5 = .ok (.ifCond .ne 9, 3) := by decide +kernel
theorem dX10_row_8 : decode cX10_row 8 = .ok (.aload_n 0, 1) := by decide +kernel
theorem dX10_row_9 : decode cX10_row 9 = .ok (.iconst 1, 1) := by decide +kernel
theorem dX10_row_10 : decode cX10_row 10 = .ok (.invokevirtual 150, 3) := by decide +kernel
theorem dX10_row_13 : decode cX10_row 13 = .ok (.ireturn, 1) := by decide +kernel
theorem dX10_row_14 : decode cX10_row 14 = .ok (.iload_n 2, 1) := by decide +kernel
theorem dX10_row_15 : decode cX10_row 15 = .ok (.iconst 0, 1) := by decide +kernel
theorem dX10_row_16 : decode cX10_row 16 = .ok (.iconst 4, 1) := by decide +kernel
theorem dX10_row_17 : decode cX10_row 17 = .ok (.invokestatic 56, 3) := by decide +kernel
theorem dX10_row_20 : decode cX10_row 20 = .ok (.ifCond .eq 16, 3) := by decide +kernel
theorem dX10_row_23 : decode cX10_row 23 = .ok (.aload_n 0, 1) := by decide +kernel
theorem dX10_row_24 : decode cX10_row 24 = .ok (.aload_n 0, 1) := by decide +kernel
theorem dX10_row_25 : decode cX10_row 25 = .ok (.iload_n 1, 1) := by decide +kernel
theorem dX10_row_26 : decode cX10_row 26 = .ok (.iload_n 2, 1) := by decide +kernel
theorem dX10_row_27 : decode cX10_row 27 = .ok (.invokevirtual 206, 3) := by decide +kernel
theorem dX10_row_30 : decode cX10_row 30 = .ok (.invokevirtual 156, 3) := by decide +kernel
theorem dX10_row_33 : decode cX10_row 33 = .ok (.goto 8, 3) := by decide +kernel
theorem dX10_row_36 : decode cX10_row 36 = .ok (.aload_n 0, 1) := by decide +kernel
theorem dX10_row_37 : decode cX10_row 37 = .ok (.iconst 2, 1) := by decide +kernel
theorem dX10_row_38 : decode cX10_row 38 = .ok (.invokevirtual 150, 3) := by decide +kernel
theorem dX10_row_41 : decode cX10_row 41 = .ok (.ireturn, 1) := by decide +kernel
theorem dX10_cellsWith_0 : decode cX10_cellsWith 0 = .ok (.iconst 0, 1) := by decide +kernel
theorem dX10_cellsWith_1 : decode cX10_cellsWith 1 = .ok (.istore_n 2, 1) := by decide +kernel
theorem dX10_cellsWith_2 : decode cX10_cellsWith 2 = .ok (.iconst 0, 1) := by decide +kernel
theorem dX10_cellsWith_3 : decode cX10_cellsWith 3 = .ok (.istore_n 3, 1) := by decide +kernel
theorem dX10_cellsWith_4 : decode cX10_cellsWith 4 = .ok (.iload_n 3, 1) := by decide +kernel
theorem dX10_cellsWith_5 : decode cX10_cellsWith 5 = .ok (.aload_n 0, 1) := by decide +kernel
theorem dX10_cellsWith_6 : decode cX10_cellsWith 6 = .ok (.getfield 7, 3) := by decide +kernel
theorem dX10_cellsWith_9 : decode cX10_cellsWith 9 = .ok (.iconst 2, 1) := by decide +kernel
theorem dX10_cellsWith_10 : decode cX10_cellsWith 10 = .ok (.iaload, 1) := by decide +kernel
theorem dX10_cellsWith_11 : decode cX10_cellsWith 11 = .ok (.if_icmp .ge 48, 3) := by decide +kernel
theorem dX10_cellsWith_14 : decode cX10_cellsWith 14 = .ok (.iconst 0, 1) := by decide +kernel
theorem dX10_cellsWith_15 : decode cX10_cellsWith 15 = .ok (.istore 4, 2) := by decide +kernel
theorem dX10_cellsWith_17 : decode cX10_cellsWith 17 = .ok (.iload 4, 2) := by decide +kernel
theorem dX10_cellsWith_19 : decode cX10_cellsWith 19 = .ok (.aload_n 0, 1) := by decide +kernel
theorem dX10_cellsWith_20 : decode cX10_cellsWith 20 = .ok (.getfield 7, 3) := by decide +kernel
theorem dX10_cellsWith_23 : decode cX10_cellsWith 23 = .ok (.iconst 0, 1) := by decide +kernel
theorem dX10_cellsWith_24 : decode cX10_cellsWith 24 = .ok (.iaload, 1) := by decide +kernel
theorem dX10_cellsWith_25 : decode cX10_cellsWith 25 = .ok (.if_icmp .ge 28, 3) := by decide +kernel
theorem dX10_cellsWith_28 : decode cX10_cellsWith 28 = .ok (.iload_n 2, 1) := by decide +kernel
theorem dX10_cellsWith_29 : decode cX10_cellsWith 29 = .ok (.aload_n 0, 1) := by decide +kernel
theorem dX10_cellsWith_30 : decode cX10_cellsWith 30 = .ok (.iload_n 3, 1) := by decide +kernel
theorem dX10_cellsWith_31 : decode cX10_cellsWith 31 = .ok (.iload 4, 2) := by decide +kernel
theorem dX10_cellsWith_33 : decode cX10_cellsWith 33 = .ok (.invokevirtual 105, 3) := by decide +kernel
theorem dX10_cellsWith_36 : decode cX10_cellsWith 36 = .ok (.iload_n 1, 1) := by decide +kernel
theorem dX10_cellsWith_37 : decode cX10_cellsWith 37 = .ok (.if_icmp .ne 7, 3) := by decide +kernel
theorem dX10_cellsWith_40 : decode cX10_cellsWith 40 = .ok (.iconst 1, 1) := by decide +kernel
theorem dX10_cellsWith_41 : decode cX10_cellsWith 41 = .ok (.goto 4, 3) := by decide +kernel
theorem dX10_cellsWith_44 : decode cX10_cellsWith 44 = .ok (.iconst 0, 1) := by decide +kernel
theorem dX10_cellsWith_45 : decode cX10_cellsWith 45 = .ok (.iadd, 1) := by decide +kernel
theorem dX10_cellsWith_46 : decode cX10_cellsWith 46 = .ok (.istore_n 2, 1) := by decide +kernel
theorem dX10_cellsWith_47 : decode cX10_cellsWith 47 = .ok (.iinc 4 1, 3) := by decide +kernel
theorem dX10_cellsWith_50 : decode cX10_cellsWith 50 = .ok (.goto (-33), 3) := by decide +kernel
theorem dX10_cellsWith_53 : decode cX10_cellsWith 53 = .ok (.iinc 3 1, 3) := by decide +kernel
theorem dX10_cellsWith_56 : decode cX10_cellsWith 56 = .ok (.goto (-52), 3) := by decide +kernel
theorem dX10_cellsWith_59 : decode cX10_cellsWith 59 = .ok (.iload_n 2, 1) := by decide +kernel
theorem dX10_cellsWith_60 : decode cX10_cellsWith 60 = .ok (.ireturn, 1) := by decide +kernel
theorem dX10_lotOf_0 : decode cX10_lotOf 0 = .ok (.iload_n 2, 1) := by decide +kernel
theorem dX10_lotOf_1 : decode cX10_lotOf 1 = .ok (.iconst 4, 1) := by decide +kernel
theorem dX10_lotOf_2 : decode cX10_lotOf 2 = .ok (.if_icmp .ge 10, 3) := by decide +kernel
theorem dX10_lotOf_5 : decode cX10_lotOf 5 = .ok (.aload_n 0, 1) := by decide +kernel
theorem dX10_lotOf_6 : decode cX10_lotOf 6 = .ok (.iload_n 1, 1) := by decide +kernel
theorem dX10_lotOf_7 : decode cX10_lotOf 7 = .ok (.iload_n 2, 1) := by decide +kernel
theorem dX10_lotOf_8 : decode cX10_lotOf 8 = .ok (.invokevirtual 67, 3) := by decide +kernel
theorem dX10_lotOf_11 : decode cX10_lotOf 11 = .ok (.ireturn, 1) := by decide +kernel
theorem dX10_lotOf_12 : decode cX10_lotOf 12 = .ok (.iload_n 2, 1) := by decide +kernel
theorem dX10_lotOf_13 : decode cX10_lotOf 13 = .ok (.iconst 4, 1) := by decide +kernel
theorem dX10_lotOf_14 : decode cX10_lotOf 14 = .ok (.if_icmp .ne 11, 3) := by decide +kernel
theorem dX10_lotOf_17 : decode cX10_lotOf 17 = .ok (.aload_n 0, 1) := by decide +kernel
theorem dX10_lotOf_18 : decode cX10_lotOf 18 = .ok (.iload_n 1, 1) := by decide +kernel
theorem dX10_lotOf_19 : decode cX10_lotOf 19 = .ok (.invokevirtual 209, 3) := by decide +kernel
theorem dX10_lotOf_22 : decode cX10_lotOf 22 = .ok (.goto 22, 3) := by decide +kernel
theorem dX10_lotOf_25 : decode cX10_lotOf 25 = .ok (.aload_n 0, 1) := by decide +kernel
theorem dX10_lotOf_26 : decode cX10_lotOf 26 = .ok (.aload_n 0, 1) := by decide +kernel
theorem dX10_lotOf_27 : decode cX10_lotOf 27 = .ok (.iload_n 1, 1) := by decide +kernel
theorem dX10_lotOf_28 : decode cX10_lotOf 28 = .ok (.iconst 0, 1) := by decide +kernel
theorem dX10_lotOf_29 : decode cX10_lotOf 29 = .ok (.invokevirtual 67, 3) := by decide +kernel
theorem dX10_lotOf_32 : decode cX10_lotOf 32 = .ok (.invokevirtual 81, 3) := by decide +kernel
theorem dX10_lotOf_35 : decode cX10_lotOf 35 = .ok (.iload_n 1, 1) := by decide +kernel
theorem dX10_lotOf_36 : decode cX10_lotOf 36 = .ok (.if_icmp .ne 7, 3) := by decide +kernel
theorem dX10_lotOf_39 : decode cX10_lotOf 39 = .ok (.iconst 1, 1) := by decide +kernel
theorem dX10_lotOf_40 : decode cX10_lotOf 40 = .ok (.goto 4, 3) := by decide +kernel
theorem dX10_lotOf_43 : decode cX10_lotOf 43 = .ok (.iconst 0, 1) := by decide +kernel
theorem dX10_lotOf_44 : decode cX10_lotOf 44 = .ok (.ireturn, 1) := by decide +kernel
theorem dX10_lot_0 : decode cX10_lot 0 = .ok (.iload_n 1, 1) := by decide +kernel
theorem dX10_lot_1 : decode cX10_lot 1 = .ok (.iconst 0, 1) := by decide +kernel
theorem dX10_lot_2 : decode cX10_lot 2 = .ok (.aload_n 0, 1) := by decide +kernel
theorem dX10_lot_3 : decode cX10_lot 3 = .ok (.getfield 7, 3) := by decide +kernel
theorem dX10_lot_6 : decode cX10_lot 6 = .ok (.iconst 3, 1) := by decide +kernel
theorem dX10_lot_7 : decode cX10_lot 7 = .ok (.iaload, 1) := by decide +kernel
theorem dX10_lot_8 : decode cX10_lot 8 = .ok (.iconst 1, 1) := by decide +kernel
theorem dX10_lot_9 : decode cX10_lot 9 = .ok (.isub, 1) := by decide +kernel
theorem dX10_lot_10 : decode cX10_lot 10 = .ok (.invokestatic 56, 3) := by decide +kernel
theorem dX10_lot_13 : decode cX10_lot 13 = .ok (.ifCond .ne 9, 3) := by decide +kernel
theorem dX10_lot_16 : decode cX10_lot 16 = .ok (.aload_n 0, 1) := by decide +kernel
theorem dX10_lot_17 : decode cX10_lot 17 = .ok (.iconst 1, 1) := by decide +kernel
theorem dX10_lot_18 : decode cX10_lot 18 = .ok (.invokevirtual 150, 3) := by decide +kernel
theorem dX10_lot_21 : decode cX10_lot 21 = .ok (.ireturn, 1) := by decide +kernel
theorem dX10_lot_22 : decode cX10_lot 22 = .ok (.iload_n 2, 1) := by decide +kernel
theorem dX10_lot_23 : decode cX10_lot 23 = .ok (.iconst 0, 1) := by decide +kernel
theorem dX10_lot_24 : decode cX10_lot 24 = .ok (.iconst 5, 1) := by decide +kernel
theorem dX10_lot_25 : decode cX10_lot 25 = .ok (.invokestatic 56, 3) := by decide +kernel
theorem dX10_lot_28 : decode cX10_lot 28 = .ok (.ifCond .eq 16, 3) := by decide +kernel
theorem dX10_lot_31 : decode cX10_lot 31 = .ok (.aload_n 0, 1) := by decide +kernel
theorem dX10_lot_32 : decode cX10_lot 32 = .ok (.aload_n 0, 1) := by decide +kernel
theorem dX10_lot_33 : decode cX10_lot 33 = .ok (.iload_n 1, 1) := by decide +kernel
theorem dX10_lot_34 : decode cX10_lot 34 = .ok (.iload_n 2, 1) := by decide +kernel
theorem dX10_lot_35 : decode cX10_lot 35 = .ok (.invokevirtual 212, 3) := by decide +kernel
theorem dX10_lot_38 : decode cX10_lot 38 = .ok (.invokevirtual 156, 3) := by decide +kernel
theorem dX10_lot_41 : decode cX10_lot 41 = .ok (.goto 8, 3) := by decide +kernel
theorem dX10_lot_44 : decode cX10_lot 44 = .ok (.aload_n 0, 1) := by decide +kernel
theorem dX10_lot_45 : decode cX10_lot 45 = .ok (.iconst 2, 1) := by decide +kernel
theorem dX10_lot_46 : decode cX10_lot 46 = .ok (.invokevirtual 150, 3) := by decide +kernel
theorem dX10_lot_49 : decode cX10_lot 49 = .ok (.ireturn, 1) := by decide +kernel
theorem dX10_lotsOf_0 : decode cX10_lotsOf 0 = .ok (.iconst 0, 1) := by decide +kernel
theorem dX10_lotsOf_1 : decode cX10_lotsOf 1 = .ok (.istore_n 2, 1) := by decide +kernel
theorem dX10_lotsOf_2 : decode cX10_lotsOf 2 = .ok (.iconst 0, 1) := by decide +kernel
theorem dX10_lotsOf_3 : decode cX10_lotsOf 3 = .ok (.istore_n 3, 1) := by decide +kernel
theorem dX10_lotsOf_4 : decode cX10_lotsOf 4 = .ok (.iload_n 3, 1) := by decide +kernel
theorem dX10_lotsOf_5 : decode cX10_lotsOf 5 = .ok (.aload_n 0, 1) := by decide +kernel
theorem dX10_lotsOf_6 : decode cX10_lotsOf 6 = .ok (.getfield 7, 3) := by decide +kernel
theorem dX10_lotsOf_9 : decode cX10_lotsOf 9 = .ok (.iconst 3, 1) := by decide +kernel
theorem dX10_lotsOf_10 : decode cX10_lotsOf 10 = .ok (.iaload, 1) := by decide +kernel
theorem dX10_lotsOf_11 : decode cX10_lotsOf 11 = .ok (.if_icmp .ge 27, 3) := by decide +kernel
theorem dX10_lotsOf_14 : decode cX10_lotsOf 14 = .ok (.iload_n 2, 1) := by decide +kernel
theorem dX10_lotsOf_15 : decode cX10_lotsOf 15 = .ok (.aload_n 0, 1) := by decide +kernel
theorem dX10_lotsOf_16 : decode cX10_lotsOf 16 = .ok (.iload_n 3, 1) := by decide +kernel
theorem dX10_lotsOf_17 : decode cX10_lotsOf 17 = .ok (.iconst 0, 1) := by decide +kernel
theorem dX10_lotsOf_18 : decode cX10_lotsOf 18 = .ok (.invokevirtual 67, 3) := by decide +kernel
theorem dX10_lotsOf_21 : decode cX10_lotsOf 21 = .ok (.iload_n 1, 1) := by decide +kernel
theorem dX10_lotsOf_22 : decode cX10_lotsOf 22 = .ok (.if_icmp .ne 7, 3) := by decide +kernel
theorem dX10_lotsOf_25 : decode cX10_lotsOf 25 = .ok (.iconst 1, 1) := by decide +kernel
theorem dX10_lotsOf_26 : decode cX10_lotsOf 26 = .ok (.goto 4, 3) := by decide +kernel
theorem dX10_lotsOf_29 : decode cX10_lotsOf 29 = .ok (.iconst 0, 1) := by decide +kernel
theorem dX10_lotsOf_30 : decode cX10_lotsOf 30 = .ok (.iadd, 1) := by decide +kernel
theorem dX10_lotsOf_31 : decode cX10_lotsOf 31 = .ok (.istore_n 2, 1) := by decide +kernel
theorem dX10_lotsOf_32 : decode cX10_lotsOf 32 = .ok (.iinc 3 1, 3) := by decide +kernel
theorem dX10_lotsOf_35 : decode cX10_lotsOf 35 = .ok (.goto (-31), 3) := by decide +kernel
theorem dX10_lotsOf_38 : decode cX10_lotsOf 38 = .ok (.iload_n 2, 1) := by decide +kernel
theorem dX10_lotsOf_39 : decode cX10_lotsOf 39 = .ok (.ireturn, 1) := by decide +kernel
theorem dX10_sumOf_0 : decode cX10_sumOf 0 = .ok (.iconst 0, 1) := by decide +kernel
theorem dX10_sumOf_1 : decode cX10_sumOf 1 = .ok (.istore_n 3, 1) := by decide +kernel
theorem dX10_sumOf_2 : decode cX10_sumOf 2 = .ok (.iconst 0, 1) := by decide +kernel
theorem dX10_sumOf_3 : decode cX10_sumOf 3 = .ok (.istore 4, 2) := by decide +kernel
theorem dX10_sumOf_5 : decode cX10_sumOf 5 = .ok (.iload 4, 2) := by decide +kernel
theorem dX10_sumOf_7 : decode cX10_sumOf 7 = .ok (.aload_n 0, 1) := by decide +kernel
theorem dX10_sumOf_8 : decode cX10_sumOf 8 = .ok (.getfield 7, 3) := by decide +kernel
theorem dX10_sumOf_11 : decode cX10_sumOf 11 = .ok (.iconst 1, 1) := by decide +kernel
theorem dX10_sumOf_12 : decode cX10_sumOf 12 = .ok (.iaload, 1) := by decide +kernel
theorem dX10_sumOf_13 : decode cX10_sumOf 13 = .ok (.if_icmp .ge 103, 3) := by decide +kernel
theorem dX10_sumOf_16 : decode cX10_sumOf 16 = .ok (.iload_n 2, 1) := by decide +kernel
theorem dX10_sumOf_17 : decode cX10_sumOf 17 = .ok (.ifCond .eq 8, 3) := by decide +kernel
theorem dX10_sumOf_20 : decode cX10_sumOf 20 = .ok (.iload_n 2, 1) := by decide +kernel
theorem dX10_sumOf_21 : decode cX10_sumOf 21 = .ok (.iconst 5, 1) := by decide +kernel
theorem dX10_sumOf_22 : decode cX10_sumOf 22 = .ok (.if_icmp .ne 52, 3) := by decide +kernel
theorem dX10_sumOf_25 : decode cX10_sumOf 25 = .ok (.aload_n 0, 1) := by decide +kernel
theorem dX10_sumOf_26 : decode cX10_sumOf 26 = .ok (.iload 4, 2) := by decide +kernel
theorem dX10_sumOf_28 : decode cX10_sumOf 28 = .ok (.iconst 0, 1) := by decide +kernel
theorem dX10_sumOf_29 : decode cX10_sumOf 29 = .ok (.invokevirtual 85, 3) := by decide +kernel
theorem dX10_sumOf_32 : decode cX10_sumOf 32 = .ok (.iload_n 3, 1) := by decide +kernel
theorem dX10_sumOf_33 : decode cX10_sumOf 33 = .ok (.iload_n 2, 1) := by decide +kernel
theorem dX10_sumOf_34 : decode cX10_sumOf 34 = .ok (.ifCond .ne 11, 3) := by decide +kernel
theorem dX10_sumOf_37 : decode cX10_sumOf 37 = .ok (.aload_n 0, 1) := by decide +kernel
theorem dX10_sumOf_38 : decode cX10_sumOf 38 = .ok (.iload_n 1, 1) := by decide +kernel
theorem dX10_sumOf_39 : decode cX10_sumOf 39 = .ok (.invokevirtual 92, 3) := by decide +kernel
theorem dX10_sumOf_42 : decode cX10_sumOf 42 = .ok (.goto 27, 3) := by decide +kernel
theorem dX10_sumOf_45 : decode cX10_sumOf 45 = .ok (.aload_n 0, 1) := by decide +kernel
theorem dX10_sumOf_46 : decode cX10_sumOf 46 = .ok (.iload 4, 2) := by decide +kernel
theorem dX10_sumOf_48 : decode cX10_sumOf 48 = .ok (.invokevirtual 112, 3) := by decide +kernel
theorem dX10_sumOf_51 : decode cX10_sumOf 51 = .ok (.ifCond .eq 7, 3) := by decide +kernel
theorem dX10_sumOf_54 : decode cX10_sumOf 54 = .ok (.iconst 0, 1) := by decide +kernel
theorem dX10_sumOf_55 : decode cX10_sumOf 55 = .ok (.goto 14, 3) := by decide +kernel
theorem dX10_sumOf_58 : decode cX10_sumOf 58 = .ok (.aload_n 0, 1) := by decide +kernel
theorem dX10_sumOf_59 : decode cX10_sumOf 59 = .ok (.iload_n 1, 1) := by decide +kernel
theorem dX10_sumOf_60 : decode cX10_sumOf 60 = .ok (.invokevirtual 92, 3) := by decide +kernel
theorem dX10_sumOf_63 : decode cX10_sumOf 63 = .ok (.aload_n 0, 1) := by decide +kernel
theorem dX10_sumOf_64 : decode cX10_sumOf 64 = .ok (.iload_n 1, 1) := by decide +kernel
theorem dX10_sumOf_65 : decode cX10_sumOf 65 = .ok (.invokevirtual 89, 3) := by decide +kernel
theorem dX10_sumOf_68 : decode cX10_sumOf 68 = .ok (.iadd, 1) := by decide +kernel
theorem dX10_sumOf_69 : decode cX10_sumOf 69 = .ok (.iadd, 1) := by decide +kernel
theorem dX10_sumOf_70 : decode cX10_sumOf 70 = .ok (.istore_n 3, 1) := by decide +kernel
theorem dX10_sumOf_71 : decode cX10_sumOf 71 = .ok (.goto 39, 3) := by decide +kernel
theorem dX10_sumOf_74 : decode cX10_sumOf 74 = .ok (.aload_n 0, 1) := by decide +kernel
theorem dX10_sumOf_75 : decode cX10_sumOf 75 = .ok (.iload 4, 2) := by decide +kernel
theorem dX10_sumOf_77 : decode cX10_sumOf 77 = .ok (.invokevirtual 112, 3) := by decide +kernel
theorem dX10_sumOf_80 : decode cX10_sumOf 80 = .ok (.ifCond .eq 30, 3) := by decide +kernel
theorem dX10_sumOf_83 : decode cX10_sumOf 83 = .ok (.aload_n 0, 1) := by decide +kernel
theorem dX10_sumOf_84 : decode cX10_sumOf 84 = .ok (.iload 4, 2) := by decide +kernel
theorem dX10_sumOf_86 : decode cX10_sumOf 86 = .ok (.invokevirtual 101, 3) := by decide +kernel
theorem dX10_sumOf_89 : decode cX10_sumOf 89 = .ok (.iload_n 3, 1) := by decide +kernel
theorem dX10_sumOf_90 : decode cX10_sumOf 90 = .ok (.iload_n 2, 1) := by decide +kernel
theorem dX10_sumOf_91 : decode cX10_sumOf 91 = .ok (.iconst 1, 1) := by decide +kernel
theorem dX10_sumOf_92 : decode cX10_sumOf 92 = .ok (.if_icmp .ne 11, 3) := by decide +kernel
theorem dX10_sumOf_95 : decode cX10_sumOf 95 = .ok (.aload_n 0, 1) := by decide +kernel
theorem dX10_sumOf_96 : decode cX10_sumOf 96 = .ok (.iload_n 1, 1) := by decide +kernel
theorem dX10_sumOf_97 : decode cX10_sumOf 97 = .ok (.invokevirtual 92, 3) := by decide +kernel
theorem dX10_sumOf_100 : decode cX10_sumOf 100 = .ok (.goto 8, 3) := by decide +kernel
theorem dX10_sumOf_103 : decode cX10_sumOf 103 = .ok (.aload_n 0, 1) := by decide +kernel
theorem dX10_sumOf_104 : decode cX10_sumOf 104 = .ok (.iload_n 1, 1) := by decide +kernel
theorem dX10_sumOf_105 : decode cX10_sumOf 105 = .ok (.invokevirtual 89, 3) := by decide +kernel
theorem dX10_sumOf_108 : decode cX10_sumOf 108 = .ok (.iadd, 1) := by decide +kernel
theorem dX10_sumOf_109 : decode cX10_sumOf 109 = .ok (.istore_n 3, 1) := by decide +kernel
theorem dX10_sumOf_110 : decode cX10_sumOf 110 = .ok (.iinc 4 1, 3) := by decide +kernel
theorem dX10_sumOf_113 : decode cX10_sumOf 113 = .ok (.goto (-108), 3) := by decide +kernel
theorem dX10_sumOf_116 : decode cX10_sumOf 116 = .ok (.iload_n 3, 1) := by decide +kernel
theorem dX10_sumOf_117 : decode cX10_sumOf 117 = .ok (.ireturn, 1) := by decide +kernel
theorem dX10_colorOf_0 : decode cX10_colorOf 0 = .ok (.iload_n 2, 1) := by decide +kernel
theorem dX10_colorOf_1 : decode cX10_colorOf 1 = .ok (.iconst 2, 1) := by decide +kernel
theorem dX10_colorOf_2 : decode cX10_colorOf 2 = .ok (.if_icmp .ne 11, 3) := by decide +kernel
theorem dX10_colorOf_5 : decode cX10_colorOf 5 = .ok (.aload_n 0, 1) := by decide +kernel
theorem dX10_colorOf_6 : decode cX10_colorOf 6 = .ok (.iload_n 1, 1) := by decide +kernel
theorem dX10_colorOf_7 : decode cX10_colorOf 7 = .ok (.invokevirtual 95, 3) := by decide +kernel
theorem dX10_colorOf_10 : decode cX10_colorOf 10 = .ok (.goto 22, 3) := by decide +kernel
theorem dX10_colorOf_13 : decode cX10_colorOf 13 = .ok (.iload_n 2, 1) := by decide +kernel
theorem dX10_colorOf_14 : decode cX10_colorOf 14 = .ok (.iconst 3, 1) := by decide +kernel
theorem dX10_colorOf_15 : decode cX10_colorOf 15 = .ok (.if_icmp .ne 11, 3) := by decide +kernel
theorem dX10_colorOf_18 : decode cX10_colorOf 18 = .ok (.aload_n 0, 1) := by decide +kernel
theorem dX10_colorOf_19 : decode cX10_colorOf 19 = .ok (.iload_n 1, 1) := by decide +kernel
theorem dX10_colorOf_20 : decode cX10_colorOf 20 = .ok (.invokevirtual 215, 3) := by decide +kernel
theorem dX10_colorOf_23 : decode cX10_colorOf 23 = .ok (.goto 9, 3) := by decide +kernel
theorem dX10_colorOf_26 : decode cX10_colorOf 26 = .ok (.aload_n 0, 1) := by decide +kernel
theorem dX10_colorOf_27 : decode cX10_colorOf 27 = .ok (.iload_n 1, 1) := by decide +kernel
theorem dX10_colorOf_28 : decode cX10_colorOf 28 = .ok (.iload_n 2, 1) := by decide +kernel
theorem dX10_colorOf_29 : decode cX10_colorOf 29 = .ok (.invokevirtual 218, 3) := by decide +kernel
theorem dX10_colorOf_32 : decode cX10_colorOf 32 = .ok (.ireturn, 1) := by decide +kernel
theorem dX10_color_0 : decode cX10_color 0 = .ok (.iload_n 1, 1) := by decide +kernel
theorem dX10_color_1 : decode cX10_color 1 = .ok (.iconst 0, 1) := by decide +kernel
theorem dX10_color_2 : decode cX10_color 2 = .ok (.bipush 7, 2) := by decide +kernel
theorem dX10_color_4 : decode cX10_color 4 = .ok (.invokestatic 56, 3) := by decide +kernel
theorem dX10_color_7 : decode cX10_color 7 = .ok (.ifCond .eq 25, 3) := by decide +kernel
theorem dX10_color_10 : decode cX10_color 10 = .ok (.iload_n 2, 1) := by decide +kernel
theorem dX10_color_11 : decode cX10_color 11 = .ok (.iconst 0, 1) := by decide +kernel
theorem dX10_color_12 : decode cX10_color 12 = .ok (.iconst 5, 1) := by decide +kernel
theorem dX10_color_13 : decode cX10_color 13 = .ok (.invokestatic 56, 3) := by decide +kernel
theorem dX10_color_16 : decode cX10_color 16 = .ok (.ifCond .eq 16, 3) := by decide +kernel
theorem dX10_color_19 : decode cX10_color 19 = .ok (.aload_n 0, 1) := by decide +kernel
theorem dX10_color_20 : decode cX10_color 20 = .ok (.aload_n 0, 1) := by decide +kernel
theorem dX10_color_21 : decode cX10_color 21 = .ok (.iload_n 1, 1) := by decide +kernel
theorem dX10_color_22 : decode cX10_color 22 = .ok (.iload_n 2, 1) := by decide +kernel
theorem dX10_color_23 : decode cX10_color 23 = .ok (.invokevirtual 221, 3) := by decide +kernel
theorem dX10_color_26 : decode cX10_color 26 = .ok (.invokevirtual 156, 3) := by decide +kernel
theorem dX10_color_29 : decode cX10_color 29 = .ok (.goto 8, 3) := by decide +kernel
theorem dX10_color_32 : decode cX10_color 32 = .ok (.aload_n 0, 1) := by decide +kernel
theorem dX10_color_33 : decode cX10_color 33 = .ok (.iconst 1, 1) := by decide +kernel
theorem dX10_color_34 : decode cX10_color 34 = .ok (.invokevirtual 150, 3) := by decide +kernel
theorem dX10_color_37 : decode cX10_color 37 = .ok (.ireturn, 1) := by decide +kernel
theorem dX10_slitOf_0 : decode cX10_slitOf 0 = .ok (.iload_n 2, 1) := by decide +kernel
theorem dX10_slitOf_1 : decode cX10_slitOf 1 = .ok (.ifCond .ne 12, 3) := by decide +kernel
theorem dX10_slitOf_4 : decode cX10_slitOf 4 = .ok (.aload_n 0, 1) := by decide +kernel
theorem dX10_slitOf_5 : decode cX10_slitOf 5 = .ok (.getfield 31, 3) := by decide +kernel
theorem dX10_slitOf_8 : decode cX10_slitOf 8 = .ok (.iload_n 1, 1) := by decide +kernel
theorem dX10_slitOf_9 : decode cX10_slitOf 9 = .ok (.iaload, 1) := by decide +kernel
theorem dX10_slitOf_10 : decode cX10_slitOf 10 = .ok (.goto 44, 3) := by decide +kernel
theorem dX10_slitOf_13 : decode cX10_slitOf 13 = .ok (.iload_n 2, 1) := by decide +kernel
theorem dX10_slitOf_14 : decode cX10_slitOf 14 = .ok (.iconst 1, 1) := by decide +kernel
theorem dX10_slitOf_15 : decode cX10_slitOf 15 = .ok (.if_icmp .ne 12, 3) := by decide +kernel
theorem dX10_slitOf_18 : decode cX10_slitOf 18 = .ok (.aload_n 0, 1) := by decide +kernel
theorem dX10_slitOf_19 : decode cX10_slitOf 19 = .ok (.getfield 34, 3) := by decide +kernel
theorem dX10_slitOf_22 : decode cX10_slitOf 22 = .ok (.iload_n 1, 1) := by decide +kernel
theorem dX10_slitOf_23 : decode cX10_slitOf 23 = .ok (.iaload, 1) := by decide +kernel
theorem dX10_slitOf_24 : decode cX10_slitOf 24 = .ok (.goto 30, 3) := by decide +kernel
theorem dX10_slitOf_27 : decode cX10_slitOf 27 = .ok (.iload_n 2, 1) := by decide +kernel
theorem dX10_slitOf_28 : decode cX10_slitOf 28 = .ok (.iconst 2, 1) := by decide +kernel
theorem dX10_slitOf_29 : decode cX10_slitOf 29 = .ok (.if_icmp .ne 12, 3) := by decide +kernel
theorem dX10_slitOf_32 : decode cX10_slitOf 32 = .ok (.aload_n 0, 1) := by decide +kernel
theorem dX10_slitOf_33 : decode cX10_slitOf 33 = .ok (.getfield 37, 3) := by decide +kernel
theorem dX10_slitOf_36 : decode cX10_slitOf 36 = .ok (.iload_n 1, 1) := by decide +kernel
theorem dX10_slitOf_37 : decode cX10_slitOf 37 = .ok (.iaload, 1) := by decide +kernel
theorem dX10_slitOf_38 : decode cX10_slitOf 38 = .ok (.goto 16, 3) := by decide +kernel
theorem dX10_slitOf_41 : decode cX10_slitOf 41 = .ok (.aload_n 0, 1) := by decide +kernel
theorem dX10_slitOf_42 : decode cX10_slitOf 42 = .ok (.iload_n 1, 1) := by decide +kernel
theorem dX10_slitOf_43 : decode cX10_slitOf 43 = .ok (.invokevirtual 125, 3) := by decide +kernel
theorem dX10_slitOf_46 : decode cX10_slitOf 46 = .ok (.ifCond .eq 7, 3) := by decide +kernel
theorem dX10_slitOf_49 : decode cX10_slitOf 49 = .ok (.iconst 1, 1) := by decide +kernel
theorem dX10_slitOf_50 : decode cX10_slitOf 50 = .ok (.goto 4, 3) := by decide +kernel
theorem dX10_slitOf_53 : decode cX10_slitOf 53 = .ok (.iconst 0, 1) := by decide +kernel
theorem dX10_slitOf_54 : decode cX10_slitOf 54 = .ok (.ireturn, 1) := by decide +kernel
theorem dX10_slit_0 : decode cX10_slit 0 = .ok (.iload_n 1, 1) := by decide +kernel
theorem dX10_slit_1 : decode cX10_slit 1 = .ok (.ifCond .lt 12, 3) := by decide +kernel
theorem dX10_slit_4 : decode cX10_slit 4 = .ok (.iload_n 2, 1) := by decide +kernel
theorem dX10_slit_5 : decode cX10_slit 5 = .ok (.iconst 0, 1) := by decide +kernel
theorem dX10_slit_6 : decode cX10_slit 6 = .ok (.iconst 3, 1) := by decide +kernel
theorem dX10_slit_7 : decode cX10_slit 7 = .ok (.invokestatic 56, 3) := by decide +kernel
theorem dX10_slit_10 : decode cX10_slit 10 = .ok (.ifCond .ne 9, 3) := by decide +kernel
theorem dX10_slit_13 : decode cX10_slit 13 = .ok (.aload_n 0, 1) := by decide +kernel
theorem dX10_slit_14 : decode cX10_slit 14 = .ok (.iconst 1, 1) := by decide +kernel
theorem dX10_slit_15 : decode cX10_slit 15 = .ok (.invokevirtual 150, 3) := by decide +kernel
theorem dX10_slit_18 : decode cX10_slit 18 = .ok (.ireturn, 1) := by decide +kernel
theorem dX10_slit_19 : decode cX10_slit 19 = .ok (.aload_n 0, 1) := by decide +kernel
theorem dX10_slit_20 : decode cX10_slit 20 = .ok (.aload_n 0, 1) := by decide +kernel
theorem dX10_slit_21 : decode cX10_slit 21 = .ok (.getfield 7, 3) := by decide +kernel
theorem dX10_slit_24 : decode cX10_slit 24 = .ok (.iconst 4, 1) := by decide +kernel
theorem dX10_slit_25 : decode cX10_slit 25 = .ok (.iaload, 1) := by decide +kernel
theorem dX10_slit_26 : decode cX10_slit 26 = .ok (.invokevirtual 122, 3) := by decide +kernel
theorem dX10_slit_29 : decode cX10_slit 29 = .ok (.aload_n 0, 1) := by decide +kernel
theorem dX10_slit_30 : decode cX10_slit 30 = .ok (.iload_n 1, 1) := by decide +kernel
theorem dX10_slit_31 : decode cX10_slit 31 = .ok (.aload_n 0, 1) := by decide +kernel
theorem dX10_slit_32 : decode cX10_slit 32 = .ok (.getfield 115, 3) := by decide +kernel
theorem dX10_slit_35 : decode cX10_slit 35 = .ok (.if_icmp .ge 12, 3) := by decide +kernel
theorem dX10_slit_38 : decode cX10_slit 38 = .ok (.aload_n 0, 1) := by decide +kernel
theorem dX10_slit_39 : decode cX10_slit 39 = .ok (.iload_n 1, 1) := by decide +kernel
theorem dX10_slit_40 : decode cX10_slit 40 = .ok (.iload_n 2, 1) := by decide +kernel
theorem dX10_slit_41 : decode cX10_slit 41 = .ok (.invokevirtual 224, 3) := by decide +kernel
theorem dX10_slit_44 : decode cX10_slit 44 = .ok (.goto 4, 3) := by decide +kernel
theorem dX10_slit_47 : decode cX10_slit 47 = .ok (.iconst (-1), 1) := by decide +kernel
theorem dX10_slit_48 : decode cX10_slit 48 = .ok (.invokevirtual 156, 3) := by decide +kernel
theorem dX10_slit_51 : decode cX10_slit 51 = .ok (.ireturn, 1) := by decide +kernel
theorem dX10_apart_0 : decode cX10_apart 0 = .ok (.aload_n 0, 1) := by decide +kernel
theorem dX10_apart_1 : decode cX10_apart 1 = .ok (.iload_n 1, 1) := by decide +kernel
theorem dX10_apart_2 : decode cX10_apart 2 = .ok (.invokevirtual 227, 3) := by decide +kernel
theorem dX10_apart_5 : decode cX10_apart 5 = .ok (.aload_n 0, 1) := by decide +kernel
theorem dX10_apart_6 : decode cX10_apart 6 = .ok (.iload_n 2, 1) := by decide +kernel
theorem dX10_apart_7 : decode cX10_apart 7 = .ok (.invokevirtual 227, 3) := by decide +kernel
theorem dX10_apart_10 : decode cX10_apart 10 = .ok (.fsub, 1) := by decide +kernel
theorem dX10_apart_11 : decode cX10_apart 11 = .ok (.invokestatic 230, 3) := by decide +kernel
theorem dX10_apart_14 : decode cX10_apart 14 = .ok (.freturn, 1) := by decide +kernel
theorem dX10_seams_0 : decode cX10_seams 0 = .ok (.aload_n 0, 1) := by decide +kernel
theorem dX10_seams_1 : decode cX10_seams 1 = .ok (.iload_n 3, 1) := by decide +kernel
theorem dX10_seams_2 : decode cX10_seams 2 = .ok (.invokevirtual 112, 3) := by decide +kernel
theorem dX10_seams_5 : decode cX10_seams 5 = .ok (.ifCond .eq 50, 3) := by decide +kernel
theorem dX10_seams_8 : decode cX10_seams 8 = .ok (.iload 4, 2) := by decide +kernel
theorem dX10_seams_10 : decode cX10_seams 10 = .ok (.aload_n 0, 1) := by decide +kernel
theorem dX10_seams_11 : decode cX10_seams 11 = .ok (.getfield 7, 3) := by decide +kernel
theorem dX10_seams_14 : decode cX10_seams 14 = .ok (.iconst 0, 1) := by decide +kernel
theorem dX10_seams_15 : decode cX10_seams 15 = .ok (.iaload, 1) := by decide +kernel
theorem dX10_seams_16 : decode cX10_seams 16 = .ok (.if_icmp .ge 39, 3) := by decide +kernel
theorem dX10_seams_19 : decode cX10_seams 19 = .ok (.aload_n 0, 1) := by decide +kernel
theorem dX10_seams_20 : decode cX10_seams 20 = .ok (.iload_n 1, 1) := by decide +kernel
theorem dX10_seams_21 : decode cX10_seams 21 = .ok (.iload_n 2, 1) := by decide +kernel
theorem dX10_seams_22 : decode cX10_seams 22 = .ok (.invokevirtual 74, 3) := by decide +kernel
theorem dX10_seams_25 : decode cX10_seams 25 = .ok (.aload_n 0, 1) := by decide +kernel
theorem dX10_seams_26 : decode cX10_seams 26 = .ok (.iload_n 3, 1) := by decide +kernel
theorem dX10_seams_27 : decode cX10_seams 27 = .ok (.iload 4, 2) := by decide +kernel
theorem dX10_seams_29 : decode cX10_seams 29 = .ok (.invokevirtual 74, 3) := by decide +kernel
theorem dX10_seams_32 : decode cX10_seams 32 = .ok (.if_icmp .ne 23, 3) := by decide +kernel
theorem dX10_seams_35 : decode cX10_seams 35 = .ok (.aload_n 0, 1) := by decide +kernel
theorem dX10_seams_36 : decode cX10_seams 36 = .ok (.iload_n 1, 1) := by decide +kernel
theorem dX10_seams_37 : decode cX10_seams 37 = .ok (.iload_n 2, 1) := by decide +kernel
theorem dX10_seams_38 : decode cX10_seams 38 = .ok (.invokevirtual 105, 3) := by decide +kernel
theorem dX10_seams_41 : decode cX10_seams 41 = .ok (.aload_n 0, 1) := by decide +kernel
theorem dX10_seams_42 : decode cX10_seams 42 = .ok (.iload_n 3, 1) := by decide +kernel
theorem dX10_seams_43 : decode cX10_seams 43 = .ok (.iload 4, 2) := by decide +kernel
theorem dX10_seams_45 : decode cX10_seams 45 = .ok (.invokevirtual 105, 3) := by decide +kernel
theorem dX10_seams_48 : decode cX10_seams 48 = .ok (.if_icmp .eq 7, 3) := by decide +kernel
theorem dX10_seams_51 : decode cX10_seams 51 = .ok (.iconst 1, 1) := by decide +kernel
theorem dX10_seams_52 : decode cX10_seams 52 = .ok (.goto 4, 3) := by decide +kernel
theorem dX10_seams_55 : decode cX10_seams 55 = .ok (.iconst 0, 1) := by decide +kernel
theorem dX10_seams_56 : decode cX10_seams 56 = .ok (.ireturn, 1) := by decide +kernel
theorem dX10_seamsIn_0 : decode cX10_seamsIn 0 = .ok (.iconst 0, 1) := by decide +kernel
theorem dX10_seamsIn_1 : decode cX10_seamsIn 1 = .ok (.istore_n 2, 1) := by decide +kernel
theorem dX10_seamsIn_2 : decode cX10_seamsIn 2 = .ok (.aload_n 0, 1) := by decide +kernel
theorem dX10_seamsIn_3 : decode cX10_seamsIn 3 = .ok (.getfield 7, 3) := by decide +kernel
theorem dX10_seamsIn_6 : decode cX10_seamsIn 6 = .ok (.iconst 5, 1) := by decide +kernel
theorem dX10_seamsIn_7 : decode cX10_seamsIn 7 = .ok (.iaload, 1) := by decide +kernel
theorem dX10_seamsIn_8 : decode cX10_seamsIn 8 = .ok (.invokestatic 62, 3) := by decide +kernel
theorem dX10_seamsIn_11 : decode cX10_seamsIn 11 = .ok (.fstore_n 3, 1) := by decide +kernel
theorem dX10_seamsIn_12 : decode cX10_seamsIn 12 = .ok (.aload_n 0, 1) := by decide +kernel
theorem dX10_seamsIn_13 : decode cX10_seamsIn 13 = .ok (.fconst 0, 1) := by decide +kernel
theorem dX10_seamsIn_14 : decode cX10_seamsIn 14 = .ok (.putfield 234, 3) := by decide +kernel
theorem dX10_seamsIn_17 : decode cX10_seamsIn 17 = .ok (.iconst 0, 1) := by decide +kernel
theorem dX10_seamsIn_18 : decode cX10_seamsIn 18 = .ok (.istore 4, 2) := by decide +kernel
theorem dX10_seamsIn_20 : decode cX10_seamsIn 20 = .ok (.iload 4, 2) := by decide +kernel
theorem dX10_seamsIn_22 : decode cX10_seamsIn 22 = .ok (.aload_n 0, 1) := by decide +kernel
theorem dX10_seamsIn_23 : decode cX10_seamsIn 23 = .ok (.getfield 7, 3) := by decide +kernel
theorem dX10_seamsIn_26 : decode cX10_seamsIn 26 = .ok (.iconst 2, 1) := by decide +kernel
theorem dX10_seamsIn_27 : decode cX10_seamsIn 27 = .ok (.iaload, 1) := by decide +kernel
theorem dX10_seamsIn_28 : decode cX10_seamsIn 28 = .ok (.if_icmp .ge 139, 3) := by decide +kernel
theorem dX10_seamsIn_31 : decode cX10_seamsIn 31 = .ok (.iconst 0, 1) := by decide +kernel
theorem dX10_seamsIn_32 : decode cX10_seamsIn 32 = .ok (.istore 5, 2) := by decide +kernel
theorem dX10_seamsIn_34 : decode cX10_seamsIn 34 = .ok (.iload 5, 2) := by decide +kernel
theorem dX10_seamsIn_36 : decode cX10_seamsIn 36 = .ok (.aload_n 0, 1) := by decide +kernel
theorem dX10_seamsIn_37 : decode cX10_seamsIn 37 = .ok (.getfield 7, 3) := by decide +kernel
theorem dX10_seamsIn_40 : decode cX10_seamsIn 40 = .ok (.iconst 0, 1) := by decide +kernel
theorem dX10_seamsIn_41 : decode cX10_seamsIn 41 = .ok (.iaload, 1) := by decide +kernel
theorem dX10_seamsIn_42 : decode cX10_seamsIn 42 = .ok (.if_icmp .ge 119, 3) := by decide +kernel
theorem dX10_seamsIn_45 : decode cX10_seamsIn 45 = .ok (.iconst 0, 1) := by decide +kernel
theorem dX10_seamsIn_46 : decode cX10_seamsIn 46 = .ok (.istore 6, 2) := by decide +kernel
theorem dX10_seamsIn_48 : decode cX10_seamsIn 48 = .ok (.iload 6, 2) := by decide +kernel
theorem dX10_seamsIn_50 : decode cX10_seamsIn 50 = .ok (.iconst 2, 1) := by decide +kernel
theorem dX10_seamsIn_51 : decode cX10_seamsIn 51 = .ok (.if_icmp .ge 104, 3) := by decide +kernel
theorem dX10_seamsIn_54 : decode cX10_seamsIn 54 = .ok (.aload_n 0, 1) := by decide +kernel
theorem dX10_seamsIn_55 : decode cX10_seamsIn 55 = .ok (.iload 4, 2) := by decide +kernel
theorem dX10_seamsIn_57 : decode cX10_seamsIn 57 = .ok (.iload 5, 2) := by decide +kernel
theorem dX10_seamsIn_59 : decode cX10_seamsIn 59 = .ok (.iload 4, 2) := by decide +kernel
theorem dX10_seamsIn_61 : decode cX10_seamsIn 61 = .ok (.iload 6, 2) := by decide +kernel
theorem dX10_seamsIn_63 : decode cX10_seamsIn 63 = .ok (.iadd, 1) := by decide +kernel
theorem dX10_seamsIn_64 : decode cX10_seamsIn 64 = .ok (.iload 5, 2) := by decide +kernel
theorem dX10_seamsIn_66 : decode cX10_seamsIn 66 = .ok (.iconst 1, 1) := by decide +kernel
theorem dX10_seamsIn_67 : decode cX10_seamsIn 67 = .ok (.iadd, 1) := by decide +kernel
theorem dX10_seamsIn_68 : decode cX10_seamsIn 68 = .ok (.iload 6, 2) := by decide +kernel
theorem dX10_seamsIn_70 : decode cX10_seamsIn 70 = .ok (.isub, 1) := by decide +kernel
theorem dX10_seamsIn_71 : decode cX10_seamsIn 71 = .ok (.invokevirtual 238, 3) := by decide +kernel
theorem dX10_seamsIn_74 : decode cX10_seamsIn 74 = .ok (.ifCond .eq 75, 3) := by decide +kernel
theorem dX10_seamsIn_77 : decode cX10_seamsIn 77 = .ok (.aload_n 0, 1) := by decide +kernel
theorem dX10_seamsIn_78 : decode cX10_seamsIn 78 = .ok (.aload_n 0, 1) := by decide +kernel
theorem dX10_seamsIn_79 : decode cX10_seamsIn 79 = .ok (.iload 4, 2) := by decide +kernel
theorem dX10_seamsIn_81 : decode cX10_seamsIn 81 = .ok (.iload 5, 2) := by decide +kernel
theorem dX10_seamsIn_83 : decode cX10_seamsIn 83 = .ok (.invokevirtual 105, 3) := by decide +kernel
theorem dX10_seamsIn_86 : decode cX10_seamsIn 86 = .ok (.aload_n 0, 1) := by decide +kernel
theorem dX10_seamsIn_87 : decode cX10_seamsIn 87 = .ok (.iload 4, 2) := by decide +kernel
theorem dX10_seamsIn_89 : decode cX10_seamsIn 89 = .ok (.iload 6, 2) := by decide +kernel
theorem dX10_seamsIn_91 : decode cX10_seamsIn 91 = .ok (.iadd, 1) := by decide +kernel
theorem dX10_seamsIn_92 : decode cX10_seamsIn 92 = .ok (.iload 5, 2) := by decide +kernel
theorem dX10_seamsIn_94 : decode cX10_seamsIn 94 = .ok (.iconst 1, 1) := by decide +kernel
theorem dX10_seamsIn_95 : decode cX10_seamsIn 95 = .ok (.iadd, 1) := by decide +kernel
theorem dX10_seamsIn_96 : decode cX10_seamsIn 96 = .ok (.iload 6, 2) := by decide +kernel
theorem dX10_seamsIn_98 : decode cX10_seamsIn 98 = .ok (.isub, 1) := by decide +kernel
theorem dX10_seamsIn_99 : decode cX10_seamsIn 99 = .ok (.invokevirtual 105, 3) := by decide +kernel
theorem dX10_seamsIn_102 : decode cX10_seamsIn 102 = .ok (.invokevirtual 242, 3) := by decide +kernel
theorem dX10_seamsIn_105 : decode cX10_seamsIn 105 = .ok (.fstore 7, 2) := by decide +kernel
theorem dX10_seamsIn_107 : decode cX10_seamsIn 107 = .ok (.aload_n 0, 1) := by decide +kernel
theorem dX10_seamsIn_108 : decode cX10_seamsIn 108 = .ok (.fload 7, 2) := by decide +kernel
theorem dX10_seamsIn_110 : decode cX10_seamsIn 110 = .ok (.aload_n 0, 1) := by decide +kernel
theorem dX10_seamsIn_111 : decode cX10_seamsIn 111 = .ok (.getfield 234, 3) := by decide +kernel
theorem dX10_seamsIn_114 : decode cX10_seamsIn 114 = .ok (.fcmp .l, 1) := by decide +kernel
theorem dX10_seamsIn_115 : decode cX10_seamsIn 115 = .ok (.ifCond .le 8, 3) := by decide +kernel
theorem dX10_seamsIn_118 : decode cX10_seamsIn 118 = .ok (.fload 7, 2) := by decide +kernel
theorem dX10_seamsIn_120 : decode cX10_seamsIn 120 = .ok (.goto 7, 3) := by decide +kernel
theorem dX10_seamsIn_123 : decode cX10_seamsIn 123 = .ok (.aload_n 0, 1) := by decide +kernel
theorem dX10_seamsIn_124 : decode cX10_seamsIn 124 = .ok (.getfield 234, 3) := by decide +kernel
theorem dX10_seamsIn_127 : decode cX10_seamsIn 127 = .ok (.putfield 234, 3) := by decide +kernel
theorem dX10_seamsIn_130 : decode cX10_seamsIn 130 = .ok (.iload_n 2, 1) := by decide +kernel
theorem dX10_seamsIn_131 : decode cX10_seamsIn 131 = .ok (.iload_n 1, 1) := by decide +kernel
theorem dX10_seamsIn_132 : decode cX10_seamsIn 132 = .ok (.ifCond .eq 10, 3) := by decide +kernel
theorem dX10_seamsIn_135 : decode cX10_seamsIn 135 = .ok (.fload 7, 2) := by decide +kernel
theorem dX10_seamsIn_137 : decode cX10_seamsIn 137 = .ok (.fload_n 3, 1) := by decide +kernel
theorem dX10_seamsIn_138 : decode cX10_seamsIn 138 = .ok (.fcmp .l, 1) := by decide +kernel
theorem dX10_seamsIn_139 : decode cX10_seamsIn 139 = .ok (.ifCond .le 7, 3) := by decide +kernel
theorem dX10_seamsIn_142 : decode cX10_seamsIn 142 = .ok (.iconst 1, 1) := by decide +kernel
theorem dX10_seamsIn_143 : decode cX10_seamsIn 143 = .ok (.goto 4, 3) := by decide +kernel
theorem dX10_seamsIn_146 : decode cX10_seamsIn 146 = .ok (.iconst 0, 1) := by decide +kernel
theorem dX10_seamsIn_147 : decode cX10_seamsIn 147 = .ok (.iadd, 1) := by decide +kernel
theorem dX10_seamsIn_148 : decode cX10_seamsIn 148 = .ok (.istore_n 2, 1) := by decide +kernel
theorem dX10_seamsIn_149 : decode cX10_seamsIn 149 = .ok (.iinc 6 1, 3) := by decide +kernel
theorem dX10_seamsIn_152 : decode cX10_seamsIn 152 = .ok (.goto (-104), 3) := by decide +kernel
theorem dX10_seamsIn_155 : decode cX10_seamsIn 155 = .ok (.iinc 5 1, 3) := by decide +kernel
theorem dX10_seamsIn_158 : decode cX10_seamsIn 158 = .ok (.goto (-124), 3) := by decide +kernel
theorem dX10_seamsIn_161 : decode cX10_seamsIn 161 = .ok (.iinc 4 1, 3) := by decide +kernel
theorem dX10_seamsIn_164 : decode cX10_seamsIn 164 = .ok (.goto (-144), 3) := by decide +kernel
theorem dX10_seamsIn_167 : decode cX10_seamsIn 167 = .ok (.iload_n 2, 1) := by decide +kernel
theorem dX10_seamsIn_168 : decode cX10_seamsIn 168 = .ok (.ireturn, 1) := by decide +kernel
theorem dX10_over_0 : decode cX10_over 0 = .ok (.iconst 0, 1) := by decide +kernel
theorem dX10_over_1 : decode cX10_over 1 = .ok (.istore_n 2, 1) := by decide +kernel
theorem dX10_over_2 : decode cX10_over 2 = .ok (.iconst 0, 1) := by decide +kernel
theorem dX10_over_3 : decode cX10_over 3 = .ok (.istore_n 3, 1) := by decide +kernel
theorem dX10_over_4 : decode cX10_over 4 = .ok (.iload_n 3, 1) := by decide +kernel
theorem dX10_over_5 : decode cX10_over 5 = .ok (.aload_n 0, 1) := by decide +kernel
theorem dX10_over_6 : decode cX10_over 6 = .ok (.getfield 7, 3) := by decide +kernel
theorem dX10_over_9 : decode cX10_over 9 = .ok (.iconst 2, 1) := by decide +kernel
theorem dX10_over_10 : decode cX10_over 10 = .ok (.iaload, 1) := by decide +kernel
theorem dX10_over_11 : decode cX10_over 11 = .ok (.if_icmp .ge 69, 3) := by decide +kernel
theorem dX10_over_14 : decode cX10_over 14 = .ok (.iload_n 1, 1) := by decide +kernel
theorem dX10_over_15 : decode cX10_over 15 = .ok (.iconst 5, 1) := by decide +kernel
theorem dX10_over_16 : decode cX10_over 16 = .ok (.if_icmp .ne 11, 3) := by decide +kernel
theorem dX10_over_19 : decode cX10_over 19 = .ok (.aload_n 0, 1) := by decide +kernel
theorem dX10_over_20 : decode cX10_over 20 = .ok (.iload_n 3, 1) := by decide +kernel
theorem dX10_over_21 : decode cX10_over 21 = .ok (.invokevirtual 200, 3) := by decide +kernel
theorem dX10_over_24 : decode cX10_over 24 = .ok (.goto 22, 3) := by decide +kernel
theorem dX10_over_27 : decode cX10_over 27 = .ok (.iload_n 1, 1) := by decide +kernel
theorem dX10_over_28 : decode cX10_over 28 = .ok (.bipush 11, 2) := by decide +kernel
theorem dX10_over_30 : decode cX10_over 30 = .ok (.if_icmp .ne 11, 3) := by decide +kernel
theorem dX10_over_33 : decode cX10_over 33 = .ok (.aload_n 0, 1) := by decide +kernel
theorem dX10_over_34 : decode cX10_over 34 = .ok (.iload_n 3, 1) := by decide +kernel
theorem dX10_over_35 : decode cX10_over 35 = .ok (.invokevirtual 194, 3) := by decide +kernel
theorem dX10_over_38 : decode cX10_over 38 = .ok (.goto 8, 3) := by decide +kernel
theorem dX10_over_41 : decode cX10_over 41 = .ok (.aload_n 0, 1) := by decide +kernel
theorem dX10_over_42 : decode cX10_over 42 = .ok (.iload_n 3, 1) := by decide +kernel
theorem dX10_over_43 : decode cX10_over 43 = .ok (.invokevirtual 197, 3) := by decide +kernel
theorem dX10_over_46 : decode cX10_over 46 = .ok (.istore 4, 2) := by decide +kernel
theorem dX10_over_48 : decode cX10_over 48 = .ok (.iload_n 1, 1) := by decide +kernel
theorem dX10_over_49 : decode cX10_over 49 = .ok (.bipush 11, 2) := by decide +kernel
theorem dX10_over_51 : decode cX10_over 51 = .ok (.if_icmp .ne 18, 3) := by decide +kernel
theorem dX10_over_54 : decode cX10_over 54 = .ok (.iload 4, 2) := by decide +kernel
theorem dX10_over_56 : decode cX10_over 56 = .ok (.iload_n 2, 1) := by decide +kernel
theorem dX10_over_57 : decode cX10_over 57 = .ok (.if_icmp .le 8, 3) := by decide +kernel
theorem dX10_over_60 : decode cX10_over 60 = .ok (.iload 4, 2) := by decide +kernel
theorem dX10_over_62 : decode cX10_over 62 = .ok (.goto 11, 3) := by decide +kernel
theorem dX10_over_65 : decode cX10_over 65 = .ok (.iload_n 2, 1) := by decide +kernel
theorem dX10_over_66 : decode cX10_over 66 = .ok (.goto 7, 3) := by decide +kernel
theorem dX10_over_69 : decode cX10_over 69 = .ok (.iload_n 2, 1) := by decide +kernel
theorem dX10_over_70 : decode cX10_over 70 = .ok (.iload 4, 2) := by decide +kernel
theorem dX10_over_72 : decode cX10_over 72 = .ok (.iadd, 1) := by decide +kernel
theorem dX10_over_73 : decode cX10_over 73 = .ok (.istore_n 2, 1) := by decide +kernel
theorem dX10_over_74 : decode cX10_over 74 = .ok (.iinc 3 1, 3) := by decide +kernel
theorem dX10_over_77 : decode cX10_over 77 = .ok (.goto (-73), 3) := by decide +kernel
theorem dX10_over_80 : decode cX10_over 80 = .ok (.iload_n 2, 1) := by decide +kernel
theorem dX10_over_81 : decode cX10_over 81 = .ok (.ireturn, 1) := by decide +kernel
theorem dX10_wholeOf_0 : decode cX10_wholeOf 0 = .ok (.iload_n 1, 1) := by decide +kernel
theorem dX10_wholeOf_1 : decode cX10_wholeOf 1 = .ok (.tableswitch 156 0 14 #[75, 75, 75, 75, 82, 156, 87, 87, 87, 128, 128, 156, 156, 144, 151], 75) := by decide +kernel
theorem dX10_wholeOf_76 : decode cX10_wholeOf 76 = .ok (.aload_n 0, 1) := by decide +kernel
theorem dX10_wholeOf_77 : decode cX10_wholeOf 77 = .ok (.getfield 7, 3) := by decide +kernel
theorem dX10_wholeOf_80 : decode cX10_wholeOf 80 = .ok (.iload_n 1, 1) := by decide +kernel
theorem dX10_wholeOf_81 : decode cX10_wholeOf 81 = .ok (.iaload, 1) := by decide +kernel
theorem dX10_wholeOf_82 : decode cX10_wholeOf 82 = .ok (.ireturn, 1) := by decide +kernel
theorem dX10_wholeOf_83 : decode cX10_wholeOf 83 = .ok (.aload_n 0, 1) := by decide +kernel
theorem dX10_wholeOf_84 : decode cX10_wholeOf 84 = .ok (.invokevirtual 140, 3) := by decide +kernel
theorem dX10_wholeOf_87 : decode cX10_wholeOf 87 = .ok (.ireturn, 1) := by decide +kernel
theorem dX10_wholeOf_88 : decode cX10_wholeOf 88 = .ok (.aload_n 0, 1) := by decide +kernel
theorem dX10_wholeOf_89 : decode cX10_wholeOf 89 = .ok (.aload_n 0, 1) := by decide +kernel
theorem dX10_wholeOf_90 : decode cX10_wholeOf 90 = .ok (.getfield 7, 3) := by decide +kernel
theorem dX10_wholeOf_93 : decode cX10_wholeOf 93 = .ok (.iconst 4, 1) := by decide +kernel
theorem dX10_wholeOf_94 : decode cX10_wholeOf 94 = .ok (.iaload, 1) := by decide +kernel
theorem dX10_wholeOf_95 : decode cX10_wholeOf 95 = .ok (.invokevirtual 122, 3) := by decide +kernel
theorem dX10_wholeOf_98 : decode cX10_wholeOf 98 = .ok (.iload_n 1, 1) := by decide +kernel
theorem dX10_wholeOf_99 : decode cX10_wholeOf 99 = .ok (.bipush 6, 2) := by decide +kernel
theorem dX10_wholeOf_101 : decode cX10_wholeOf 101 = .ok (.if_icmp .ne 10, 3) := by decide +kernel
theorem dX10_wholeOf_104 : decode cX10_wholeOf 104 = .ok (.aload_n 0, 1) := by decide +kernel
theorem dX10_wholeOf_105 : decode cX10_wholeOf 105 = .ok (.getfield 115, 3) := by decide +kernel
theorem dX10_wholeOf_108 : decode cX10_wholeOf 108 = .ok (.goto 20, 3) := by decide +kernel
theorem dX10_wholeOf_111 : decode cX10_wholeOf 111 = .ok (.iload_n 1, 1) := by decide +kernel
theorem dX10_wholeOf_112 : decode cX10_wholeOf 112 = .ok (.bipush 7, 2) := by decide +kernel
theorem dX10_wholeOf_114 : decode cX10_wholeOf 114 = .ok (.if_icmp .ne 10, 3) := by decide +kernel
theorem dX10_wholeOf_117 : decode cX10_wholeOf 117 = .ok (.aload_n 0, 1) := by decide +kernel
theorem dX10_wholeOf_118 : decode cX10_wholeOf 118 = .ok (.invokevirtual 147, 3) := by decide +kernel
theorem dX10_wholeOf_121 : decode cX10_wholeOf 121 = .ok (.goto 7, 3) := by decide +kernel
theorem dX10_wholeOf_124 : decode cX10_wholeOf 124 = .ok (.aload_n 0, 1) := by decide +kernel
theorem dX10_wholeOf_125 : decode cX10_wholeOf 125 = .ok (.invokevirtual 246, 3) := by decide +kernel
theorem dX10_wholeOf_128 : decode cX10_wholeOf 128 = .ok (.ireturn, 1) := by decide +kernel
theorem dX10_wholeOf_129 : decode cX10_wholeOf 129 = .ok (.aload_n 0, 1) := by decide +kernel
theorem dX10_wholeOf_130 : decode cX10_wholeOf 130 = .ok (.iload_n 1, 1) := by decide +kernel
theorem dX10_wholeOf_131 : decode cX10_wholeOf 131 = .ok (.bipush 10, 2) := by decide +kernel
theorem dX10_wholeOf_133 : decode cX10_wholeOf 133 = .ok (.if_icmp .ne 7, 3) := by decide +kernel
theorem dX10_wholeOf_136 : decode cX10_wholeOf 136 = .ok (.iconst 1, 1) := by decide +kernel
theorem dX10_wholeOf_137 : decode cX10_wholeOf 137 = .ok (.goto 4, 3) := by decide +kernel
theorem dX10_wholeOf_140 : decode cX10_wholeOf 140 = .ok (.iconst 0, 1) := by decide +kernel
theorem dX10_wholeOf_141 : decode cX10_wholeOf 141 = .ok (.invokevirtual 249, 3) := by decide +kernel
theorem dX10_wholeOf_144 : decode cX10_wholeOf 144 = .ok (.ireturn, 1) := by decide +kernel
theorem dX10_wholeOf_145 : decode cX10_wholeOf 145 = .ok (.aload_n 0, 1) := by decide +kernel
theorem dX10_wholeOf_146 : decode cX10_wholeOf 146 = .ok (.getfield 7, 3) := by decide +kernel
theorem dX10_wholeOf_149 : decode cX10_wholeOf 149 = .ok (.iconst 4, 1) := by decide +kernel
theorem dX10_wholeOf_150 : decode cX10_wholeOf 150 = .ok (.iaload, 1) := by decide +kernel
theorem dX10_wholeOf_151 : decode cX10_wholeOf 151 = .ok (.ireturn, 1) := by decide +kernel
theorem dX10_wholeOf_152 : decode cX10_wholeOf 152 = .ok (.aload_n 0, 1) := by decide +kernel
theorem dX10_wholeOf_153 : decode cX10_wholeOf 153 = .ok (.getfield 253, 3) := by decide +kernel
theorem dX10_wholeOf_156 : decode cX10_wholeOf 156 = .ok (.ireturn, 1) := by decide +kernel
theorem dX10_wholeOf_157 : decode cX10_wholeOf 157 = .ok (.aload_n 0, 1) := by decide +kernel
theorem dX10_wholeOf_158 : decode cX10_wholeOf 158 = .ok (.iload_n 1, 1) := by decide +kernel
theorem dX10_wholeOf_159 : decode cX10_wholeOf 159 = .ok (.invokevirtual 256, 3) := by decide +kernel
theorem dX10_wholeOf_162 : decode cX10_wholeOf 162 = .ok (.ireturn, 1) := by decide +kernel
theorem dX10_whole_0 : decode cX10_whole 0 = .ok (.iload_n 1, 1) := by decide +kernel
theorem dX10_whole_1 : decode cX10_whole 1 = .ok (.iconst 0, 1) := by decide +kernel
theorem dX10_whole_2 : decode cX10_whole 2 = .ok (.bipush 14, 2) := by decide +kernel
theorem dX10_whole_4 : decode cX10_whole 4 = .ok (.invokestatic 56, 3) := by decide +kernel
theorem dX10_whole_7 : decode cX10_whole 7 = .ok (.ifCond .eq 15, 3) := by decide +kernel
theorem dX10_whole_10 : decode cX10_whole 10 = .ok (.aload_n 0, 1) := by decide +kernel
theorem dX10_whole_11 : decode cX10_whole 11 = .ok (.aload_n 0, 1) := by decide +kernel
theorem dX10_whole_12 : decode cX10_whole 12 = .ok (.iload_n 1, 1) := by decide +kernel
theorem dX10_whole_13 : decode cX10_whole 13 = .ok (.invokevirtual 259, 3) := by decide +kernel
theorem dX10_whole_16 : decode cX10_whole 16 = .ok (.invokevirtual 156, 3) := by decide +kernel
theorem dX10_whole_19 : decode cX10_whole 19 = .ok (.goto 8, 3) := by decide +kernel
theorem dX10_whole_22 : decode cX10_whole 22 = .ok (.aload_n 0, 1) := by decide +kernel
theorem dX10_whole_23 : decode cX10_whole 23 = .ok (.iconst 1, 1) := by decide +kernel
theorem dX10_whole_24 : decode cX10_whole 24 = .ok (.invokevirtual 150, 3) := by decide +kernel
theorem dX10_whole_27 : decode cX10_whole 27 = .ok (.ireturn, 1) := by decide +kernel
theorem dX10_mean_0 : decode cX10_mean 0 = .ok (.fconst 0, 1) := by decide +kernel
theorem dX10_mean_1 : decode cX10_mean 1 = .ok (.fstore_n 2, 1) := by decide +kernel
theorem dX10_mean_2 : decode cX10_mean 2 = .ok (.iconst 0, 1) := by decide +kernel
theorem dX10_mean_3 : decode cX10_mean 3 = .ok (.istore_n 3, 1) := by decide +kernel
theorem dX10_mean_4 : decode cX10_mean 4 = .ok (.iconst 0, 1) := by decide +kernel
theorem dX10_mean_5 : decode cX10_mean 5 = .ok (.istore 4, 2) := by decide +kernel
theorem dX10_mean_7 : decode cX10_mean 7 = .ok (.iload 4, 2) := by decide +kernel
theorem dX10_mean_9 : decode cX10_mean 9 = .ok (.aload_n 0, 1) := by decide +kernel
theorem dX10_mean_10 : decode cX10_mean 10 = .ok (.getfield 7, 3) := by decide +kernel
theorem dX10_mean_13 : decode cX10_mean 13 = .ok (.iconst 2, 1) := by decide +kernel
theorem dX10_mean_14 : decode cX10_mean 14 = .ok (.iaload, 1) := by decide +kernel
theorem dX10_mean_15 : decode cX10_mean 15 = .ok (.if_icmp .ge 59, 3) := by decide +kernel
theorem dX10_mean_18 : decode cX10_mean 18 = .ok (.iconst 0, 1) := by decide +kernel
theorem dX10_mean_19 : decode cX10_mean 19 = .ok (.istore 5, 2) := by decide +kernel
theorem dX10_mean_21 : decode cX10_mean 21 = .ok (.iload 5, 2) := by decide +kernel
theorem dX10_mean_23 : decode cX10_mean 23 = .ok (.aload_n 0, 1) := by decide +kernel
theorem dX10_mean_24 : decode cX10_mean 24 = .ok (.getfield 7, 3) := by decide +kernel
theorem dX10_mean_27 : decode cX10_mean 27 = .ok (.iconst 0, 1) := by decide +kernel
theorem dX10_mean_28 : decode cX10_mean 28 = .ok (.iaload, 1) := by decide +kernel
theorem dX10_mean_29 : decode cX10_mean 29 = .ok (.if_icmp .ge 39, 3) := by decide +kernel
theorem dX10_mean_32 : decode cX10_mean 32 = .ok (.aload_n 0, 1) := by decide +kernel
theorem dX10_mean_33 : decode cX10_mean 33 = .ok (.iload 4, 2) := by decide +kernel
theorem dX10_mean_35 : decode cX10_mean 35 = .ok (.iload 5, 2) := by decide +kernel
theorem dX10_mean_37 : decode cX10_mean 37 = .ok (.invokevirtual 74, 3) := by decide +kernel
theorem dX10_mean_40 : decode cX10_mean 40 = .ok (.iload_n 1, 1) := by decide +kernel
theorem dX10_mean_41 : decode cX10_mean 41 = .ok (.if_icmp .ne 21, 3) := by decide +kernel
theorem dX10_mean_44 : decode cX10_mean 44 = .ok (.fload_n 2, 1) := by decide +kernel
theorem dX10_mean_45 : decode cX10_mean 45 = .ok (.aload_n 0, 1) := by decide +kernel
theorem dX10_mean_46 : decode cX10_mean 46 = .ok (.aload_n 0, 1) := by decide +kernel
theorem dX10_mean_47 : decode cX10_mean 47 = .ok (.iload 4, 2) := by decide +kernel
theorem dX10_mean_49 : decode cX10_mean 49 = .ok (.iload 5, 2) := by decide +kernel
theorem dX10_mean_51 : decode cX10_mean 51 = .ok (.invokevirtual 105, 3) := by decide +kernel
theorem dX10_mean_54 : decode cX10_mean 54 = .ok (.invokevirtual 227, 3) := by decide +kernel
theorem dX10_mean_57 : decode cX10_mean 57 = .ok (.fadd, 1) := by decide +kernel
theorem dX10_mean_58 : decode cX10_mean 58 = .ok (.fstore_n 2, 1) := by decide +kernel
theorem dX10_mean_59 : decode cX10_mean 59 = .ok (.iinc 3 1, 3) := by decide +kernel
theorem dX10_mean_62 : decode cX10_mean 62 = .ok (.iinc 5 1, 3) := by decide +kernel
theorem dX10_mean_65 : decode cX10_mean 65 = .ok (.goto (-44), 3) := by decide +kernel
theorem dX10_mean_68 : decode cX10_mean 68 = .ok (.iinc 4 1, 3) := by decide +kernel
theorem dX10_mean_71 : decode cX10_mean 71 = .ok (.goto (-64), 3) := by decide +kernel
theorem dX10_mean_74 : decode cX10_mean 74 = .ok (.iload_n 3, 1) := by decide +kernel
theorem dX10_mean_75 : decode cX10_mean 75 = .ok (.ifCond .ne 7, 3) := by decide +kernel
theorem dX10_mean_78 : decode cX10_mean 78 = .ok (.fconst 0, 1) := by decide +kernel
theorem dX10_mean_79 : decode cX10_mean 79 = .ok (.goto 7, 3) := by decide +kernel
theorem dX10_mean_82 : decode cX10_mean 82 = .ok (.fload_n 2, 1) := by decide +kernel
theorem dX10_mean_83 : decode cX10_mean 83 = .ok (.iload_n 3, 1) := by decide +kernel
theorem dX10_mean_84 : decode cX10_mean 84 = .ok (.i2f, 1) := by decide +kernel
theorem dX10_mean_85 : decode cX10_mean 85 = .ok (.fdiv, 1) := by decide +kernel
theorem dX10_mean_86 : decode cX10_mean 86 = .ok (.invokestatic 43, 3) := by decide +kernel
theorem dX10_mean_89 : decode cX10_mean 89 = .ok (.ireturn, 1) := by decide +kernel
theorem dX10_meanShade_0 : decode cX10_meanShade 0 = .ok (.iload_n 1, 1) := by decide +kernel
theorem dX10_meanShade_1 : decode cX10_meanShade 1 = .ok (.iconst 0, 1) := by decide +kernel
theorem dX10_meanShade_2 : decode cX10_meanShade 2 = .ok (.bipush 7, 2) := by decide +kernel
theorem dX10_meanShade_4 : decode cX10_meanShade 4 = .ok (.invokestatic 56, 3) := by decide +kernel
theorem dX10_meanShade_7 : decode cX10_meanShade 7 = .ok (.ifCond .eq 15, 3) := by decide +kernel
theorem dX10_meanShade_10 : decode cX10_meanShade 10 = .ok (.aload_n 0, 1) := by decide +kernel
theorem dX10_meanShade_11 : decode cX10_meanShade 11 = .ok (.aload_n 0, 1) := by decide +kernel
theorem dX10_meanShade_12 : decode cX10_meanShade 12 = .ok (.iload_n 1, 1) := by decide +kernel
theorem dX10_meanShade_13 : decode cX10_meanShade 13 = .ok (.invokevirtual 262, 3) := by decide +kernel
theorem dX10_meanShade_16 : decode cX10_meanShade 16 = .ok (.invokevirtual 156, 3) := by decide +kernel
theorem dX10_meanShade_19 : decode cX10_meanShade 19 = .ok (.goto 8, 3) := by decide +kernel
theorem dX10_meanShade_22 : decode cX10_meanShade 22 = .ok (.aload_n 0, 1) := by decide +kernel
theorem dX10_meanShade_23 : decode cX10_meanShade 23 = .ok (.iconst 1, 1) := by decide +kernel
theorem dX10_meanShade_24 : decode cX10_meanShade 24 = .ok (.invokevirtual 150, 3) := by decide +kernel
theorem dX10_meanShade_27 : decode cX10_meanShade 27 = .ok (.ireturn, 1) := by decide +kernel
theorem dX10_contrasts_0 : decode cX10_contrasts 0 = .ok (.fconst 0, 1) := by decide +kernel
theorem dX10_contrasts_1 : decode cX10_contrasts 1 = .ok (.fstore_n 2, 1) := by decide +kernel
theorem dX10_contrasts_2 : decode cX10_contrasts 2 = .ok (.iconst 0, 1) := by decide +kernel
theorem dX10_contrasts_3 : decode cX10_contrasts 3 = .ok (.istore_n 3, 1) := by decide +kernel
theorem dX10_contrasts_4 : decode cX10_contrasts 4 = .ok (.iload_n 3, 1) := by decide +kernel
theorem dX10_contrasts_5 : decode cX10_contrasts 5 = .ok (.iconst 1, 1) := by decide +kernel
theorem dX10_contrasts_6 : decode cX10_contrasts 6 = .ok (.iadd, 1) := by decide +kernel
theorem dX10_contrasts_7 : decode cX10_contrasts 7 = .ok (.aload_n 0, 1) := by decide +kernel
theorem dX10_contrasts_8 : decode cX10_contrasts 8 = .ok (.getfield 7, 3) := by decide +kernel
theorem dX10_contrasts_11 : decode cX10_contrasts 11 = .ok (.iconst 0, 1) := by decide +kernel
theorem dX10_contrasts_12 : decode cX10_contrasts 12 = .ok (.iaload, 1) := by decide +kernel
theorem dX10_contrasts_13 : decode cX10_contrasts 13 = .ok (.if_icmp .ge 30, 3) := by decide +kernel
theorem dX10_contrasts_16 : decode cX10_contrasts 16 = .ok (.fload_n 2, 1) := by decide +kernel
theorem dX10_contrasts_17 : decode cX10_contrasts 17 = .ok (.aload_n 0, 1) := by decide +kernel
theorem dX10_contrasts_18 : decode cX10_contrasts 18 = .ok (.aload_n 0, 1) := by decide +kernel
theorem dX10_contrasts_19 : decode cX10_contrasts 19 = .ok (.iload_n 1, 1) := by decide +kernel
theorem dX10_contrasts_20 : decode cX10_contrasts 20 = .ok (.iload_n 3, 1) := by decide +kernel
theorem dX10_contrasts_21 : decode cX10_contrasts 21 = .ok (.invokevirtual 105, 3) := by decide +kernel
theorem dX10_contrasts_24 : decode cX10_contrasts 24 = .ok (.aload_n 0, 1) := by decide +kernel
theorem dX10_contrasts_25 : decode cX10_contrasts 25 = .ok (.iload_n 1, 1) := by decide +kernel
theorem dX10_contrasts_26 : decode cX10_contrasts 26 = .ok (.iload_n 3, 1) := by decide +kernel
theorem dX10_contrasts_27 : decode cX10_contrasts 27 = .ok (.iconst 1, 1) := by decide +kernel
theorem dX10_contrasts_28 : decode cX10_contrasts 28 = .ok (.iadd, 1) := by decide +kernel
theorem dX10_contrasts_29 : decode cX10_contrasts 29 = .ok (.invokevirtual 105, 3) := by decide +kernel
theorem dX10_contrasts_32 : decode cX10_contrasts 32 = .ok (.invokevirtual 242, 3) := by decide +kernel
theorem dX10_contrasts_35 : decode cX10_contrasts 35 = .ok (.fadd, 1) := by decide +kernel
theorem dX10_contrasts_36 : decode cX10_contrasts 36 = .ok (.fstore_n 2, 1) := by decide +kernel
theorem dX10_contrasts_37 : decode cX10_contrasts 37 = .ok (.iinc 3 1, 3) := by decide +kernel
theorem dX10_contrasts_40 : decode cX10_contrasts 40 = .ok (.goto (-36), 3) := by decide +kernel
theorem dX10_contrasts_43 : decode cX10_contrasts 43 = .ok (.aload_n 0, 1) := by decide +kernel
theorem dX10_contrasts_44 : decode cX10_contrasts 44 = .ok (.getfield 7, 3) := by decide +kernel
theorem dX10_contrasts_47 : decode cX10_contrasts 47 = .ok (.iconst 0, 1) := by decide +kernel
theorem dX10_contrasts_48 : decode cX10_contrasts 48 = .ok (.iaload, 1) := by decide +kernel
theorem dX10_contrasts_49 : decode cX10_contrasts 49 = .ok (.iconst 1, 1) := by decide +kernel
theorem dX10_contrasts_50 : decode cX10_contrasts 50 = .ok (.if_icmp .ne 7, 3) := by decide +kernel
theorem dX10_contrasts_53 : decode cX10_contrasts 53 = .ok (.fconst 0, 1) := by decide +kernel
theorem dX10_contrasts_54 : decode cX10_contrasts 54 = .ok (.goto 14, 3) := by decide +kernel
theorem dX10_contrasts_57 : decode cX10_contrasts 57 = .ok (.fload_n 2, 1) := by decide +kernel
theorem dX10_contrasts_58 : decode cX10_contrasts 58 = .ok (.aload_n 0, 1) := by decide +kernel
theorem dX10_contrasts_59 : decode cX10_contrasts 59 = .ok (.getfield 7, 3) := by decide +kernel
theorem dX10_contrasts_62 : decode cX10_contrasts 62 = .ok (.iconst 0, 1) := by decide +kernel
theorem dX10_contrasts_63 : decode cX10_contrasts 63 = .ok (.iaload, 1) := by decide +kernel
theorem dX10_contrasts_64 : decode cX10_contrasts 64 = .ok (.iconst 1, 1) := by decide +kernel
theorem dX10_contrasts_65 : decode cX10_contrasts 65 = .ok (.isub, 1) := by decide +kernel
theorem dX10_contrasts_66 : decode cX10_contrasts 66 = .ok (.i2f, 1) := by decide +kernel
theorem dX10_contrasts_67 : decode cX10_contrasts 67 = .ok (.fdiv, 1) := by decide +kernel
theorem dX10_contrasts_68 : decode cX10_contrasts 68 = .ok (.invokestatic 43, 3) := by decide +kernel
theorem dX10_contrasts_71 : decode cX10_contrasts 71 = .ok (.ireturn, 1) := by decide +kernel
theorem dX10_contrast_0 : decode cX10_contrast 0 = .ok (.aload_n 0, 1) := by decide +kernel
theorem dX10_contrast_1 : decode cX10_contrast 1 = .ok (.iload_n 1, 1) := by decide +kernel
theorem dX10_contrast_2 : decode cX10_contrast 2 = .ok (.invokevirtual 112, 3) := by decide +kernel
theorem dX10_contrast_5 : decode cX10_contrast 5 = .ok (.ifCond .eq 15, 3) := by decide +kernel
theorem dX10_contrast_8 : decode cX10_contrast 8 = .ok (.aload_n 0, 1) := by decide +kernel
theorem dX10_contrast_9 : decode cX10_contrast 9 = .ok (.aload_n 0, 1) := by decide +kernel
theorem dX10_contrast_10 : decode cX10_contrast 10 = .ok (.iload_n 1, 1) := by decide +kernel
theorem dX10_contrast_11 : decode cX10_contrast 11 = .ok (.invokevirtual 265, 3) := by decide +kernel
theorem dX10_contrast_14 : decode cX10_contrast 14 = .ok (.invokevirtual 156, 3) := by decide +kernel
theorem dX10_contrast_17 : decode cX10_contrast 17 = .ok (.goto 8, 3) := by decide +kernel
theorem dX10_contrast_20 : decode cX10_contrast 20 = .ok (.aload_n 0, 1) := by decide +kernel
theorem dX10_contrast_21 : decode cX10_contrast 21 = .ok (.iconst 1, 1) := by decide +kernel
theorem dX10_contrast_22 : decode cX10_contrast 22 = .ok (.invokevirtual 150, 3) := by decide +kernel
theorem dX10_contrast_25 : decode cX10_contrast 25 = .ok (.ireturn, 1) := by decide +kernel
theorem dX10_worstOf_0 : decode cX10_worstOf 0 = .ok (.aload_n 0, 1) := by decide +kernel
theorem dX10_worstOf_1 : decode cX10_worstOf 1 = .ok (.iconst 0, 1) := by decide +kernel
theorem dX10_worstOf_2 : decode cX10_worstOf 2 = .ok (.invokevirtual 249, 3) := by decide +kernel
theorem dX10_worstOf_5 : decode cX10_worstOf 5 = .ok (.istore_n 1, 1) := by decide +kernel
theorem dX10_worstOf_6 : decode cX10_worstOf 6 = .ok (.iload_n 1, 1) := by decide +kernel
theorem dX10_worstOf_7 : decode cX10_worstOf 7 = .ok (.ifCond .ge 7, 3) := by decide +kernel
theorem dX10_worstOf_10 : decode cX10_worstOf 10 = .ok (.iconst (-1), 1) := by decide +kernel
theorem dX10_worstOf_11 : decode cX10_worstOf 11 = .ok (.goto 10, 3) := by decide +kernel
theorem dX10_worstOf_14 : decode cX10_worstOf 14 = .ok (.aload_n 0, 1) := by decide +kernel
theorem dX10_worstOf_15 : decode cX10_worstOf 15 = .ok (.getfield 234, 3) := by decide +kernel
theorem dX10_worstOf_18 : decode cX10_worstOf 18 = .ok (.invokestatic 43, 3) := by decide +kernel
theorem dX10_worstOf_21 : decode cX10_worstOf 21 = .ok (.ireturn, 1) := by decide +kernel
theorem dX10_worstSeam_0 : decode cX10_worstSeam 0 = .ok (.aload_n 0, 1) := by decide +kernel
theorem dX10_worstSeam_1 : decode cX10_worstSeam 1 = .ok (.aload_n 0, 1) := by decide +kernel
theorem dX10_worstSeam_2 : decode cX10_worstSeam 2 = .ok (.invokevirtual 268, 3) := by decide +kernel
theorem dX10_worstSeam_5 : decode cX10_worstSeam 5 = .ok (.invokevirtual 156, 3) := by decide +kernel
theorem dX10_worstSeam_8 : decode cX10_worstSeam 8 = .ok (.ireturn, 1) := by decide +kernel
theorem dX10_rowsPossible_0 : decode cX10_rowsPossible 0 = .ok (.iconst 0, 1) := by decide +kernel
theorem dX10_rowsPossible_1 : decode cX10_rowsPossible 1 = .ok (.istore_n 1, 1) := by decide +kernel
theorem dX10_rowsPossible_2 : decode cX10_rowsPossible 2 = .ok (.iload_n 1, 1) := by decide +kernel
theorem dX10_rowsPossible_3 : decode cX10_rowsPossible 3 = .ok (.bipush 8, 2) := by decide +kernel
theorem dX10_rowsPossible_5 : decode cX10_rowsPossible 5 = .ok (.if_icmp .ge 20, 3) := by decide +kernel
theorem dX10_rowsPossible_8 : decode cX10_rowsPossible 8 = .ok (.aload_n 0, 1) := by decide +kernel
theorem dX10_rowsPossible_9 : decode cX10_rowsPossible 9 = .ok (.getfield 28, 3) := by decide +kernel
theorem dX10_rowsPossible_12 : decode cX10_rowsPossible 12 = .ok (.iload_n 1, 1) := by decide +kernel
theorem dX10_rowsPossible_13 : decode cX10_rowsPossible 13 = .ok (.aload_n 0, 1) := by decide +kernel
theorem dX10_rowsPossible_14 : decode cX10_rowsPossible 14 = .ok (.iload_n 1, 1) := by decide +kernel
theorem dX10_rowsPossible_15 : decode cX10_rowsPossible 15 = .ok (.invokevirtual 95, 3) := by decide +kernel
theorem dX10_rowsPossible_18 : decode cX10_rowsPossible 18 = .ok (.iastore, 1) := by decide +kernel
theorem dX10_rowsPossible_19 : decode cX10_rowsPossible 19 = .ok (.iinc 1 1, 3) := by decide +kernel
theorem dX10_rowsPossible_22 : decode cX10_rowsPossible 22 = .ok (.goto (-20), 3) := by decide +kernel
theorem dX10_rowsPossible_25 : decode cX10_rowsPossible 25 = .ok (.iconst 0, 1) := by decide +kernel
theorem dX10_rowsPossible_26 : decode cX10_rowsPossible 26 = .ok (.istore_n 1, 1) := by decide +kernel
theorem dX10_rowsPossible_27 : decode cX10_rowsPossible 27 = .ok (.iconst 1, 1) := by decide +kernel
theorem dX10_rowsPossible_28 : decode cX10_rowsPossible 28 = .ok (.istore_n 2, 1) := by decide +kernel
theorem dX10_rowsPossible_29 : decode cX10_rowsPossible 29 = .ok (.aload_n 0, 1) := by decide +kernel
theorem dX10_rowsPossible_30 : decode cX10_rowsPossible 30 = .ok (.getfield 7, 3) := by decide +kernel
theorem dX10_rowsPossible_33 : decode cX10_rowsPossible 33 = .ok (.iconst 2, 1) := by decide +kernel
theorem dX10_rowsPossible_34 : decode cX10_rowsPossible 34 = .ok (.iaload, 1) := by decide +kernel
theorem dX10_rowsPossible_35 : decode cX10_rowsPossible 35 = .ok (.istore_n 3, 1) := by decide +kernel
theorem dX10_rowsPossible_36 : decode cX10_rowsPossible 36 = .ok (.iload_n 3, 1) := by decide +kernel
theorem dX10_rowsPossible_37 : decode cX10_rowsPossible 37 = .ok (.aload_n 0, 1) := by decide +kernel
theorem dX10_rowsPossible_38 : decode cX10_rowsPossible 38 = .ok (.getfield 7, 3) := by decide +kernel
theorem dX10_rowsPossible_41 : decode cX10_rowsPossible 41 = .ok (.iconst 1, 1) := by decide +kernel
theorem dX10_rowsPossible_42 : decode cX10_rowsPossible 42 = .ok (.iaload, 1) := by decide +kernel
theorem dX10_rowsPossible_43 : decode cX10_rowsPossible 43 = .ok (.if_icmp .ge 90, 3) := by decide +kernel
theorem dX10_rowsPossible_46 : decode cX10_rowsPossible 46 = .ok (.iload_n 2, 1) := by decide +kernel
theorem dX10_rowsPossible_47 : decode cX10_rowsPossible 47 = .ok (.ifCond .eq 86, 3) := by decide +kernel
theorem dX10_rowsPossible_50 : decode cX10_rowsPossible 50 = .ok (.aload_n 0, 1) := by decide +kernel
theorem dX10_rowsPossible_51 : decode cX10_rowsPossible 51 = .ok (.iload_n 3, 1) := by decide +kernel
theorem dX10_rowsPossible_52 : decode cX10_rowsPossible 52 = .ok (.iconst 0, 1) := by decide +kernel
theorem dX10_rowsPossible_53 : decode cX10_rowsPossible 53 = .ok (.invokevirtual 85, 3) := by decide +kernel
theorem dX10_rowsPossible_56 : decode cX10_rowsPossible 56 = .ok (.iconst 0, 1) := by decide +kernel
theorem dX10_rowsPossible_57 : decode cX10_rowsPossible 57 = .ok (.istore 4, 2) := by decide +kernel
theorem dX10_rowsPossible_59 : decode cX10_rowsPossible 59 = .ok (.iload 4, 2) := by decide +kernel
theorem dX10_rowsPossible_61 : decode cX10_rowsPossible 61 = .ok (.bipush 8, 2) := by decide +kernel
theorem dX10_rowsPossible_63 : decode cX10_rowsPossible 63 = .ok (.if_icmp .ge 52, 3) := by decide +kernel
theorem dX10_rowsPossible_66 : decode cX10_rowsPossible 66 = .ok (.aload_n 0, 1) := by decide +kernel
theorem dX10_rowsPossible_67 : decode cX10_rowsPossible 67 = .ok (.getfield 28, 3) := by decide +kernel
theorem dX10_rowsPossible_70 : decode cX10_rowsPossible 70 = .ok (.iload 4, 2) := by decide +kernel
theorem dX10_rowsPossible_72 : decode cX10_rowsPossible 72 = .ok (.dup2, 1) := by decide +kernel
theorem dX10_rowsPossible_73 : decode cX10_rowsPossible 73 = .ok (.iaload, 1) := by decide +kernel
theorem dX10_rowsPossible_74 : decode cX10_rowsPossible 74 = .ok (.aload_n 0, 1) := by decide +kernel
theorem dX10_rowsPossible_75 : decode cX10_rowsPossible 75 = .ok (.iload 4, 2) := by decide +kernel
theorem dX10_rowsPossible_77 : decode cX10_rowsPossible 77 = .ok (.invokevirtual 92, 3) := by decide +kernel
theorem dX10_rowsPossible_80 : decode cX10_rowsPossible 80 = .ok (.aload_n 0, 1) := by decide +kernel
theorem dX10_rowsPossible_81 : decode cX10_rowsPossible 81 = .ok (.iload 4, 2) := by decide +kernel
theorem dX10_rowsPossible_83 : decode cX10_rowsPossible 83 = .ok (.invokevirtual 89, 3) := by decide +kernel
theorem dX10_rowsPossible_86 : decode cX10_rowsPossible 86 = .ok (.iadd, 1) := by decide +kernel
theorem dX10_rowsPossible_87 : decode cX10_rowsPossible 87 = .ok (.isub, 1) := by decide +kernel
theorem dX10_rowsPossible_88 : decode cX10_rowsPossible 88 = .ok (.iastore, 1) := by decide +kernel
theorem dX10_rowsPossible_89 : decode cX10_rowsPossible 89 = .ok (.iload_n 2, 1) := by decide +kernel
theorem dX10_rowsPossible_90 : decode cX10_rowsPossible 90 = .ok (.ifCond .eq 17, 3) := by decide +kernel
theorem dX10_rowsPossible_93 : decode cX10_rowsPossible 93 = .ok (.aload_n 0, 1) := by decide +kernel
theorem dX10_rowsPossible_94 : decode cX10_rowsPossible 94 = .ok (.getfield 28, 3) := by decide +kernel
theorem dX10_rowsPossible_97 : decode cX10_rowsPossible 97 = .ok (.iload 4, 2) := by decide +kernel
theorem dX10_rowsPossible_99 : decode cX10_rowsPossible 99 = .ok (.iaload, 1) := by decide +kernel
theorem dX10_rowsPossible_100 : decode cX10_rowsPossible 100 = .ok (.ifCond .lt 7, 3) := by decide +kernel
theorem dX10_rowsPossible_103 : decode cX10_rowsPossible 103 = .ok (.iconst 1, 1) := by decide +kernel
theorem dX10_rowsPossible_104 : decode cX10_rowsPossible 104 = .ok (.goto 4, 3) := by decide +kernel
theorem dX10_rowsPossible_107 : decode cX10_rowsPossible 107 = .ok (.iconst 0, 1) := by decide +kernel
theorem dX10_rowsPossible_108 : decode cX10_rowsPossible 108 = .ok (.istore_n 2, 1) := by decide +kernel
theorem dX10_rowsPossible_109 : decode cX10_rowsPossible 109 = .ok (.iinc 4 1, 3) := by decide +kernel
theorem dX10_rowsPossible_112 : decode cX10_rowsPossible 112 = .ok (.goto (-53), 3) := by decide +kernel
theorem dX10_rowsPossible_115 : decode cX10_rowsPossible 115 = .ok (.iload_n 1, 1) := by decide +kernel
theorem dX10_rowsPossible_116 : decode cX10_rowsPossible 116 = .ok (.iload_n 2, 1) := by decide +kernel
theorem dX10_rowsPossible_117 : decode cX10_rowsPossible 117 = .ok (.ifCond .eq 7, 3) := by decide +kernel
theorem dX10_rowsPossible_120 : decode cX10_rowsPossible 120 = .ok (.iconst 1, 1) := by decide +kernel
theorem dX10_rowsPossible_121 : decode cX10_rowsPossible 121 = .ok (.goto 4, 3) := by decide +kernel
theorem dX10_rowsPossible_124 : decode cX10_rowsPossible 124 = .ok (.iconst 0, 1) := by decide +kernel
theorem dX10_rowsPossible_125 : decode cX10_rowsPossible 125 = .ok (.iadd, 1) := by decide +kernel
theorem dX10_rowsPossible_126 : decode cX10_rowsPossible 126 = .ok (.istore_n 1, 1) := by decide +kernel
theorem dX10_rowsPossible_127 : decode cX10_rowsPossible 127 = .ok (.iinc 3 1, 3) := by decide +kernel
theorem dX10_rowsPossible_130 : decode cX10_rowsPossible 130 = .ok (.goto (-94), 3) := by decide +kernel
theorem dX10_rowsPossible_133 : decode cX10_rowsPossible 133 = .ok (.aload_n 0, 1) := by decide +kernel
theorem dX10_rowsPossible_134 : decode cX10_rowsPossible 134 = .ok (.iload_n 1, 1) := by decide +kernel
theorem dX10_rowsPossible_135 : decode cX10_rowsPossible 135 = .ok (.invokevirtual 156, 3) := by decide +kernel
theorem dX10_rowsPossible_138 : decode cX10_rowsPossible 138 = .ok (.ireturn, 1) := by decide +kernel
theorem dX10_missing_0 : decode cX10_missing 0 = .ok (.iload_n 1, 1) := by decide +kernel
theorem dX10_missing_1 : decode cX10_missing 1 = .ok (.iconst 0, 1) := by decide +kernel
theorem dX10_missing_2 : decode cX10_missing 2 = .ok (.bipush 7, 2) := by decide +kernel
theorem dX10_missing_4 : decode cX10_missing 4 = .ok (.invokestatic 56, 3) := by decide +kernel
theorem dX10_missing_7 : decode cX10_missing 7 = .ok (.ifCond .ne 9, 3) := by decide +kernel
theorem dX10_missing_10 : decode cX10_missing 10 = .ok (.aload_n 0, 1) := by decide +kernel
theorem dX10_missing_11 : decode cX10_missing 11 = .ok (.iconst 1, 1) := by decide +kernel
theorem dX10_missing_12 : decode cX10_missing 12 = .ok (.invokevirtual 150, 3) := by decide +kernel
theorem dX10_missing_15 : decode cX10_missing 15 = .ok (.ireturn, 1) := by decide +kernel
theorem dX10_missing_16 : decode cX10_missing 16 = .ok (.aload_n 0, 1) := by decide +kernel
theorem dX10_missing_17 : decode cX10_missing 17 = .ok (.iload_n 1, 1) := by decide +kernel
theorem dX10_missing_18 : decode cX10_missing 18 = .ok (.iconst 5, 1) := by decide +kernel
theorem dX10_missing_19 : decode cX10_missing 19 = .ok (.invokevirtual 218, 3) := by decide +kernel
theorem dX10_missing_22 : decode cX10_missing 22 = .ok (.aload_n 0, 1) := by decide +kernel
theorem dX10_missing_23 : decode cX10_missing 23 = .ok (.iload_n 1, 1) := by decide +kernel
theorem dX10_missing_24 : decode cX10_missing 24 = .ok (.invokevirtual 95, 3) := by decide +kernel
theorem dX10_missing_27 : decode cX10_missing 27 = .ok (.isub, 1) := by decide +kernel
theorem dX10_missing_28 : decode cX10_missing 28 = .ok (.istore_n 2, 1) := by decide +kernel
theorem dX10_missing_29 : decode cX10_missing 29 = .ok (.aload_n 0, 1) := by decide +kernel
theorem dX10_missing_30 : decode cX10_missing 30 = .ok (.iload_n 2, 1) := by decide +kernel
theorem dX10_missing_31 : decode cX10_missing 31 = .ok (.ifCond .ge 7, 3) := by decide +kernel
theorem dX10_missing_34 : decode cX10_missing 34 = .ok (.iconst 0, 1) := by decide +kernel
theorem dX10_missing_35 : decode cX10_missing 35 = .ok (.goto 4, 3) := by decide +kernel
theorem dX10_missing_38 : decode cX10_missing 38 = .ok (.iload_n 2, 1) := by decide +kernel
theorem dX10_missing_39 : decode cX10_missing 39 = .ok (.invokevirtual 156, 3) := by decide +kernel
theorem dX10_missing_42 : decode cX10_missing 42 = .ok (.ireturn, 1) := by decide +kernel
theorem dX10_slitsWith_0 : decode cX10_slitsWith 0 = .ok (.iload_n 1, 1) := by decide +kernel
theorem dX10_slitsWith_1 : decode cX10_slitsWith 1 = .ok (.iconst 1, 1) := by decide +kernel
theorem dX10_slitsWith_2 : decode cX10_slitsWith 2 = .ok (.bipush 16, 2) := by decide +kernel
theorem dX10_slitsWith_4 : decode cX10_slitsWith 4 = .ok (.invokestatic 56, 3) := by decide +kernel
theorem dX10_slitsWith_7 : decode cX10_slitsWith 7 = .ok (.ifCond .ne 9, 3) := by decide +kernel
theorem dX10_slitsWith_10 : decode cX10_slitsWith 10 = .ok (.aload_n 0, 1) := by decide +kernel
theorem dX10_slitsWith_11 : decode cX10_slitsWith 11 = .ok (.iconst 1, 1) := by decide +kernel
theorem dX10_slitsWith_12 : decode cX10_slitsWith 12 = .ok (.invokevirtual 150, 3) := by decide +kernel
theorem dX10_slitsWith_15 : decode cX10_slitsWith 15 = .ok (.ireturn, 1) := by decide +kernel
theorem dX10_slitsWith_16 : decode cX10_slitsWith 16 = .ok (.aload_n 0, 1) := by decide +kernel
theorem dX10_slitsWith_17 : decode cX10_slitsWith 17 = .ok (.iload_n 1, 1) := by decide +kernel
theorem dX10_slitsWith_18 : decode cX10_slitsWith 18 = .ok (.invokevirtual 122, 3) := by decide +kernel
theorem dX10_slitsWith_21 : decode cX10_slitsWith 21 = .ok (.aload_n 0, 1) := by decide +kernel
theorem dX10_slitsWith_22 : decode cX10_slitsWith 22 = .ok (.aload_n 0, 1) := by decide +kernel
theorem dX10_slitsWith_23 : decode cX10_slitsWith 23 = .ok (.getfield 115, 3) := by decide +kernel
theorem dX10_slitsWith_26 : decode cX10_slitsWith 26 = .ok (.invokevirtual 156, 3) := by decide +kernel
theorem dX10_slitsWith_29 : decode cX10_slitsWith 29 = .ok (.ireturn, 1) := by decide +kernel
theorem dX10_firstWrong_0 : decode cX10_firstWrong 0 = .ok (.iconst 0, 1) := by decide +kernel
theorem dX10_firstWrong_1 : decode cX10_firstWrong 1 = .ok (.istore_n 1, 1) := by decide +kernel
theorem dX10_firstWrong_2 : decode cX10_firstWrong 2 = .ok (.iload_n 1, 1) := by decide +kernel
theorem dX10_firstWrong_3 : decode cX10_firstWrong 3 = .ok (.aload_n 0, 1) := by decide +kernel
theorem dX10_firstWrong_4 : decode cX10_firstWrong 4 = .ok (.getfield 7, 3) := by decide +kernel
theorem dX10_firstWrong_7 : decode cX10_firstWrong 7 = .ok (.iconst 2, 1) := by decide +kernel
theorem dX10_firstWrong_8 : decode cX10_firstWrong 8 = .ok (.iaload, 1) := by decide +kernel
theorem dX10_firstWrong_9 : decode cX10_firstWrong 9 = .ok (.if_icmp .ge 23, 3) := by decide +kernel
theorem dX10_firstWrong_12 : decode cX10_firstWrong 12 = .ok (.aload_n 0, 1) := by decide +kernel
theorem dX10_firstWrong_13 : decode cX10_firstWrong 13 = .ok (.iload_n 1, 1) := by decide +kernel
theorem dX10_firstWrong_14 : decode cX10_firstWrong 14 = .ok (.invokevirtual 200, 3) := by decide +kernel
theorem dX10_firstWrong_17 : decode cX10_firstWrong 17 = .ok (.ifCond .le 9, 3) := by decide +kernel
theorem dX10_firstWrong_20 : decode cX10_firstWrong 20 = .ok (.aload_n 0, 1) := by decide +kernel
theorem dX10_firstWrong_21 : decode cX10_firstWrong 21 = .ok (.iload_n 1, 1) := by decide +kernel
theorem dX10_firstWrong_22 : decode cX10_firstWrong 22 = .ok (.invokevirtual 156, 3) := by decide +kernel
theorem dX10_firstWrong_25 : decode cX10_firstWrong 25 = .ok (.ireturn, 1) := by decide +kernel
theorem dX10_firstWrong_26 : decode cX10_firstWrong 26 = .ok (.iinc 1 1, 3) := by decide +kernel
theorem dX10_firstWrong_29 : decode cX10_firstWrong 29 = .ok (.goto (-27), 3) := by decide +kernel
theorem dX10_firstWrong_32 : decode cX10_firstWrong 32 = .ok (.aload_n 0, 1) := by decide +kernel
theorem dX10_firstWrong_33 : decode cX10_firstWrong 33 = .ok (.iconst (-1), 1) := by decide +kernel
theorem dX10_firstWrong_34 : decode cX10_firstWrong 34 = .ok (.invokevirtual 156, 3) := by decide +kernel
theorem dX10_firstWrong_37 : decode cX10_firstWrong 37 = .ok (.ireturn, 1) := by decide +kernel
theorem dX10_shuttlesFor_0 : decode cX10_shuttlesFor 0 = .ok (.iload_n 1, 1) := by decide +kernel
theorem dX10_shuttlesFor_1 : decode cX10_shuttlesFor 1 = .ok (.iconst 0, 1) := by decide +kernel
theorem dX10_shuttlesFor_2 : decode cX10_shuttlesFor 2 = .ok (.aload_n 0, 1) := by decide +kernel
theorem dX10_shuttlesFor_3 : decode cX10_shuttlesFor 3 = .ok (.getfield 7, 3) := by decide +kernel
theorem dX10_shuttlesFor_6 : decode cX10_shuttlesFor 6 = .ok (.iconst 1, 1) := by decide +kernel
theorem dX10_shuttlesFor_7 : decode cX10_shuttlesFor 7 = .ok (.iaload, 1) := by decide +kernel
theorem dX10_shuttlesFor_8 : decode cX10_shuttlesFor 8 = .ok (.iconst 1, 1) := by decide +kernel
theorem dX10_shuttlesFor_9 : decode cX10_shuttlesFor 9 = .ok (.isub, 1) := by decide +kernel
theorem dX10_shuttlesFor_10 : decode cX10_shuttlesFor 10 = .ok (.invokestatic 56, 3) := by decide +kernel
theorem dX10_shuttlesFor_13 : decode cX10_shuttlesFor 13 = .ok (.ifCond .ne 9, 3) := by decide +kernel
theorem dX10_shuttlesFor_16 : decode cX10_shuttlesFor 16 = .ok (.aload_n 0, 1) := by decide +kernel
theorem dX10_shuttlesFor_17 : decode cX10_shuttlesFor 17 = .ok (.iconst 1, 1) := by decide +kernel
theorem dX10_shuttlesFor_18 : decode cX10_shuttlesFor 18 = .ok (.invokevirtual 150, 3) := by decide +kernel
theorem dX10_shuttlesFor_21 : decode cX10_shuttlesFor 21 = .ok (.ireturn, 1) := by decide +kernel
theorem dX10_shuttlesFor_22 : decode cX10_shuttlesFor 22 = .ok (.aload_n 0, 1) := by decide +kernel
theorem dX10_shuttlesFor_23 : decode cX10_shuttlesFor 23 = .ok (.iload_n 1, 1) := by decide +kernel
theorem dX10_shuttlesFor_24 : decode cX10_shuttlesFor 24 = .ok (.iconst 0, 1) := by decide +kernel
theorem dX10_shuttlesFor_25 : decode cX10_shuttlesFor 25 = .ok (.invokevirtual 85, 3) := by decide +kernel
theorem dX10_shuttlesFor_28 : decode cX10_shuttlesFor 28 = .ok (.aload_n 0, 1) := by decide +kernel
theorem dX10_shuttlesFor_29 : decode cX10_shuttlesFor 29 = .ok (.aload_n 0, 1) := by decide +kernel
theorem dX10_shuttlesFor_30 : decode cX10_shuttlesFor 30 = .ok (.invokevirtual 108, 3) := by decide +kernel
theorem dX10_shuttlesFor_33 : decode cX10_shuttlesFor 33 = .ok (.invokevirtual 156, 3) := by decide +kernel
theorem dX10_shuttlesFor_36 : decode cX10_shuttlesFor 36 = .ok (.ireturn, 1) := by decide +kernel
theorem dX10_type_0 : decode cX10_type 0 = .ok (.iload_n 1, 1) := by decide +kernel
theorem dX10_type_1 : decode cX10_type 1 = .ok (.iconst 0, 1) := by decide +kernel
theorem dX10_type_2 : decode cX10_type 2 = .ok (.bipush 127, 2) := by decide +kernel
theorem dX10_type_4 : decode cX10_type 4 = .ok (.invokestatic 56, 3) := by decide +kernel
theorem dX10_type_7 : decode cX10_type 7 = .ok (.ifCond .ne 9, 3) := by decide +kernel
theorem dX10_type_10 : decode cX10_type 10 = .ok (.aload_n 0, 1) := by decide +kernel
theorem dX10_type_11 : decode cX10_type 11 = .ok (.iconst 1, 1) := by decide +kernel
theorem dX10_type_12 : decode cX10_type 12 = .ok (.invokevirtual 150, 3) := by decide +kernel
theorem dX10_type_15 : decode cX10_type 15 = .ok (.ireturn, 1) := by decide +kernel
theorem dX10_type_16 : decode cX10_type 16 = .ok (.aload_n 0, 1) := by decide +kernel
theorem dX10_type_17 : decode cX10_type 17 = .ok (.getfield 253, 3) := by decide +kernel
theorem dX10_type_20 : decode cX10_type 20 = .ok (.sipush 150, 3) := by decide +kernel
theorem dX10_type_23 : decode cX10_type 23 = .ok (.if_icmp .ne 9, 3) := by decide +kernel
theorem dX10_type_26 : decode cX10_type 26 = .ok (.aload_n 0, 1) := by decide +kernel
theorem dX10_type_27 : decode cX10_type 27 = .ok (.iconst 2, 1) := by decide +kernel
theorem dX10_type_28 : decode cX10_type 28 = .ok (.invokevirtual 150, 3) := by decide +kernel
theorem dX10_type_31 : decode cX10_type 31 = .ok (.ireturn, 1) := by decide +kernel
theorem dX10_type_32 : decode cX10_type 32 = .ok (.aload_n 0, 1) := by decide +kernel
theorem dX10_type_33 : decode cX10_type 33 = .ok (.getfield 19, 3) := by decide +kernel
theorem dX10_type_36 : decode cX10_type 36 = .ok (.aload_n 0, 1) := by decide +kernel
theorem dX10_type_37 : decode cX10_type 37 = .ok (.getfield 253, 3) := by decide +kernel
theorem dX10_type_40 : decode cX10_type 40 = .ok (.iload_n 1, 1) := by decide +kernel
theorem dX10_type_41 : decode cX10_type 41 = .ok (.iastore, 1) := by decide +kernel
theorem dX10_type_42 : decode cX10_type 42 = .ok (.aload_n 0, 1) := by decide +kernel
theorem dX10_type_43 : decode cX10_type 43 = .ok (.dup, 1) := by decide +kernel
theorem dX10_type_44 : decode cX10_type 44 = .ok (.getfield 253, 3) := by decide +kernel
theorem dX10_type_47 : decode cX10_type 47 = .ok (.iconst 1, 1) := by decide +kernel
theorem dX10_type_48 : decode cX10_type 48 = .ok (.iadd, 1) := by decide +kernel
theorem dX10_type_49 : decode cX10_type 49 = .ok (.putfield 253, 3) := by decide +kernel
theorem dX10_type_52 : decode cX10_type 52 = .ok (.aload_n 0, 1) := by decide +kernel
theorem dX10_type_53 : decode cX10_type 53 = .ok (.aload_n 0, 1) := by decide +kernel
theorem dX10_type_54 : decode cX10_type 54 = .ok (.getfield 253, 3) := by decide +kernel
theorem dX10_type_57 : decode cX10_type 57 = .ok (.invokevirtual 156, 3) := by decide +kernel
theorem dX10_type_60 : decode cX10_type 60 = .ok (.ireturn, 1) := by decide +kernel
theorem dX10_clearCommands_0 : decode cX10_clearCommands 0 = .ok (.aload_n 0, 1) := by decide +kernel
theorem dX10_clearCommands_1 : decode cX10_clearCommands 1 = .ok (.getfield 253, 3) := by decide +kernel
theorem dX10_clearCommands_4 : decode cX10_clearCommands 4 = .ok (.istore_n 1, 1) := by decide +kernel
theorem dX10_clearCommands_5 : decode cX10_clearCommands 5 = .ok (.aload_n 0, 1) := by decide +kernel
theorem dX10_clearCommands_6 : decode cX10_clearCommands 6 = .ok (.iconst 0, 1) := by decide +kernel
theorem dX10_clearCommands_7 : decode cX10_clearCommands 7 = .ok (.putfield 253, 3) := by decide +kernel
theorem dX10_clearCommands_10 : decode cX10_clearCommands 10 = .ok (.aload_n 0, 1) := by decide +kernel
theorem dX10_clearCommands_11 : decode cX10_clearCommands 11 = .ok (.iload_n 1, 1) := by decide +kernel
theorem dX10_clearCommands_12 : decode cX10_clearCommands 12 = .ok (.invokevirtual 156, 3) := by decide +kernel
theorem dX10_clearCommands_15 : decode cX10_clearCommands 15 = .ok (.ireturn, 1) := by decide +kernel
theorem dX10_isAt_0 : decode cX10_isAt 0 = .ok (.aload_n 0, 1) := by decide +kernel
theorem dX10_isAt_1 : decode cX10_isAt 1 = .ok (.getfield 271, 3) := by decide +kernel
theorem dX10_isAt_4 : decode cX10_isAt 4 = .ok (.aload_n 0, 1) := by decide +kernel
theorem dX10_isAt_5 : decode cX10_isAt 5 = .ok (.getfield 253, 3) := by decide +kernel
theorem dX10_isAt_8 : decode cX10_isAt 8 = .ok (.if_icmp .ge 24, 3) := by decide +kernel
theorem dX10_isAt_11 : decode cX10_isAt 11 = .ok (.aload_n 0, 1) := by decide +kernel
theorem dX10_isAt_12 : decode cX10_isAt 12 = .ok (.getfield 19, 3) := by decide +kernel
theorem dX10_isAt_15 : decode cX10_isAt 15 = .ok (.aload_n 0, 1) := by decide +kernel
theorem dX10_isAt_16 : decode cX10_isAt 16 = .ok (.getfield 271, 3) := by decide +kernel
theorem dX10_isAt_19 : decode cX10_isAt 19 = .ok (.iaload, 1) := by decide +kernel
theorem dX10_isAt_20 : decode cX10_isAt 20 = .ok (.iload_n 1, 1) := by decide +kernel
theorem dX10_isAt_21 : decode cX10_isAt 21 = .ok (.iload_n 2, 1) := by decide +kernel
theorem dX10_isAt_22 : decode cX10_isAt 22 = .ok (.invokestatic 56, 3) := by decide +kernel
theorem dX10_isAt_25 : decode cX10_isAt 25 = .ok (.ifCond .eq 7, 3) := by decide +kernel
theorem dX10_isAt_28 : decode cX10_isAt 28 = .ok (.iconst 1, 1) := by decide +kernel
theorem dX10_isAt_29 : decode cX10_isAt 29 = .ok (.goto 4, 3) := by decide +kernel
theorem dX10_isAt_32 : decode cX10_isAt 32 = .ok (.iconst 0, 1) := by decide +kernel
theorem dX10_isAt_33 : decode cX10_isAt 33 = .ok (.ireturn, 1) := by decide +kernel
theorem dX10_passes_0 : decode cX10_passes 0 = .ok (.aload_n 0, 1) := by decide +kernel
theorem dX10_passes_1 : decode cX10_passes 1 = .ok (.bipush 32, 2) := by decide +kernel
theorem dX10_passes_3 : decode cX10_passes 3 = .ok (.bipush 32, 2) := by decide +kernel
theorem dX10_passes_5 : decode cX10_passes 5 = .ok (.invokevirtual 274, 3) := by decide +kernel
theorem dX10_passes_8 : decode cX10_passes 8 = .ok (.ifCond .eq 16, 3) := by decide +kernel
theorem dX10_passes_11 : decode cX10_passes 11 = .ok (.aload_n 0, 1) := by decide +kernel
theorem dX10_passes_12 : decode cX10_passes 12 = .ok (.dup, 1) := by decide +kernel
theorem dX10_passes_13 : decode cX10_passes 13 = .ok (.getfield 271, 3) := by decide +kernel
theorem dX10_passes_16 : decode cX10_passes 16 = .ok (.iconst 1, 1) := by decide +kernel
theorem dX10_passes_17 : decode cX10_passes 17 = .ok (.iadd, 1) := by decide +kernel
theorem dX10_passes_18 : decode cX10_passes 18 = .ok (.putfield 271, 3) := by decide +kernel
theorem dX10_passes_21 : decode cX10_passes 21 = .ok (.goto (-21), 3) := by decide +kernel
theorem dX10_passes_24 : decode cX10_passes 24 = .ok (.return_, 1) := by decide +kernel
theorem dX10_numbers_0 : decode cX10_numbers 0 = .ok (.iload_n 0, 1) := by decide +kernel
theorem dX10_numbers_1 : decode cX10_numbers 1 = .ok (.lookupswitch 83 #[(12788, 79), (19639, 81), (206220, 77), (635184, 75), (702607, 81), (3554952, 75), (12891444, 81), (24282821, 81)], 75) := by decide +kernel
theorem dX10_numbers_76 : decode cX10_numbers 76 = .ok (.iconst 2, 1) := by decide +kernel
theorem dX10_numbers_77 : decode cX10_numbers 77 = .ok (.ireturn, 1) := by decide +kernel
theorem dX10_numbers_78 : decode cX10_numbers 78 = .ok (.iconst 5, 1) := by decide +kernel
theorem dX10_numbers_79 : decode cX10_numbers 79 = .ok (.ireturn, 1) := by decide +kernel
theorem dX10_numbers_80 : decode cX10_numbers 80 = .ok (.iconst 3, 1) := by decide +kernel
theorem dX10_numbers_81 : decode cX10_numbers 81 = .ok (.ireturn, 1) := by decide +kernel
theorem dX10_numbers_82 : decode cX10_numbers 82 = .ok (.iconst 1, 1) := by decide +kernel
theorem dX10_numbers_83 : decode cX10_numbers 83 = .ok (.ireturn, 1) := by decide +kernel
theorem dX10_numbers_84 : decode cX10_numbers 84 = .ok (.iconst (-1), 1) := by decide +kernel
theorem dX10_numbers_85 : decode cX10_numbers 85 = .ok (.ireturn, 1) := by decide +kernel
theorem dX10_reads_0 : decode cX10_reads 0 = .ok (.aload_n 0, 1) := by decide +kernel
theorem dX10_reads_1 : decode cX10_reads 1 = .ok (.getfield 271, 3) := by decide +kernel
theorem dX10_reads_4 : decode cX10_reads 4 = .ok (.istore_n 1, 1) := by decide +kernel
theorem dX10_reads_5 : decode cX10_reads 5 = .ok (.aload_n 0, 1) := by decide +kernel
theorem dX10_reads_6 : decode cX10_reads 6 = .ok (.iconst 0, 1) := by decide +kernel
theorem dX10_reads_7 : decode cX10_reads 7 = .ok (.putfield 277, 3) := by decide +kernel
theorem dX10_reads_10 : decode cX10_reads 10 = .ok (.aload_n 0, 1) := by decide +kernel
theorem dX10_reads_11 : decode cX10_reads 11 = .ok (.bipush 97, 2) := by decide +kernel
theorem dX10_reads_13 : decode cX10_reads 13 = .ok (.bipush 122, 2) := by decide +kernel
theorem dX10_reads_15 : decode cX10_reads 15 = .ok (.invokevirtual 274, 3) := by decide +kernel
theorem dX10_reads_18 : decode cX10_reads 18 = .ok (.ifCond .eq 54, 3) := by decide +kernel
theorem dX10_reads_21 : decode cX10_reads 21 = .ok (.aload_n 0, 1) := by decide +kernel
theorem dX10_reads_22 : decode cX10_reads 22 = .ok (.aload_n 0, 1) := by decide +kernel
theorem dX10_reads_23 : decode cX10_reads 23 = .ok (.getfield 271, 3) := by decide +kernel
theorem dX10_reads_26 : decode cX10_reads 26 = .ok (.iload_n 1, 1) := by decide +kernel
theorem dX10_reads_27 : decode cX10_reads 27 = .ok (.isub, 1) := by decide +kernel
theorem dX10_reads_28 : decode cX10_reads 28 = .ok (.iconst 5, 1) := by decide +kernel
theorem dX10_reads_29 : decode cX10_reads 29 = .ok (.if_icmp .ge 26, 3) := by decide +kernel
theorem dX10_reads_32 : decode cX10_reads 32 = .ok (.bipush 32, 2) := by decide +kernel
theorem dX10_reads_34 : decode cX10_reads 34 = .ok (.aload_n 0, 1) := by decide +kernel
theorem dX10_reads_35 : decode cX10_reads 35 = .ok (.getfield 277, 3) := by decide +kernel
theorem dX10_reads_38 : decode cX10_reads 38 = .ok (.imul, 1) := by decide +kernel
theorem dX10_reads_39 : decode cX10_reads 39 = .ok (.aload_n 0, 1) := by decide +kernel
theorem dX10_reads_40 : decode cX10_reads 40 = .ok (.getfield 19, 3) := by decide +kernel
theorem dX10_reads_43 : decode cX10_reads 43 = .ok (.aload_n 0, 1) := by decide +kernel
theorem dX10_reads_44 : decode cX10_reads 44 = .ok (.getfield 271, 3) := by decide +kernel
theorem dX10_reads_47 : decode cX10_reads 47 = .ok (.iaload, 1) := by decide +kernel
theorem dX10_reads_48 : decode cX10_reads 48 = .ok (.iadd, 1) := by decide +kernel
theorem dX10_reads_49 : decode cX10_reads 49 = .ok (.bipush 96, 2) := by decide +kernel
theorem dX10_reads_51 : decode cX10_reads 51 = .ok (.isub, 1) := by decide +kernel
theorem dX10_reads_52 : decode cX10_reads 52 = .ok (.goto 4, 3) := by decide +kernel
theorem dX10_reads_55 : decode cX10_reads 55 = .ok (.iconst 0, 1) := by decide +kernel
theorem dX10_reads_56 : decode cX10_reads 56 = .ok (.putfield 277, 3) := by decide +kernel
theorem dX10_reads_59 : decode cX10_reads 59 = .ok (.aload_n 0, 1) := by decide +kernel
theorem dX10_reads_60 : decode cX10_reads 60 = .ok (.dup, 1) := by decide +kernel
theorem dX10_reads_61 : decode cX10_reads 61 = .ok (.getfield 271, 3) := by decide +kernel
theorem dX10_reads_64 : decode cX10_reads 64 = .ok (.iconst 1, 1) := by decide +kernel
theorem dX10_reads_65 : decode cX10_reads 65 = .ok (.iadd, 1) := by decide +kernel
theorem dX10_reads_66 : decode cX10_reads 66 = .ok (.putfield 271, 3) := by decide +kernel
theorem dX10_reads_69 : decode cX10_reads 69 = .ok (.goto (-59), 3) := by decide +kernel
theorem dX10_reads_72 : decode cX10_reads 72 = .ok (.aload_n 0, 1) := by decide +kernel
theorem dX10_reads_73 : decode cX10_reads 73 = .ok (.getfield 271, 3) := by decide +kernel
theorem dX10_reads_76 : decode cX10_reads 76 = .ok (.iload_n 1, 1) := by decide +kernel
theorem dX10_reads_77 : decode cX10_reads 77 = .ok (.isub, 1) := by decide +kernel
theorem dX10_reads_78 : decode cX10_reads 78 = .ok (.bipush 6, 2) := by decide +kernel
theorem dX10_reads_80 : decode cX10_reads 80 = .ok (.if_icmp .ge 10, 3) := by decide +kernel
theorem dX10_reads_83 : decode cX10_reads 83 = .ok (.aload_n 0, 1) := by decide +kernel
theorem dX10_reads_84 : decode cX10_reads 84 = .ok (.getfield 277, 3) := by decide +kernel
theorem dX10_reads_87 : decode cX10_reads 87 = .ok (.goto 4, 3) := by decide +kernel
theorem dX10_reads_90 : decode cX10_reads 90 = .ok (.iconst 0, 1) := by decide +kernel
theorem dX10_reads_91 : decode cX10_reads 91 = .ok (.invokestatic 280, 3) := by decide +kernel
theorem dX10_reads_94 : decode cX10_reads 94 = .ok (.istore_n 2, 1) := by decide +kernel
theorem dX10_reads_95 : decode cX10_reads 95 = .ok (.iload_n 2, 1) := by decide +kernel
theorem dX10_reads_96 : decode cX10_reads 96 = .ok (.ifCond .ge 5, 3) := by decide +kernel
theorem dX10_reads_99 : decode cX10_reads 99 = .ok (.iload_n 1, 1) := by decide +kernel
theorem dX10_reads_100 : decode cX10_reads 100 = .ok (.ireturn, 1) := by decide +kernel
theorem dX10_reads_101 : decode cX10_reads 101 = .ok (.iconst 0, 1) := by decide +kernel
theorem dX10_reads_102 : decode cX10_reads 102 = .ok (.istore_n 3, 1) := by decide +kernel
theorem dX10_reads_103 : decode cX10_reads 103 = .ok (.iload_n 3, 1) := by decide +kernel
theorem dX10_reads_104 : decode cX10_reads 104 = .ok (.iload_n 2, 1) := by decide +kernel
theorem dX10_reads_105 : decode cX10_reads 105 = .ok (.if_icmp .ge 120, 3) := by decide +kernel
theorem dX10_reads_108 : decode cX10_reads 108 = .ok (.aload_n 0, 1) := by decide +kernel
theorem dX10_reads_109 : decode cX10_reads 109 = .ok (.getfield 271, 3) := by decide +kernel
theorem dX10_reads_112 : decode cX10_reads 112 = .ok (.istore 4, 2) := by decide +kernel
theorem dX10_reads_114 : decode cX10_reads 114 = .ok (.aload_n 0, 1) := by decide +kernel
theorem dX10_reads_115 : decode cX10_reads 115 = .ok (.invokevirtual 283, 3) := by decide +kernel
theorem dX10_reads_118 : decode cX10_reads 118 = .ok (.aload_n 0, 1) := by decide +kernel
theorem dX10_reads_119 : decode cX10_reads 119 = .ok (.getfield 271, 3) := by decide +kernel
theorem dX10_reads_122 : decode cX10_reads 122 = .ok (.iload 4, 2) := by decide +kernel
theorem dX10_reads_124 : decode cX10_reads 124 = .ok (.if_icmp .eq 14, 3) := by decide +kernel
theorem dX10_reads_127 : decode cX10_reads 127 = .ok (.aload_n 0, 1) := by decide +kernel
theorem dX10_reads_128 : decode cX10_reads 128 = .ok (.bipush 48, 2) := by decide +kernel
theorem dX10_reads_130 : decode cX10_reads 130 = .ok (.bipush 57, 2) := by decide +kernel
theorem dX10_reads_132 : decode cX10_reads 132 = .ok (.invokevirtual 274, 3) := by decide +kernel
theorem dX10_reads_135 : decode cX10_reads 135 = .ok (.ifCond .ne 8, 3) := by decide +kernel
theorem dX10_reads_138 : decode cX10_reads 138 = .ok (.aload_n 0, 1) := by decide +kernel
theorem dX10_reads_139 : decode cX10_reads 139 = .ok (.getfield 271, 3) := by decide +kernel
theorem dX10_reads_142 : decode cX10_reads 142 = .ok (.ireturn, 1) := by decide +kernel
theorem dX10_reads_143 : decode cX10_reads 143 = .ok (.aload_n 0, 1) := by decide +kernel
theorem dX10_reads_144 : decode cX10_reads 144 = .ok (.getfield 40, 3) := by decide +kernel
theorem dX10_reads_147 : decode cX10_reads 147 = .ok (.iload_n 3, 1) := by decide +kernel
theorem dX10_reads_148 : decode cX10_reads 148 = .ok (.iconst 0, 1) := by decide +kernel
theorem dX10_reads_149 : decode cX10_reads 149 = .ok (.iastore, 1) := by decide +kernel
theorem dX10_reads_150 : decode cX10_reads 150 = .ok (.aload_n 0, 1) := by decide +kernel
theorem dX10_reads_151 : decode cX10_reads 151 = .ok (.getfield 271, 3) := by decide +kernel
theorem dX10_reads_154 : decode cX10_reads 154 = .ok (.istore 5, 2) := by decide +kernel
theorem dX10_reads_156 : decode cX10_reads 156 = .ok (.aload_n 0, 1) := by decide +kernel
theorem dX10_reads_157 : decode cX10_reads 157 = .ok (.getfield 271, 3) := by decide +kernel
theorem dX10_reads_160 : decode cX10_reads 160 = .ok (.iload 5, 2) := by decide +kernel
theorem dX10_reads_162 : decode cX10_reads 162 = .ok (.iconst 3, 1) := by decide +kernel
theorem dX10_reads_163 : decode cX10_reads 163 = .ok (.iadd, 1) := by decide +kernel
theorem dX10_reads_164 : decode cX10_reads 164 = .ok (.if_icmp .ge 55, 3) := by decide +kernel
theorem dX10_reads_167 : decode cX10_reads 167 = .ok (.aload_n 0, 1) := by decide +kernel
theorem dX10_reads_168 : decode cX10_reads 168 = .ok (.bipush 48, 2) := by decide +kernel
theorem dX10_reads_170 : decode cX10_reads 170 = .ok (.bipush 57, 2) := by decide +kernel
theorem dX10_reads_172 : decode cX10_reads 172 = .ok (.invokevirtual 274, 3) := by decide +kernel
theorem dX10_reads_175 : decode cX10_reads 175 = .ok (.ifCond .eq 44, 3) := by decide +kernel
theorem dX10_reads_178 : decode cX10_reads 178 = .ok (.aload_n 0, 1) := by decide +kernel
theorem dX10_reads_179 : decode cX10_reads 179 = .ok (.getfield 40, 3) := by decide +kernel
theorem dX10_reads_182 : decode cX10_reads 182 = .ok (.iload_n 3, 1) := by decide +kernel
theorem dX10_reads_183 : decode cX10_reads 183 = .ok (.bipush 10, 2) := by decide +kernel
theorem dX10_reads_185 : decode cX10_reads 185 = .ok (.aload_n 0, 1) := by decide +kernel
theorem dX10_reads_186 : decode cX10_reads 186 = .ok (.getfield 40, 3) := by decide +kernel
theorem dX10_reads_189 : decode cX10_reads 189 = .ok (.iload_n 3, 1) := by decide +kernel
theorem dX10_reads_190 : decode cX10_reads 190 = .ok (.iaload, 1) := by decide +kernel
theorem dX10_reads_191 : decode cX10_reads 191 = .ok (.imul, 1) := by decide +kernel
theorem dX10_reads_192 : decode cX10_reads 192 = .ok (.aload_n 0, 1) := by decide +kernel
theorem dX10_reads_193 : decode cX10_reads 193 = .ok (.getfield 19, 3) := by decide +kernel
theorem dX10_reads_196 : decode cX10_reads 196 = .ok (.aload_n 0, 1) := by decide +kernel
theorem dX10_reads_197 : decode cX10_reads 197 = .ok (.getfield 271, 3) := by decide +kernel
theorem dX10_reads_200 : decode cX10_reads 200 = .ok (.iaload, 1) := by decide +kernel
theorem dX10_reads_201 : decode cX10_reads 201 = .ok (.iadd, 1) := by decide +kernel
theorem dX10_reads_202 : decode cX10_reads 202 = .ok (.bipush 48, 2) := by decide +kernel
theorem dX10_reads_204 : decode cX10_reads 204 = .ok (.isub, 1) := by decide +kernel
theorem dX10_reads_205 : decode cX10_reads 205 = .ok (.iastore, 1) := by decide +kernel
theorem dX10_reads_206 : decode cX10_reads 206 = .ok (.aload_n 0, 1) := by decide +kernel
theorem dX10_reads_207 : decode cX10_reads 207 = .ok (.dup, 1) := by decide +kernel
theorem dX10_reads_208 : decode cX10_reads 208 = .ok (.getfield 271, 3) := by decide +kernel
theorem dX10_reads_211 : decode cX10_reads 211 = .ok (.iconst 1, 1) := by decide +kernel
theorem dX10_reads_212 : decode cX10_reads 212 = .ok (.iadd, 1) := by decide +kernel
theorem dX10_reads_213 : decode cX10_reads 213 = .ok (.putfield 271, 3) := by decide +kernel
theorem dX10_reads_216 : decode cX10_reads 216 = .ok (.goto (-60), 3) := by decide +kernel
theorem dX10_reads_219 : decode cX10_reads 219 = .ok (.iinc 3 1, 3) := by decide +kernel
theorem dX10_reads_222 : decode cX10_reads 222 = .ok (.goto (-119), 3) := by decide +kernel
theorem dX10_reads_225 : decode cX10_reads 225 = .ok (.aload_n 0, 1) := by decide +kernel
theorem dX10_reads_226 : decode cX10_reads 226 = .ok (.invokevirtual 283, 3) := by decide +kernel
theorem dX10_reads_229 : decode cX10_reads 229 = .ok (.aload_n 0, 1) := by decide +kernel
theorem dX10_reads_230 : decode cX10_reads 230 = .ok (.bipush 59, 2) := by decide +kernel
theorem dX10_reads_232 : decode cX10_reads 232 = .ok (.bipush 59, 2) := by decide +kernel
theorem dX10_reads_234 : decode cX10_reads 234 = .ok (.invokevirtual 274, 3) := by decide +kernel
theorem dX10_reads_237 : decode cX10_reads 237 = .ok (.ifCond .ne 8, 3) := by decide +kernel
theorem dX10_reads_240 : decode cX10_reads 240 = .ok (.aload_n 0, 1) := by decide +kernel
theorem dX10_reads_241 : decode cX10_reads 241 = .ok (.getfield 271, 3) := by decide +kernel
theorem dX10_reads_244 : decode cX10_reads 244 = .ok (.ireturn, 1) := by decide +kernel
theorem dX10_reads_245 : decode cX10_reads 245 = .ok (.aload_n 0, 1) := by decide +kernel
theorem dX10_reads_246 : decode cX10_reads 246 = .ok (.dup, 1) := by decide +kernel
theorem dX10_reads_247 : decode cX10_reads 247 = .ok (.getfield 271, 3) := by decide +kernel
theorem dX10_reads_250 : decode cX10_reads 250 = .ok (.iconst 1, 1) := by decide +kernel
theorem dX10_reads_251 : decode cX10_reads 251 = .ok (.iadd, 1) := by decide +kernel
theorem dX10_reads_252 : decode cX10_reads 252 = .ok (.putfield 271, 3) := by decide +kernel
theorem dX10_reads_255 : decode cX10_reads 255 = .ok (.iconst (-1), 1) := by decide +kernel
theorem dX10_reads_256 : decode cX10_reads 256 = .ok (.ireturn, 1) := by decide +kernel
theorem dX10_fault_0 : decode cX10_fault 0 = .ok (.aload_n 0, 1) := by decide +kernel
theorem dX10_fault_1 : decode cX10_fault 1 = .ok (.iconst 0, 1) := by decide +kernel
theorem dX10_fault_2 : decode cX10_fault 2 = .ok (.putfield 271, 3) := by decide +kernel
theorem dX10_fault_5 : decode cX10_fault 5 = .ok (.aload_n 0, 1) := by decide +kernel
theorem dX10_fault_6 : decode cX10_fault 6 = .ok (.invokevirtual 283, 3) := by decide +kernel
theorem dX10_fault_9 : decode cX10_fault 9 = .ok (.aload_n 0, 1) := by decide +kernel
theorem dX10_fault_10 : decode cX10_fault 10 = .ok (.getfield 271, 3) := by decide +kernel
theorem dX10_fault_13 : decode cX10_fault 13 = .ok (.aload_n 0, 1) := by decide +kernel
theorem dX10_fault_14 : decode cX10_fault 14 = .ok (.getfield 253, 3) := by decide +kernel
theorem dX10_fault_17 : decode cX10_fault 17 = .ok (.if_icmp .ge 22, 3) := by decide +kernel
theorem dX10_fault_20 : decode cX10_fault 20 = .ok (.aload_n 0, 1) := by decide +kernel
theorem dX10_fault_21 : decode cX10_fault 21 = .ok (.invokevirtual 286, 3) := by decide +kernel
theorem dX10_fault_24 : decode cX10_fault 24 = .ok (.istore_n 1, 1) := by decide +kernel
theorem dX10_fault_25 : decode cX10_fault 25 = .ok (.iload_n 1, 1) := by decide +kernel
theorem dX10_fault_26 : decode cX10_fault 26 = .ok (.iconst (-1), 1) := by decide +kernel
theorem dX10_fault_27 : decode cX10_fault 27 = .ok (.if_icmp .eq 5, 3) := by decide +kernel
theorem dX10_fault_30 : decode cX10_fault 30 = .ok (.iload_n 1, 1) := by decide +kernel
theorem dX10_fault_31 : decode cX10_fault 31 = .ok (.ireturn, 1) := by decide +kernel
theorem dX10_fault_32 : decode cX10_fault 32 = .ok (.aload_n 0, 1) := by decide +kernel
theorem dX10_fault_33 : decode cX10_fault 33 = .ok (.invokevirtual 283, 3) := by decide +kernel
theorem dX10_fault_36 : decode cX10_fault 36 = .ok (.goto (-27), 3) := by decide +kernel
theorem dX10_fault_39 : decode cX10_fault 39 = .ok (.iconst (-1), 1) := by decide +kernel
theorem dX10_fault_40 : decode cX10_fault 40 = .ok (.ireturn, 1) := by decide +kernel
theorem dX10_does_0 : decode cX10_does 0 = .ok (.aload_n 0, 1) := by decide +kernel
theorem dX10_does_1 : decode cX10_does 1 = .ok (.getfield 277, 3) := by decide +kernel
theorem dX10_does_4 : decode cX10_does 4 = .ok (.lookupswitch 197 #[(12788, 137), (19639, 186), (206220, 102), (635184, 85), (702607, 175), (3554952, 68), (24282821, 164)], 68) := by decide +kernel
theorem dX10_does_72 : decode cX10_does 72 = .ok (.aload_n 0, 1) := by decide +kernel
theorem dX10_does_73 : decode cX10_does 73 = .ok (.aload_n 0, 1) := by decide +kernel
theorem dX10_does_74 : decode cX10_does 74 = .ok (.getfield 40, 3) := by decide +kernel
theorem dX10_does_77 : decode cX10_does 77 = .ok (.iconst 0, 1) := by decide +kernel
theorem dX10_does_78 : decode cX10_does 78 = .ok (.iaload, 1) := by decide +kernel
theorem dX10_does_79 : decode cX10_does 79 = .ok (.aload_n 0, 1) := by decide +kernel
theorem dX10_does_80 : decode cX10_does 80 = .ok (.getfield 40, 3) := by decide +kernel
theorem dX10_does_83 : decode cX10_does 83 = .ok (.iconst 1, 1) := by decide +kernel
theorem dX10_does_84 : decode cX10_does 84 = .ok (.iaload, 1) := by decide +kernel
theorem dX10_does_85 : decode cX10_does 85 = .ok (.invokevirtual 162, 3) := by decide +kernel
theorem dX10_does_88 : decode cX10_does 88 = .ok (.ireturn, 1) := by decide +kernel
theorem dX10_does_89 : decode cX10_does 89 = .ok (.aload_n 0, 1) := by decide +kernel
theorem dX10_does_90 : decode cX10_does 90 = .ok (.aload_n 0, 1) := by decide +kernel
theorem dX10_does_91 : decode cX10_does 91 = .ok (.getfield 40, 3) := by decide +kernel
theorem dX10_does_94 : decode cX10_does 94 = .ok (.iconst 0, 1) := by decide +kernel
theorem dX10_does_95 : decode cX10_does 95 = .ok (.iaload, 1) := by decide +kernel
theorem dX10_does_96 : decode cX10_does 96 = .ok (.aload_n 0, 1) := by decide +kernel
theorem dX10_does_97 : decode cX10_does 97 = .ok (.getfield 40, 3) := by decide +kernel
theorem dX10_does_100 : decode cX10_does 100 = .ok (.iconst 1, 1) := by decide +kernel
theorem dX10_does_101 : decode cX10_does 101 = .ok (.iaload, 1) := by decide +kernel
theorem dX10_does_102 : decode cX10_does 102 = .ok (.invokevirtual 179, 3) := by decide +kernel
theorem dX10_does_105 : decode cX10_does 105 = .ok (.ireturn, 1) := by decide +kernel
theorem dX10_does_106 : decode cX10_does 106 = .ok (.aload_n 0, 1) := by decide +kernel
theorem dX10_does_107 : decode cX10_does 107 = .ok (.aload_n 0, 1) := by decide +kernel
theorem dX10_does_108 : decode cX10_does 108 = .ok (.getfield 40, 3) := by decide +kernel
theorem dX10_does_111 : decode cX10_does 111 = .ok (.iconst 0, 1) := by decide +kernel
theorem dX10_does_112 : decode cX10_does 112 = .ok (.iaload, 1) := by decide +kernel
theorem dX10_does_113 : decode cX10_does 113 = .ok (.aload_n 0, 1) := by decide +kernel
theorem dX10_does_114 : decode cX10_does 114 = .ok (.getfield 40, 3) := by decide +kernel
theorem dX10_does_117 : decode cX10_does 117 = .ok (.iconst 1, 1) := by decide +kernel
theorem dX10_does_118 : decode cX10_does 118 = .ok (.iaload, 1) := by decide +kernel
theorem dX10_does_119 : decode cX10_does 119 = .ok (.aload_n 0, 1) := by decide +kernel
theorem dX10_does_120 : decode cX10_does 120 = .ok (.getfield 40, 3) := by decide +kernel
theorem dX10_does_123 : decode cX10_does 123 = .ok (.iconst 2, 1) := by decide +kernel
theorem dX10_does_124 : decode cX10_does 124 = .ok (.iaload, 1) := by decide +kernel
theorem dX10_does_125 : decode cX10_does 125 = .ok (.aload_n 0, 1) := by decide +kernel
theorem dX10_does_126 : decode cX10_does 126 = .ok (.getfield 40, 3) := by decide +kernel
theorem dX10_does_129 : decode cX10_does 129 = .ok (.iconst 3, 1) := by decide +kernel
theorem dX10_does_130 : decode cX10_does 130 = .ok (.iaload, 1) := by decide +kernel
theorem dX10_does_131 : decode cX10_does 131 = .ok (.aload_n 0, 1) := by decide +kernel
theorem dX10_does_132 : decode cX10_does 132 = .ok (.getfield 40, 3) := by decide +kernel
theorem dX10_does_135 : decode cX10_does 135 = .ok (.iconst 4, 1) := by decide +kernel
theorem dX10_does_136 : decode cX10_does 136 = .ok (.iaload, 1) := by decide +kernel
theorem dX10_does_137 : decode cX10_does 137 = .ok (.invokevirtual 168, 3) := by decide +kernel
theorem dX10_does_140 : decode cX10_does 140 = .ok (.ireturn, 1) := by decide +kernel
theorem dX10_does_141 : decode cX10_does 141 = .ok (.aload_n 0, 1) := by decide +kernel
theorem dX10_does_142 : decode cX10_does 142 = .ok (.aload_n 0, 1) := by decide +kernel
theorem dX10_does_143 : decode cX10_does 143 = .ok (.getfield 40, 3) := by decide +kernel
theorem dX10_does_146 : decode cX10_does 146 = .ok (.iconst 0, 1) := by decide +kernel
theorem dX10_does_147 : decode cX10_does 147 = .ok (.iaload, 1) := by decide +kernel
theorem dX10_does_148 : decode cX10_does 148 = .ok (.aload_n 0, 1) := by decide +kernel
theorem dX10_does_149 : decode cX10_does 149 = .ok (.getfield 40, 3) := by decide +kernel
theorem dX10_does_152 : decode cX10_does 152 = .ok (.iconst 1, 1) := by decide +kernel
theorem dX10_does_153 : decode cX10_does 153 = .ok (.iaload, 1) := by decide +kernel
theorem dX10_does_154 : decode cX10_does 154 = .ok (.aload_n 0, 1) := by decide +kernel
theorem dX10_does_155 : decode cX10_does 155 = .ok (.getfield 40, 3) := by decide +kernel
theorem dX10_does_158 : decode cX10_does 158 = .ok (.iconst 2, 1) := by decide +kernel
theorem dX10_does_159 : decode cX10_does 159 = .ok (.iaload, 1) := by decide +kernel
theorem dX10_does_160 : decode cX10_does 160 = .ok (.i2f, 1) := by decide +kernel
theorem dX10_does_161 : decode cX10_does 161 = .ok (.invokestatic 43, 3) := by decide +kernel
theorem dX10_does_164 : decode cX10_does 164 = .ok (.invokevirtual 172, 3) := by decide +kernel
theorem dX10_does_167 : decode cX10_does 167 = .ok (.ireturn, 1) := by decide +kernel
theorem dX10_does_168 : decode cX10_does 168 = .ok (.aload_n 0, 1) := by decide +kernel
theorem dX10_does_169 : decode cX10_does 169 = .ok (.aload_n 0, 1) := by decide +kernel
theorem dX10_does_170 : decode cX10_does 170 = .ok (.getfield 40, 3) := by decide +kernel
theorem dX10_does_173 : decode cX10_does 173 = .ok (.iconst 0, 1) := by decide +kernel
theorem dX10_does_174 : decode cX10_does 174 = .ok (.iaload, 1) := by decide +kernel
theorem dX10_does_175 : decode cX10_does 175 = .ok (.invokevirtual 182, 3) := by decide +kernel
theorem dX10_does_178 : decode cX10_does 178 = .ok (.ireturn, 1) := by decide +kernel
theorem dX10_does_179 : decode cX10_does 179 = .ok (.aload_n 0, 1) := by decide +kernel
theorem dX10_does_180 : decode cX10_does 180 = .ok (.aload_n 0, 1) := by decide +kernel
theorem dX10_does_181 : decode cX10_does 181 = .ok (.getfield 40, 3) := by decide +kernel
theorem dX10_does_184 : decode cX10_does 184 = .ok (.iconst 0, 1) := by decide +kernel
theorem dX10_does_185 : decode cX10_does 185 = .ok (.iaload, 1) := by decide +kernel
theorem dX10_does_186 : decode cX10_does 186 = .ok (.invokevirtual 185, 3) := by decide +kernel
theorem dX10_does_189 : decode cX10_does 189 = .ok (.ireturn, 1) := by decide +kernel
theorem dX10_does_190 : decode cX10_does 190 = .ok (.aload_n 0, 1) := by decide +kernel
theorem dX10_does_191 : decode cX10_does 191 = .ok (.aload_n 0, 1) := by decide +kernel
theorem dX10_does_192 : decode cX10_does 192 = .ok (.getfield 40, 3) := by decide +kernel
theorem dX10_does_195 : decode cX10_does 195 = .ok (.iconst 0, 1) := by decide +kernel
theorem dX10_does_196 : decode cX10_does 196 = .ok (.iaload, 1) := by decide +kernel
theorem dX10_does_197 : decode cX10_does 197 = .ok (.invokevirtual 188, 3) := by decide +kernel
theorem dX10_does_200 : decode cX10_does 200 = .ok (.ireturn, 1) := by decide +kernel
theorem dX10_does_201 : decode cX10_does 201 = .ok (.aload_n 0, 1) := by decide +kernel
theorem dX10_does_202 : decode cX10_does 202 = .ok (.aload_n 0, 1) := by decide +kernel
theorem dX10_does_203 : decode cX10_does 203 = .ok (.getfield 40, 3) := by decide +kernel
theorem dX10_does_206 : decode cX10_does 206 = .ok (.iconst 0, 1) := by decide +kernel
theorem dX10_does_207 : decode cX10_does 207 = .ok (.iaload, 1) := by decide +kernel
theorem dX10_does_208 : decode cX10_does 208 = .ok (.invokevirtual 176, 3) := by decide +kernel
theorem dX10_does_211 : decode cX10_does 211 = .ok (.ireturn, 1) := by decide +kernel
theorem dX10_runCommands_0 : decode cX10_runCommands 0 = .ok (.aload_n 0, 1) := by decide +kernel
theorem dX10_runCommands_1 : decode cX10_runCommands 1 = .ok (.invokevirtual 289, 3) := by decide +kernel
theorem dX10_runCommands_4 : decode cX10_runCommands 4 = .ok (.istore_n 1, 1) := by decide +kernel
theorem dX10_runCommands_5 : decode cX10_runCommands 5 = .ok (.iload_n 1, 1) := by decide +kernel
theorem dX10_runCommands_6 : decode cX10_runCommands 6 = .ok (.iconst (-1), 1) := by decide +kernel
theorem dX10_runCommands_7 : decode cX10_runCommands 7 = .ok (.if_icmp .eq 12, 3) := by decide +kernel
theorem dX10_runCommands_10 : decode cX10_runCommands 10 = .ok (.aload_n 0, 1) := by decide +kernel
theorem dX10_runCommands_11 : decode cX10_runCommands 11 = .ok (.bipush (-10), 2) := by decide +kernel
theorem dX10_runCommands_13 : decode cX10_runCommands 13 = .ok (.iload_n 1, 1) := by decide +kernel
theorem dX10_runCommands_14 : decode cX10_runCommands 14 = .ok (.isub, 1) := by decide +kernel
theorem dX10_runCommands_15 : decode cX10_runCommands 15 = .ok (.invokevirtual 156, 3) := by decide +kernel
theorem dX10_runCommands_18 : decode cX10_runCommands 18 = .ok (.ireturn, 1) := by decide +kernel
theorem dX10_runCommands_19 : decode cX10_runCommands 19 = .ok (.aload_n 0, 1) := by decide +kernel
theorem dX10_runCommands_20 : decode cX10_runCommands 20 = .ok (.invokevirtual 159, 3) := by decide +kernel
theorem dX10_runCommands_23 : decode cX10_runCommands 23 = .ok (.iconst 0, 1) := by decide +kernel
theorem dX10_runCommands_24 : decode cX10_runCommands 24 = .ok (.istore_n 2, 1) := by decide +kernel
theorem dX10_runCommands_25 : decode cX10_runCommands 25 = .ok (.iconst 1, 1) := by decide +kernel
theorem dX10_runCommands_26 : decode cX10_runCommands 26 = .ok (.istore_n 3, 1) := by decide +kernel
theorem dX10_runCommands_27 : decode cX10_runCommands 27 = .ok (.aload_n 0, 1) := by decide +kernel
theorem dX10_runCommands_28 : decode cX10_runCommands 28 = .ok (.iconst 0, 1) := by decide +kernel
theorem dX10_runCommands_29 : decode cX10_runCommands 29 = .ok (.putfield 271, 3) := by decide +kernel
theorem dX10_runCommands_32 : decode cX10_runCommands 32 = .ok (.aload_n 0, 1) := by decide +kernel
theorem dX10_runCommands_33 : decode cX10_runCommands 33 = .ok (.invokevirtual 283, 3) := by decide +kernel
theorem dX10_runCommands_36 : decode cX10_runCommands 36 = .ok (.iload_n 3, 1) := by decide +kernel
theorem dX10_runCommands_37 : decode cX10_runCommands 37 = .ok (.ifCond .eq 58, 3) := by decide +kernel
theorem dX10_runCommands_40 : decode cX10_runCommands 40 = .ok (.aload_n 0, 1) := by decide +kernel
theorem dX10_runCommands_41 : decode cX10_runCommands 41 = .ok (.getfield 271, 3) := by decide +kernel
theorem dX10_runCommands_44 : decode cX10_runCommands 44 = .ok (.aload_n 0, 1) := by decide +kernel
theorem dX10_runCommands_45 : decode cX10_runCommands 45 = .ok (.getfield 253, 3) := by decide +kernel
theorem dX10_runCommands_48 : decode cX10_runCommands 48 = .ok (.if_icmp .ge 47, 3) := by decide +kernel
theorem dX10_runCommands_51 : decode cX10_runCommands 51 = .ok (.aload_n 0, 1) := by decide +kernel
theorem dX10_runCommands_52 : decode cX10_runCommands 52 = .ok (.invokevirtual 286, 3) := by decide +kernel
theorem dX10_runCommands_55 : decode cX10_runCommands 55 = .ok (.istore 4, 2) := by decide +kernel
theorem dX10_runCommands_57 : decode cX10_runCommands 57 = .ok (.iload 4, 2) := by decide +kernel
theorem dX10_runCommands_59 : decode cX10_runCommands 59 = .ok (.iconst (-1), 1) := by decide +kernel
theorem dX10_runCommands_60 : decode cX10_runCommands 60 = .ok (.if_icmp .ne 14, 3) := by decide +kernel
theorem dX10_runCommands_63 : decode cX10_runCommands 63 = .ok (.aload_n 0, 1) := by decide +kernel
theorem dX10_runCommands_64 : decode cX10_runCommands 64 = .ok (.invokevirtual 292, 3) := by decide +kernel
theorem dX10_runCommands_67 : decode cX10_runCommands 67 = .ok (.ifCond .ne 7, 3) := by decide +kernel
theorem dX10_runCommands_70 : decode cX10_runCommands 70 = .ok (.iconst 1, 1) := by decide +kernel
theorem dX10_runCommands_71 : decode cX10_runCommands 71 = .ok (.goto 4, 3) := by decide +kernel
theorem dX10_runCommands_74 : decode cX10_runCommands 74 = .ok (.iconst 0, 1) := by decide +kernel
theorem dX10_runCommands_75 : decode cX10_runCommands 75 = .ok (.istore_n 3, 1) := by decide +kernel
theorem dX10_runCommands_76 : decode cX10_runCommands 76 = .ok (.iload_n 2, 1) := by decide +kernel
theorem dX10_runCommands_77 : decode cX10_runCommands 77 = .ok (.iload_n 3, 1) := by decide +kernel
theorem dX10_runCommands_78 : decode cX10_runCommands 78 = .ok (.ifCond .eq 7, 3) := by decide +kernel
theorem dX10_runCommands_81 : decode cX10_runCommands 81 = .ok (.iconst 1, 1) := by decide +kernel
theorem dX10_runCommands_82 : decode cX10_runCommands 82 = .ok (.goto 4, 3) := by decide +kernel
theorem dX10_runCommands_85 : decode cX10_runCommands 85 = .ok (.iconst 0, 1) := by decide +kernel
theorem dX10_runCommands_86 : decode cX10_runCommands 86 = .ok (.iadd, 1) := by decide +kernel
theorem dX10_runCommands_87 : decode cX10_runCommands 87 = .ok (.istore_n 2, 1) := by decide +kernel
theorem dX10_runCommands_88 : decode cX10_runCommands 88 = .ok (.aload_n 0, 1) := by decide +kernel
theorem dX10_runCommands_89 : decode cX10_runCommands 89 = .ok (.invokevirtual 283, 3) := by decide +kernel
theorem dX10_runCommands_92 : decode cX10_runCommands 92 = .ok (.goto (-56), 3) := by decide +kernel
theorem dX10_runCommands_95 : decode cX10_runCommands 95 = .ok (.aload_n 0, 1) := by decide +kernel
theorem dX10_runCommands_96 : decode cX10_runCommands 96 = .ok (.invokevirtual 153, 3) := by decide +kernel
theorem dX10_runCommands_99 : decode cX10_runCommands 99 = .ok (.aload_n 0, 1) := by decide +kernel
theorem dX10_runCommands_100 : decode cX10_runCommands 100 = .ok (.iload_n 2, 1) := by decide +kernel
theorem dX10_runCommands_101 : decode cX10_runCommands 101 = .ok (.invokevirtual 156, 3) := by decide +kernel
theorem dX10_runCommands_104 : decode cX10_runCommands 104 = .ok (.ireturn, 1) := by decide +kernel
theorem dX10_undo_0 : decode cX10_undo 0 = .ok (.aload_n 0, 1) := by decide +kernel
theorem dX10_undo_1 : decode cX10_undo 1 = .ok (.getfield 53, 3) := by decide +kernel
theorem dX10_undo_4 : decode cX10_undo 4 = .ok (.ifCond .ne 9, 3) := by decide +kernel
theorem dX10_undo_7 : decode cX10_undo 7 = .ok (.aload_n 0, 1) := by decide +kernel
theorem dX10_undo_8 : decode cX10_undo 8 = .ok (.iconst 1, 1) := by decide +kernel
theorem dX10_undo_9 : decode cX10_undo 9 = .ok (.invokevirtual 150, 3) := by decide +kernel
theorem dX10_undo_12 : decode cX10_undo 12 = .ok (.ireturn, 1) := by decide +kernel
theorem dX10_undo_13 : decode cX10_undo 13 = .ok (.aload_n 0, 1) := by decide +kernel
theorem dX10_undo_14 : decode cX10_undo 14 = .ok (.dup, 1) := by decide +kernel
theorem dX10_undo_15 : decode cX10_undo 15 = .ok (.getfield 53, 3) := by decide +kernel
theorem dX10_undo_18 : decode cX10_undo 18 = .ok (.iconst 1, 1) := by decide +kernel
theorem dX10_undo_19 : decode cX10_undo 19 = .ok (.isub, 1) := by decide +kernel
theorem dX10_undo_20 : decode cX10_undo 20 = .ok (.putfield 53, 3) := by decide +kernel
theorem dX10_undo_23 : decode cX10_undo 23 = .ok (.iconst 0, 1) := by decide +kernel
theorem dX10_undo_24 : decode cX10_undo 24 = .ok (.istore_n 1, 1) := by decide +kernel
theorem dX10_undo_25 : decode cX10_undo 25 = .ok (.iload_n 1, 1) := by decide +kernel
theorem dX10_undo_26 : decode cX10_undo 26 = .ok (.sipush 1371, 3) := by decide +kernel
theorem dX10_undo_29 : decode cX10_undo 29 = .ok (.if_icmp .ge 30, 3) := by decide +kernel
theorem dX10_undo_32 : decode cX10_undo 32 = .ok (.aload_n 0, 1) := by decide +kernel
theorem dX10_undo_33 : decode cX10_undo 33 = .ok (.getfield 7, 3) := by decide +kernel
theorem dX10_undo_36 : decode cX10_undo 36 = .ok (.iload_n 1, 1) := by decide +kernel
theorem dX10_undo_37 : decode cX10_undo 37 = .ok (.aload_n 0, 1) := by decide +kernel
theorem dX10_undo_38 : decode cX10_undo 38 = .ok (.getfield 13, 3) := by decide +kernel
theorem dX10_undo_41 : decode cX10_undo 41 = .ok (.sipush 1371, 3) := by decide +kernel
theorem dX10_undo_44 : decode cX10_undo 44 = .ok (.aload_n 0, 1) := by decide +kernel
theorem dX10_undo_45 : decode cX10_undo 45 = .ok (.getfield 53, 3) := by decide +kernel
theorem dX10_undo_48 : decode cX10_undo 48 = .ok (.imul, 1) := by decide +kernel
theorem dX10_undo_49 : decode cX10_undo 49 = .ok (.iload_n 1, 1) := by decide +kernel
theorem dX10_undo_50 : decode cX10_undo 50 = .ok (.iadd, 1) := by decide +kernel
theorem dX10_undo_51 : decode cX10_undo 51 = .ok (.iaload, 1) := by decide +kernel
theorem dX10_undo_52 : decode cX10_undo 52 = .ok (.iastore, 1) := by decide +kernel
theorem dX10_undo_53 : decode cX10_undo 53 = .ok (.iinc 1 1, 3) := by decide +kernel
theorem dX10_undo_56 : decode cX10_undo 56 = .ok (.goto (-31), 3) := by decide +kernel
theorem dX10_undo_59 : decode cX10_undo 59 = .ok (.aload_n 0, 1) := by decide +kernel
theorem dX10_undo_60 : decode cX10_undo 60 = .ok (.aload_n 0, 1) := by decide +kernel
theorem dX10_undo_61 : decode cX10_undo 61 = .ok (.getfield 53, 3) := by decide +kernel
theorem dX10_undo_64 : decode cX10_undo 64 = .ok (.invokevirtual 156, 3) := by decide +kernel
theorem dX10_undo_67 : decode cX10_undo 67 = .ok (.ireturn, 1) := by decide +kernel
theorem dX10_digest_0 : decode cX10_digest 0 = .ok (.ldc2_w 295, 3) := by decide +kernel
theorem dX10_digest_3 : decode cX10_digest 3 = .ok (.aload_n 0, 1) := by decide +kernel
theorem dX10_digest_4 : decode cX10_digest 4 = .ok (.getfield 53, 3) := by decide +kernel
theorem dX10_digest_7 : decode cX10_digest 7 = .ok (.i2l, 1) := by decide +kernel
theorem dX10_digest_8 : decode cX10_digest 8 = .ok (.ladd, 1) := by decide +kernel
theorem dX10_digest_9 : decode cX10_digest 9 = .ok (.lstore_n 1, 1) := by decide +kernel
theorem dX10_digest_10 : decode cX10_digest 10 = .ok (.iconst 0, 1) := by decide +kernel
theorem dX10_digest_11 : decode cX10_digest 11 = .ok (.istore_n 3, 1) := by decide +kernel
theorem dX10_digest_12 : decode cX10_digest 12 = .ok (.iload_n 3, 1) := by decide +kernel
theorem dX10_digest_13 : decode cX10_digest 13 = .ok (.bipush 15, 2) := by decide +kernel
theorem dX10_digest_15 : decode cX10_digest 15 = .ok (.if_icmp .ge 22, 3) := by decide +kernel
theorem dX10_digest_18 : decode cX10_digest 18 = .ok (.ldc2_w 297, 3) := by decide +kernel
theorem dX10_digest_21 : decode cX10_digest 21 = .ok (.lload_n 1, 1) := by decide +kernel
theorem dX10_digest_22 : decode cX10_digest 22 = .ok (.lmul, 1) := by decide +kernel
theorem dX10_digest_23 : decode cX10_digest 23 = .ok (.aload_n 0, 1) := by decide +kernel
theorem dX10_digest_24 : decode cX10_digest 24 = .ok (.iload_n 3, 1) := by decide +kernel
theorem dX10_digest_25 : decode cX10_digest 25 = .ok (.invokevirtual 259, 3) := by decide +kernel
theorem dX10_digest_28 : decode cX10_digest 28 = .ok (.i2l, 1) := by decide +kernel
theorem dX10_digest_29 : decode cX10_digest 29 = .ok (.ladd, 1) := by decide +kernel
theorem dX10_digest_30 : decode cX10_digest 30 = .ok (.lstore_n 1, 1) := by decide +kernel
theorem dX10_digest_31 : decode cX10_digest 31 = .ok (.iinc 3 1, 3) := by decide +kernel
theorem dX10_digest_34 : decode cX10_digest 34 = .ok (.goto (-22), 3) := by decide +kernel
theorem dX10_digest_37 : decode cX10_digest 37 = .ok (.iconst 0, 1) := by decide +kernel
theorem dX10_digest_38 : decode cX10_digest 38 = .ok (.istore_n 3, 1) := by decide +kernel
theorem dX10_digest_39 : decode cX10_digest 39 = .ok (.iload_n 3, 1) := by decide +kernel
theorem dX10_digest_40 : decode cX10_digest 40 = .ok (.aload_n 0, 1) := by decide +kernel
theorem dX10_digest_41 : decode cX10_digest 41 = .ok (.getfield 7, 3) := by decide +kernel
theorem dX10_digest_44 : decode cX10_digest 44 = .ok (.iconst 1, 1) := by decide +kernel
theorem dX10_digest_45 : decode cX10_digest 45 = .ok (.iaload, 1) := by decide +kernel
theorem dX10_digest_46 : decode cX10_digest 46 = .ok (.if_icmp .ge 61, 3) := by decide +kernel
theorem dX10_digest_49 : decode cX10_digest 49 = .ok (.iconst 0, 1) := by decide +kernel
theorem dX10_digest_50 : decode cX10_digest 50 = .ok (.istore 4, 2) := by decide +kernel
theorem dX10_digest_52 : decode cX10_digest 52 = .ok (.iload 4, 2) := by decide +kernel
theorem dX10_digest_54 : decode cX10_digest 54 = .ok (.aload_n 0, 1) := by decide +kernel
theorem dX10_digest_55 : decode cX10_digest 55 = .ok (.getfield 7, 3) := by decide +kernel
theorem dX10_digest_58 : decode cX10_digest 58 = .ok (.iconst 0, 1) := by decide +kernel
theorem dX10_digest_59 : decode cX10_digest 59 = .ok (.iaload, 1) := by decide +kernel
theorem dX10_digest_60 : decode cX10_digest 60 = .ok (.if_icmp .ge 41, 3) := by decide +kernel
theorem dX10_digest_63 : decode cX10_digest 63 = .ok (.iconst 0, 1) := by decide +kernel
theorem dX10_digest_64 : decode cX10_digest 64 = .ok (.istore 5, 2) := by decide +kernel
theorem dX10_digest_66 : decode cX10_digest 66 = .ok (.iload 5, 2) := by decide +kernel
theorem dX10_digest_68 : decode cX10_digest 68 = .ok (.iconst 3, 1) := by decide +kernel
theorem dX10_digest_69 : decode cX10_digest 69 = .ok (.if_icmp .ge 26, 3) := by decide +kernel
theorem dX10_digest_72 : decode cX10_digest 72 = .ok (.ldc2_w 297, 3) := by decide +kernel
theorem dX10_digest_75 : decode cX10_digest 75 = .ok (.lload_n 1, 1) := by decide +kernel
theorem dX10_digest_76 : decode cX10_digest 76 = .ok (.lmul, 1) := by decide +kernel
theorem dX10_digest_77 : decode cX10_digest 77 = .ok (.aload_n 0, 1) := by decide +kernel
theorem dX10_digest_78 : decode cX10_digest 78 = .ok (.iload 4, 2) := by decide +kernel
theorem dX10_digest_80 : decode cX10_digest 80 = .ok (.iload_n 3, 1) := by decide +kernel
theorem dX10_digest_81 : decode cX10_digest 81 = .ok (.iload 5, 2) := by decide +kernel
theorem dX10_digest_83 : decode cX10_digest 83 = .ok (.invokevirtual 191, 3) := by decide +kernel
theorem dX10_digest_86 : decode cX10_digest 86 = .ok (.i2l, 1) := by decide +kernel
theorem dX10_digest_87 : decode cX10_digest 87 = .ok (.ladd, 1) := by decide +kernel
theorem dX10_digest_88 : decode cX10_digest 88 = .ok (.lstore_n 1, 1) := by decide +kernel
theorem dX10_digest_89 : decode cX10_digest 89 = .ok (.iinc 5 1, 3) := by decide +kernel
theorem dX10_digest_92 : decode cX10_digest 92 = .ok (.goto (-26), 3) := by decide +kernel
theorem dX10_digest_95 : decode cX10_digest 95 = .ok (.iinc 4 1, 3) := by decide +kernel
theorem dX10_digest_98 : decode cX10_digest 98 = .ok (.goto (-46), 3) := by decide +kernel
theorem dX10_digest_101 : decode cX10_digest 101 = .ok (.iinc 3 1, 3) := by decide +kernel
theorem dX10_digest_104 : decode cX10_digest 104 = .ok (.goto (-65), 3) := by decide +kernel
theorem dX10_digest_107 : decode cX10_digest 107 = .ok (.iconst 0, 1) := by decide +kernel
theorem dX10_digest_108 : decode cX10_digest 108 = .ok (.istore_n 3, 1) := by decide +kernel
theorem dX10_digest_109 : decode cX10_digest 109 = .ok (.iload_n 3, 1) := by decide +kernel
theorem dX10_digest_110 : decode cX10_digest 110 = .ok (.aload_n 0, 1) := by decide +kernel
theorem dX10_digest_111 : decode cX10_digest 111 = .ok (.getfield 7, 3) := by decide +kernel
theorem dX10_digest_114 : decode cX10_digest 114 = .ok (.iconst 2, 1) := by decide +kernel
theorem dX10_digest_115 : decode cX10_digest 115 = .ok (.iaload, 1) := by decide +kernel
theorem dX10_digest_116 : decode cX10_digest 116 = .ok (.if_icmp .ge 52, 3) := by decide +kernel
theorem dX10_digest_119 : decode cX10_digest 119 = .ok (.iconst 0, 1) := by decide +kernel
theorem dX10_digest_120 : decode cX10_digest 120 = .ok (.istore 4, 2) := by decide +kernel
theorem dX10_digest_122 : decode cX10_digest 122 = .ok (.iload 4, 2) := by decide +kernel
theorem dX10_digest_124 : decode cX10_digest 124 = .ok (.iconst 5, 1) := by decide +kernel
theorem dX10_digest_125 : decode cX10_digest 125 = .ok (.if_icmp .ge 24, 3) := by decide +kernel
theorem dX10_digest_128 : decode cX10_digest 128 = .ok (.ldc2_w 297, 3) := by decide +kernel
theorem dX10_digest_131 : decode cX10_digest 131 = .ok (.lload_n 1, 1) := by decide +kernel
theorem dX10_digest_132 : decode cX10_digest 132 = .ok (.lmul, 1) := by decide +kernel
theorem dX10_digest_133 : decode cX10_digest 133 = .ok (.aload_n 0, 1) := by decide +kernel
theorem dX10_digest_134 : decode cX10_digest 134 = .ok (.iload_n 3, 1) := by decide +kernel
theorem dX10_digest_135 : decode cX10_digest 135 = .ok (.iload 4, 2) := by decide +kernel
theorem dX10_digest_137 : decode cX10_digest 137 = .ok (.invokevirtual 206, 3) := by decide +kernel
theorem dX10_digest_140 : decode cX10_digest 140 = .ok (.i2l, 1) := by decide +kernel
theorem dX10_digest_141 : decode cX10_digest 141 = .ok (.ladd, 1) := by decide +kernel
theorem dX10_digest_142 : decode cX10_digest 142 = .ok (.lstore_n 1, 1) := by decide +kernel
theorem dX10_digest_143 : decode cX10_digest 143 = .ok (.iinc 4 1, 3) := by decide +kernel
theorem dX10_digest_146 : decode cX10_digest 146 = .ok (.goto (-24), 3) := by decide +kernel
theorem dX10_digest_149 : decode cX10_digest 149 = .ok (.ldc2_w 297, 3) := by decide +kernel
theorem dX10_digest_152 : decode cX10_digest 152 = .ok (.lload_n 1, 1) := by decide +kernel
theorem dX10_digest_153 : decode cX10_digest 153 = .ok (.lmul, 1) := by decide +kernel
theorem dX10_digest_154 : decode cX10_digest 154 = .ok (.aload_n 0, 1) := by decide +kernel
theorem dX10_digest_155 : decode cX10_digest 155 = .ok (.iload_n 3, 1) := by decide +kernel
theorem dX10_digest_156 : decode cX10_digest 156 = .ok (.invokevirtual 265, 3) := by decide +kernel
theorem dX10_digest_159 : decode cX10_digest 159 = .ok (.i2l, 1) := by decide +kernel
theorem dX10_digest_160 : decode cX10_digest 160 = .ok (.ladd, 1) := by decide +kernel
theorem dX10_digest_161 : decode cX10_digest 161 = .ok (.lstore_n 1, 1) := by decide +kernel
theorem dX10_digest_162 : decode cX10_digest 162 = .ok (.iinc 3 1, 3) := by decide +kernel
theorem dX10_digest_165 : decode cX10_digest 165 = .ok (.goto (-56), 3) := by decide +kernel
theorem dX10_digest_168 : decode cX10_digest 168 = .ok (.iconst 0, 1) := by decide +kernel
theorem dX10_digest_169 : decode cX10_digest 169 = .ok (.istore_n 3, 1) := by decide +kernel
theorem dX10_digest_170 : decode cX10_digest 170 = .ok (.iload_n 3, 1) := by decide +kernel
theorem dX10_digest_171 : decode cX10_digest 171 = .ok (.aload_n 0, 1) := by decide +kernel
theorem dX10_digest_172 : decode cX10_digest 172 = .ok (.getfield 7, 3) := by decide +kernel
theorem dX10_digest_175 : decode cX10_digest 175 = .ok (.iconst 3, 1) := by decide +kernel
theorem dX10_digest_176 : decode cX10_digest 176 = .ok (.iaload, 1) := by decide +kernel
theorem dX10_digest_177 : decode cX10_digest 177 = .ok (.if_icmp .ge 40, 3) := by decide +kernel
theorem dX10_digest_180 : decode cX10_digest 180 = .ok (.iconst 0, 1) := by decide +kernel
theorem dX10_digest_181 : decode cX10_digest 181 = .ok (.istore 4, 2) := by decide +kernel
theorem dX10_digest_183 : decode cX10_digest 183 = .ok (.iload 4, 2) := by decide +kernel
theorem dX10_digest_185 : decode cX10_digest 185 = .ok (.bipush 6, 2) := by decide +kernel
theorem dX10_digest_187 : decode cX10_digest 187 = .ok (.if_icmp .ge 24, 3) := by decide +kernel
theorem dX10_digest_190 : decode cX10_digest 190 = .ok (.ldc2_w 297, 3) := by decide +kernel
theorem dX10_digest_193 : decode cX10_digest 193 = .ok (.lload_n 1, 1) := by decide +kernel
theorem dX10_digest_194 : decode cX10_digest 194 = .ok (.lmul, 1) := by decide +kernel
theorem dX10_digest_195 : decode cX10_digest 195 = .ok (.aload_n 0, 1) := by decide +kernel
theorem dX10_digest_196 : decode cX10_digest 196 = .ok (.iload_n 3, 1) := by decide +kernel
theorem dX10_digest_197 : decode cX10_digest 197 = .ok (.iload 4, 2) := by decide +kernel
theorem dX10_digest_199 : decode cX10_digest 199 = .ok (.invokevirtual 212, 3) := by decide +kernel
theorem dX10_digest_202 : decode cX10_digest 202 = .ok (.i2l, 1) := by decide +kernel
theorem dX10_digest_203 : decode cX10_digest 203 = .ok (.ladd, 1) := by decide +kernel
theorem dX10_digest_204 : decode cX10_digest 204 = .ok (.lstore_n 1, 1) := by decide +kernel
theorem dX10_digest_205 : decode cX10_digest 205 = .ok (.iinc 4 1, 3) := by decide +kernel
theorem dX10_digest_208 : decode cX10_digest 208 = .ok (.goto (-25), 3) := by decide +kernel
theorem dX10_digest_211 : decode cX10_digest 211 = .ok (.iinc 3 1, 3) := by decide +kernel
theorem dX10_digest_214 : decode cX10_digest 214 = .ok (.goto (-44), 3) := by decide +kernel
theorem dX10_digest_217 : decode cX10_digest 217 = .ok (.iconst 0, 1) := by decide +kernel
theorem dX10_digest_218 : decode cX10_digest 218 = .ok (.istore_n 3, 1) := by decide +kernel
theorem dX10_digest_219 : decode cX10_digest 219 = .ok (.iload_n 3, 1) := by decide +kernel
theorem dX10_digest_220 : decode cX10_digest 220 = .ok (.bipush 8, 2) := by decide +kernel
theorem dX10_digest_222 : decode cX10_digest 222 = .ok (.if_icmp .ge 53, 3) := by decide +kernel
theorem dX10_digest_225 : decode cX10_digest 225 = .ok (.iconst 0, 1) := by decide +kernel
theorem dX10_digest_226 : decode cX10_digest 226 = .ok (.istore 4, 2) := by decide +kernel
theorem dX10_digest_228 : decode cX10_digest 228 = .ok (.iload 4, 2) := by decide +kernel
theorem dX10_digest_230 : decode cX10_digest 230 = .ok (.bipush 6, 2) := by decide +kernel
theorem dX10_digest_232 : decode cX10_digest 232 = .ok (.if_icmp .ge 24, 3) := by decide +kernel
theorem dX10_digest_235 : decode cX10_digest 235 = .ok (.ldc2_w 297, 3) := by decide +kernel
theorem dX10_digest_238 : decode cX10_digest 238 = .ok (.lload_n 1, 1) := by decide +kernel
theorem dX10_digest_239 : decode cX10_digest 239 = .ok (.lmul, 1) := by decide +kernel
theorem dX10_digest_240 : decode cX10_digest 240 = .ok (.aload_n 0, 1) := by decide +kernel
theorem dX10_digest_241 : decode cX10_digest 241 = .ok (.iload_n 3, 1) := by decide +kernel
theorem dX10_digest_242 : decode cX10_digest 242 = .ok (.iload 4, 2) := by decide +kernel
theorem dX10_digest_244 : decode cX10_digest 244 = .ok (.invokevirtual 221, 3) := by decide +kernel
theorem dX10_digest_247 : decode cX10_digest 247 = .ok (.i2l, 1) := by decide +kernel
theorem dX10_digest_248 : decode cX10_digest 248 = .ok (.ladd, 1) := by decide +kernel
theorem dX10_digest_249 : decode cX10_digest 249 = .ok (.lstore_n 1, 1) := by decide +kernel
theorem dX10_digest_250 : decode cX10_digest 250 = .ok (.iinc 4 1, 3) := by decide +kernel
theorem dX10_digest_253 : decode cX10_digest 253 = .ok (.goto (-25), 3) := by decide +kernel
theorem dX10_digest_256 : decode cX10_digest 256 = .ok (.ldc2_w 297, 3) := by decide +kernel
theorem dX10_digest_259 : decode cX10_digest 259 = .ok (.lload_n 1, 1) := by decide +kernel
theorem dX10_digest_260 : decode cX10_digest 260 = .ok (.lmul, 1) := by decide +kernel
theorem dX10_digest_261 : decode cX10_digest 261 = .ok (.aload_n 0, 1) := by decide +kernel
theorem dX10_digest_262 : decode cX10_digest 262 = .ok (.iload_n 3, 1) := by decide +kernel
theorem dX10_digest_263 : decode cX10_digest 263 = .ok (.invokevirtual 262, 3) := by decide +kernel
theorem dX10_digest_266 : decode cX10_digest 266 = .ok (.i2l, 1) := by decide +kernel
theorem dX10_digest_267 : decode cX10_digest 267 = .ok (.ladd, 1) := by decide +kernel
theorem dX10_digest_268 : decode cX10_digest 268 = .ok (.lstore_n 1, 1) := by decide +kernel
theorem dX10_digest_269 : decode cX10_digest 269 = .ok (.iinc 3 1, 3) := by decide +kernel
theorem dX10_digest_272 : decode cX10_digest 272 = .ok (.goto (-53), 3) := by decide +kernel
theorem dX10_digest_275 : decode cX10_digest 275 = .ok (.aload_n 0, 1) := by decide +kernel
theorem dX10_digest_276 : decode cX10_digest 276 = .ok (.aload_n 0, 1) := by decide +kernel
theorem dX10_digest_277 : decode cX10_digest 277 = .ok (.getfield 7, 3) := by decide +kernel
theorem dX10_digest_280 : decode cX10_digest 280 = .ok (.iconst 4, 1) := by decide +kernel
theorem dX10_digest_281 : decode cX10_digest 281 = .ok (.iaload, 1) := by decide +kernel
theorem dX10_digest_282 : decode cX10_digest 282 = .ok (.invokevirtual 122, 3) := by decide +kernel
theorem dX10_digest_285 : decode cX10_digest 285 = .ok (.iconst 0, 1) := by decide +kernel
theorem dX10_digest_286 : decode cX10_digest 286 = .ok (.istore_n 3, 1) := by decide +kernel
theorem dX10_digest_287 : decode cX10_digest 287 = .ok (.iload_n 3, 1) := by decide +kernel
theorem dX10_digest_288 : decode cX10_digest 288 = .ok (.aload_n 0, 1) := by decide +kernel
theorem dX10_digest_289 : decode cX10_digest 289 = .ok (.getfield 115, 3) := by decide +kernel
theorem dX10_digest_292 : decode cX10_digest 292 = .ok (.if_icmp .ge 39, 3) := by decide +kernel
theorem dX10_digest_295 : decode cX10_digest 295 = .ok (.iconst 0, 1) := by decide +kernel
theorem dX10_digest_296 : decode cX10_digest 296 = .ok (.istore 4, 2) := by decide +kernel
theorem dX10_digest_298 : decode cX10_digest 298 = .ok (.iload 4, 2) := by decide +kernel
theorem dX10_digest_300 : decode cX10_digest 300 = .ok (.iconst 4, 1) := by decide +kernel
theorem dX10_digest_301 : decode cX10_digest 301 = .ok (.if_icmp .ge 24, 3) := by decide +kernel
theorem dX10_digest_304 : decode cX10_digest 304 = .ok (.ldc2_w 297, 3) := by decide +kernel
theorem dX10_digest_307 : decode cX10_digest 307 = .ok (.lload_n 1, 1) := by decide +kernel
theorem dX10_digest_308 : decode cX10_digest 308 = .ok (.lmul, 1) := by decide +kernel
theorem dX10_digest_309 : decode cX10_digest 309 = .ok (.aload_n 0, 1) := by decide +kernel
theorem dX10_digest_310 : decode cX10_digest 310 = .ok (.iload_n 3, 1) := by decide +kernel
theorem dX10_digest_311 : decode cX10_digest 311 = .ok (.iload 4, 2) := by decide +kernel
theorem dX10_digest_313 : decode cX10_digest 313 = .ok (.invokevirtual 224, 3) := by decide +kernel
theorem dX10_digest_316 : decode cX10_digest 316 = .ok (.i2l, 1) := by decide +kernel
theorem dX10_digest_317 : decode cX10_digest 317 = .ok (.ladd, 1) := by decide +kernel
theorem dX10_digest_318 : decode cX10_digest 318 = .ok (.lstore_n 1, 1) := by decide +kernel
theorem dX10_digest_319 : decode cX10_digest 319 = .ok (.iinc 4 1, 3) := by decide +kernel
theorem dX10_digest_322 : decode cX10_digest 322 = .ok (.goto (-24), 3) := by decide +kernel
theorem dX10_digest_325 : decode cX10_digest 325 = .ok (.iinc 3 1, 3) := by decide +kernel
theorem dX10_digest_328 : decode cX10_digest 328 = .ok (.goto (-41), 3) := by decide +kernel
theorem dX10_digest_331 : decode cX10_digest 331 = .ok (.aload_n 0, 1) := by decide +kernel
theorem dX10_digest_332 : decode cX10_digest 332 = .ok (.iconst 0, 1) := by decide +kernel
theorem dX10_digest_333 : decode cX10_digest 333 = .ok (.putfield 49, 3) := by decide +kernel
theorem dX10_digest_336 : decode cX10_digest 336 = .ok (.ldc2_w 297, 3) := by decide +kernel
theorem dX10_digest_339 : decode cX10_digest 339 = .ok (.lload_n 1, 1) := by decide +kernel
theorem dX10_digest_340 : decode cX10_digest 340 = .ok (.lmul, 1) := by decide +kernel
theorem dX10_digest_341 : decode cX10_digest 341 = .ok (.aload_n 0, 1) := by decide +kernel
theorem dX10_digest_342 : decode cX10_digest 342 = .ok (.invokevirtual 268, 3) := by decide +kernel
theorem dX10_digest_345 : decode cX10_digest 345 = .ok (.i2l, 1) := by decide +kernel
theorem dX10_digest_346 : decode cX10_digest 346 = .ok (.ladd, 1) := by decide +kernel
theorem dX10_digest_347 : decode cX10_digest 347 = .ok (.lreturn, 1) := by decide +kernel
theorem dJxf58ca_isNaN_12338_0 : decode cJxf58ca_isNaN_12338 0 = .ok (.fload_n 0, 1) := by decide +kernel
theorem dJxf58ca_isNaN_12338_1 : decode cJxf58ca_isNaN_12338 1 = .ok (.fload_n 0, 1) := by decide +kernel
theorem dJxf58ca_isNaN_12338_2 : decode cJxf58ca_isNaN_12338 2 = .ok (.fcmp .l, 1) := by decide +kernel
theorem dJxf58ca_isNaN_12338_3 : decode cJxf58ca_isNaN_12338 3 = .ok (.ifCond .eq 7, 3) := by decide +kernel
theorem dJxf58ca_isNaN_12338_6 : decode cJxf58ca_isNaN_12338 6 = .ok (.iconst 1, 1) := by decide +kernel
theorem dJxf58ca_isNaN_12338_7 : decode cJxf58ca_isNaN_12338 7 = .ok (.goto 4, 3) := by decide +kernel
theorem dJxf58ca_isNaN_12338_10 : decode cJxf58ca_isNaN_12338 10 = .ok (.iconst 0, 1) := by decide +kernel
theorem dJxf58ca_isNaN_12338_11 : decode cJxf58ca_isNaN_12338 11 = .ok (.ireturn, 1) := by decide +kernel
theorem dJxf58ca_floatToIntBits_5c35a_0 : decode cJxf58ca_floatToIntBits_5c35a 0 = .ok (.fload_n 0, 1) := by decide +kernel
theorem dJxf58ca_floatToIntBits_5c35a_1 : decode cJxf58ca_floatToIntBits_5c35a 1 = .ok (.invokestatic 59, 3) := by decide +kernel
theorem dJxf58ca_floatToIntBits_5c35a_4 : decode cJxf58ca_floatToIntBits_5c35a 4 = .ok (.ifCond .ne 8, 3) := by decide +kernel
theorem dJxf58ca_floatToIntBits_5c35a_7 : decode cJxf58ca_floatToIntBits_5c35a 7 = .ok (.fload_n 0, 1) := by decide +kernel
theorem dJxf58ca_floatToIntBits_5c35a_8 : decode cJxf58ca_floatToIntBits_5c35a 8 = .ok (.invokestatic 74, 3) := by decide +kernel
theorem dJxf58ca_floatToIntBits_5c35a_11 : decode cJxf58ca_floatToIntBits_5c35a 11 = .ok (.ireturn, 1) := by decide +kernel
theorem dJxf58ca_floatToIntBits_5c35a_12 : decode cJxf58ca_floatToIntBits_5c35a 12 = .ok (.ldc 77, 2) := by decide +kernel
theorem dJxf58ca_floatToIntBits_5c35a_14 : decode cJxf58ca_floatToIntBits_5c35a 14 = .ok (.ireturn, 1) := by decide +kernel
theorem dJ9_max_7cf53_0 : decode cJ9_max_7cf53 0 = .ok (.iload_n 0, 1) := by decide +kernel
theorem dJ9_max_7cf53_1 : decode cJ9_max_7cf53 1 = .ok (.iload_n 1, 1) := by decide +kernel
theorem dJ9_max_7cf53_2 : decode cJ9_max_7cf53 2 = .ok (.if_icmp .lt 7, 3) := by decide +kernel
theorem dJ9_max_7cf53_5 : decode cJ9_max_7cf53 5 = .ok (.iload_n 0, 1) := by decide +kernel
theorem dJ9_max_7cf53_6 : decode cJ9_max_7cf53 6 = .ok (.goto 4, 3) := by decide +kernel
theorem dJ9_max_7cf53_9 : decode cJ9_max_7cf53 9 = .ok (.iload_n 1, 1) := by decide +kernel
theorem dJ9_max_7cf53_10 : decode cJ9_max_7cf53 10 = .ok (.ireturn, 1) := by decide +kernel
theorem dJ9_min_7cf53_0 : decode cJ9_min_7cf53 0 = .ok (.iload_n 0, 1) := by decide +kernel
theorem dJ9_min_7cf53_1 : decode cJ9_min_7cf53 1 = .ok (.iload_n 1, 1) := by decide +kernel
theorem dJ9_min_7cf53_2 : decode cJ9_min_7cf53 2 = .ok (.if_icmp .gt 7, 3) := by decide +kernel
theorem dJ9_min_7cf53_5 : decode cJ9_min_7cf53 5 = .ok (.iload_n 0, 1) := by decide +kernel
theorem dJ9_min_7cf53_6 : decode cJ9_min_7cf53 6 = .ok (.goto 4, 3) := by decide +kernel
theorem dJ9_min_7cf53_9 : decode cJ9_min_7cf53 9 = .ok (.iload_n 1, 1) := by decide +kernel
theorem dJ9_min_7cf53_10 : decode cJ9_min_7cf53 10 = .ok (.ireturn, 1) := by decide +kernel
theorem dJ0_length_8abf5_0 : decode cJ0_length_8abf5 0 = .ok (.aload_n 0, 1) := by decide +kernel
theorem dJ0_length_8abf5_1 : decode cJ0_length_8abf5 1 = .ok (.getfield 9, 3) := by decide +kernel
theorem dJ0_length_8abf5_4 : decode cJ0_length_8abf5 4 = .ok (.arraylength, 1) := by decide +kernel
theorem dJ0_length_8abf5_5 : decode cJ0_length_8abf5 5 = .ok (.aload_n 0, 1) := by decide +kernel
theorem dJ0_length_8abf5_6 : decode cJ0_length_8abf5 6 = .ok (.invokevirtual 335, 3) := by decide +kernel
theorem dJ0_length_8abf5_9 : decode cJ0_length_8abf5 9 = .ok (.ishr, 1) := by decide +kernel
theorem dJ0_length_8abf5_10 : decode cJ0_length_8abf5 10 = .ok (.ireturn, 1) := by decide +kernel
theorem dJ0_charAt_5068e_0 : decode cJ0_charAt_5068e 0 = .ok (.aload_n 0, 1) := by decide +kernel
theorem dJ0_charAt_5068e_1 : decode cJ0_charAt_5068e 1 = .ok (.invokevirtual 492, 3) := by decide +kernel
theorem dJ0_charAt_5068e_4 : decode cJ0_charAt_5068e 4 = .ok (.ifCond .eq 12, 3) := by decide +kernel
theorem dJ0_charAt_5068e_7 : decode cJ0_charAt_5068e 7 = .ok (.aload_n 0, 1) := by decide +kernel
theorem dJ0_charAt_5068e_8 : decode cJ0_charAt_5068e 8 = .ok (.getfield 9, 3) := by decide +kernel
theorem dJ0_charAt_5068e_11 : decode cJ0_charAt_5068e 11 = .ok (.iload_n 1, 1) := by decide +kernel
theorem dJ0_charAt_5068e_12 : decode cJ0_charAt_5068e 12 = .ok (.invokestatic 495, 3) := by decide +kernel
theorem dJ0_charAt_5068e_15 : decode cJ0_charAt_5068e 15 = .ok (.ireturn, 1) := by decide +kernel
theorem dJ0_charAt_5068e_16 : decode cJ0_charAt_5068e 16 = .ok (.aload_n 0, 1) := by decide +kernel
theorem dJ0_charAt_5068e_17 : decode cJ0_charAt_5068e 17 = .ok (.getfield 9, 3) := by decide +kernel
theorem dJ0_charAt_5068e_20 : decode cJ0_charAt_5068e 20 = .ok (.iload_n 1, 1) := by decide +kernel
theorem dJ0_charAt_5068e_21 : decode cJ0_charAt_5068e 21 = .ok (.invokestatic 498, 3) := by decide +kernel
theorem dJ0_charAt_5068e_24 : decode cJ0_charAt_5068e 24 = .ok (.ireturn, 1) := by decide +kernel
theorem dJ0_coder_7d493_0 : decode cJ0_coder_7d493 0 = .ok (.getstatic 38, 3) := by decide +kernel
theorem dJ0_coder_7d493_3 : decode cJ0_coder_7d493 3 = .ok (.ifCond .eq 10, 3) := by decide +kernel
theorem dJ0_coder_7d493_6 : decode cJ0_coder_7d493 6 = .ok (.aload_n 0, 1) := by decide +kernel
theorem dJ0_coder_7d493_7 : decode cJ0_coder_7d493 7 = .ok (.getfield 15, 3) := by decide +kernel
theorem dJ0_coder_7d493_10 : decode cJ0_coder_7d493 10 = .ok (.goto 4, 3) := by decide +kernel
theorem dJ0_coder_7d493_13 : decode cJ0_coder_7d493 13 = .ok (.iconst 1, 1) := by decide +kernel
theorem dJ0_coder_7d493_14 : decode cJ0_coder_7d493 14 = .ok (.ireturn, 1) := by decide +kernel
theorem dJ0_isLatin1_aae02_0 : decode cJ0_isLatin1_aae02 0 = .ok (.getstatic 38, 3) := by decide +kernel
theorem dJ0_isLatin1_aae02_3 : decode cJ0_isLatin1_aae02 3 = .ok (.ifCond .eq 14, 3) := by decide +kernel
theorem dJ0_isLatin1_aae02_6 : decode cJ0_isLatin1_aae02 6 = .ok (.aload_n 0, 1) := by decide +kernel
theorem dJ0_isLatin1_aae02_7 : decode cJ0_isLatin1_aae02 7 = .ok (.getfield 15, 3) := by decide +kernel
theorem dJ0_isLatin1_aae02_10 : decode cJ0_isLatin1_aae02 10 = .ok (.ifCond .ne 7, 3) := by decide +kernel
theorem dJ0_isLatin1_aae02_13 : decode cJ0_isLatin1_aae02 13 = .ok (.iconst 1, 1) := by decide +kernel
theorem dJ0_isLatin1_aae02_14 : decode cJ0_isLatin1_aae02 14 = .ok (.goto 4, 3) := by decide +kernel
theorem dJ0_isLatin1_aae02_17 : decode cJ0_isLatin1_aae02 17 = .ok (.iconst 0, 1) := by decide +kernel
theorem dJ0_isLatin1_aae02_18 : decode cJ0_isLatin1_aae02 18 = .ok (.ireturn, 1) := by decide +kernel
theorem dJ0_checkIndex_df160_0 : decode cJ0_checkIndex_df160 0 = .ok (.iload_n 0, 1) := by decide +kernel
theorem dJ0_checkIndex_df160_1 : decode cJ0_checkIndex_df160 1 = .ok (.iload_n 1, 1) := by decide +kernel
theorem dJ0_checkIndex_df160_2 : decode cJ0_checkIndex_df160 2 = .ok (.getstatic 1053, 3) := by decide +kernel
theorem dJ0_checkIndex_df160_5 : decode cJ0_checkIndex_df160 5 = .ok (.invokestatic 1059, 3) := by decide +kernel
theorem dJ0_checkIndex_df160_8 : decode cJ0_checkIndex_df160 8 = .ok (.pop, 1) := by decide +kernel
theorem dJ0_checkIndex_df160_9 : decode cJ0_checkIndex_df160 9 = .ok (.return_, 1) := by decide +kernel
theorem dJ1_charAt_3b067_0 : decode cJ1_charAt_3b067 0 = .ok (.iload_n 1, 1) := by decide +kernel
theorem dJ1_charAt_3b067_1 : decode cJ1_charAt_3b067 1 = .ok (.aload_n 0, 1) := by decide +kernel
theorem dJ1_charAt_3b067_2 : decode cJ1_charAt_3b067 2 = .ok (.arraylength, 1) := by decide +kernel
theorem dJ1_charAt_3b067_3 : decode cJ1_charAt_3b067 3 = .ok (.invokestatic 9, 3) := by decide +kernel
theorem dJ1_charAt_3b067_6 : decode cJ1_charAt_3b067 6 = .ok (.aload_n 0, 1) := by decide +kernel
theorem dJ1_charAt_3b067_7 : decode cJ1_charAt_3b067 7 = .ok (.iload_n 1, 1) := by decide +kernel
theorem dJ1_charAt_3b067_8 : decode cJ1_charAt_3b067 8 = .ok (.baload, 1) := by decide +kernel
theorem dJ1_charAt_3b067_9 : decode cJ1_charAt_3b067 9 = .ok (.sipush 255, 3) := by decide +kernel
theorem dJ1_charAt_3b067_12 : decode cJ1_charAt_3b067 12 = .ok (.iand, 1) := by decide +kernel
theorem dJ1_charAt_3b067_13 : decode cJ1_charAt_3b067 13 = .ok (.i2c, 1) := by decide +kernel
theorem dJ1_charAt_3b067_14 : decode cJ1_charAt_3b067 14 = .ok (.ireturn, 1) := by decide +kernel
theorem dJ2_getChar_3b067_0 : decode cJ2_getChar_3b067 0 = .ok (.getstatic 44, 3) := by decide +kernel
theorem dJ2_getChar_3b067_3 : decode cJ2_getChar_3b067 3 = .ok (.ifCond .ne 25, 3) := by decide +kernel
theorem dJ2_getChar_3b067_6 : decode cJ2_getChar_3b067 6 = .ok (.iload_n 1, 1) := by decide +kernel
theorem dJ2_getChar_3b067_7 : decode cJ2_getChar_3b067 7 = .ok (.ifCond .lt 11, 3) := by decide +kernel
theorem dJ2_getChar_3b067_10 : decode cJ2_getChar_3b067 10 = .ok (.iload_n 1, 1) := by decide +kernel
theorem dJ2_getChar_3b067_11 : decode cJ2_getChar_3b067 11 = .ok (.aload_n 0, 1) := by decide +kernel
theorem dJ2_getChar_3b067_12 : decode cJ2_getChar_3b067 12 = .ok (.invokestatic 48, 3) := by decide +kernel
theorem dJ2_getChar_3b067_15 : decode cJ2_getChar_3b067 15 = .ok (.if_icmp .lt 13, 3) := by decide +kernel
theorem dJ2_getChar_3b067_18 : decode cJ2_getChar_3b067 18 = .ok (.new 52, 3) := by decide +kernel
theorem dJ2_getChar_3b067_21 : decode cJ2_getChar_3b067 21 = .ok (.dup, 1) := by decide +kernel
theorem dJ2_getChar_3b067_22 : decode cJ2_getChar_3b067 22 = .ok (.ldc 54, 2) := by decide +kernel
theorem dJ2_getChar_3b067_24 : decode cJ2_getChar_3b067 24 = .ok (.invokespecial 56, 3) := by decide +kernel
theorem dJ2_getChar_3b067_27 : decode cJ2_getChar_3b067 27 = .ok (.athrow, 1) := by decide +kernel
theorem dJ2_getChar_3b067_28 : decode cJ2_getChar_3b067 28 = .ok (.iload_n 1, 1) := by decide +kernel
theorem dJ2_getChar_3b067_29 : decode cJ2_getChar_3b067 29 = .ok (.iconst 1, 1) := by decide +kernel
theorem dJ2_getChar_3b067_30 : decode cJ2_getChar_3b067 30 = .ok (.ishl, 1) := by decide +kernel
theorem dJ2_getChar_3b067_31 : decode cJ2_getChar_3b067 31 = .ok (.istore_n 1, 1) := by decide +kernel
theorem dJ2_getChar_3b067_32 : decode cJ2_getChar_3b067 32 = .ok (.aload_n 0, 1) := by decide +kernel
theorem dJ2_getChar_3b067_33 : decode cJ2_getChar_3b067 33 = .ok (.iload_n 1, 1) := by decide +kernel
theorem dJ2_getChar_3b067_34 : decode cJ2_getChar_3b067 34 = .ok (.iinc 1 1, 3) := by decide +kernel
theorem dJ2_getChar_3b067_37 : decode cJ2_getChar_3b067 37 = .ok (.baload, 1) := by decide +kernel
theorem dJ2_getChar_3b067_38 : decode cJ2_getChar_3b067 38 = .ok (.sipush 255, 3) := by decide +kernel
theorem dJ2_getChar_3b067_41 : decode cJ2_getChar_3b067 41 = .ok (.iand, 1) := by decide +kernel
theorem dJ2_getChar_3b067_42 : decode cJ2_getChar_3b067 42 = .ok (.getstatic 59, 3) := by decide +kernel
theorem dJ2_getChar_3b067_45 : decode cJ2_getChar_3b067 45 = .ok (.ishl, 1) := by decide +kernel
theorem dJ2_getChar_3b067_46 : decode cJ2_getChar_3b067 46 = .ok (.aload_n 0, 1) := by decide +kernel
theorem dJ2_getChar_3b067_47 : decode cJ2_getChar_3b067 47 = .ok (.iload_n 1, 1) := by decide +kernel
theorem dJ2_getChar_3b067_48 : decode cJ2_getChar_3b067 48 = .ok (.baload, 1) := by decide +kernel
theorem dJ2_getChar_3b067_49 : decode cJ2_getChar_3b067 49 = .ok (.sipush 255, 3) := by decide +kernel
theorem dJ2_getChar_3b067_52 : decode cJ2_getChar_3b067 52 = .ok (.iand, 1) := by decide +kernel
theorem dJ2_getChar_3b067_53 : decode cJ2_getChar_3b067 53 = .ok (.getstatic 63, 3) := by decide +kernel
theorem dJ2_getChar_3b067_56 : decode cJ2_getChar_3b067 56 = .ok (.ishl, 1) := by decide +kernel
theorem dJ2_getChar_3b067_57 : decode cJ2_getChar_3b067 57 = .ok (.ior, 1) := by decide +kernel
theorem dJ2_getChar_3b067_58 : decode cJ2_getChar_3b067 58 = .ok (.i2c, 1) := by decide +kernel
theorem dJ2_getChar_3b067_59 : decode cJ2_getChar_3b067 59 = .ok (.ireturn, 1) := by decide +kernel
theorem dJ2_length_9d52b_0 : decode cJ2_length_9d52b 0 = .ok (.aload_n 0, 1) := by decide +kernel
theorem dJ2_length_9d52b_1 : decode cJ2_length_9d52b 1 = .ok (.arraylength, 1) := by decide +kernel
theorem dJ2_length_9d52b_2 : decode cJ2_length_9d52b 2 = .ok (.iconst 1, 1) := by decide +kernel
theorem dJ2_length_9d52b_3 : decode cJ2_length_9d52b 3 = .ok (.ishr, 1) := by decide +kernel
theorem dJ2_length_9d52b_4 : decode cJ2_length_9d52b 4 = .ok (.ireturn, 1) := by decide +kernel
theorem dJ2_charAt_3b067_0 : decode cJ2_charAt_3b067 0 = .ok (.iload_n 1, 1) := by decide +kernel
theorem dJ2_charAt_3b067_1 : decode cJ2_charAt_3b067 1 = .ok (.aload_n 0, 1) := by decide +kernel
theorem dJ2_charAt_3b067_2 : decode cJ2_charAt_3b067 2 = .ok (.invokestatic 67, 3) := by decide +kernel
theorem dJ2_charAt_3b067_5 : decode cJ2_charAt_3b067 5 = .ok (.aload_n 0, 1) := by decide +kernel
theorem dJ2_charAt_3b067_6 : decode cJ2_charAt_3b067 6 = .ok (.iload_n 1, 1) := by decide +kernel
theorem dJ2_charAt_3b067_7 : decode cJ2_charAt_3b067 7 = .ok (.invokestatic 71, 3) := by decide +kernel
theorem dJ2_charAt_3b067_10 : decode cJ2_charAt_3b067 10 = .ok (.ireturn, 1) := by decide +kernel
theorem dJ2_checkIndex_2214a_0 : decode cJ2_checkIndex_2214a 0 = .ok (.iload_n 0, 1) := by decide +kernel
theorem dJ2_checkIndex_2214a_1 : decode cJ2_checkIndex_2214a 1 = .ok (.aload_n 1, 1) := by decide +kernel
theorem dJ2_checkIndex_2214a_2 : decode cJ2_checkIndex_2214a 2 = .ok (.invokestatic 48, 3) := by decide +kernel
theorem dJ2_checkIndex_2214a_5 : decode cJ2_checkIndex_2214a 5 = .ok (.invokestatic 414, 3) := by decide +kernel
theorem dJ2_checkIndex_2214a_8 : decode cJ2_checkIndex_2214a 8 = .ok (.return_, 1) := by decide +kernel
theorem dJ3_checkIndex_8e157_0 : decode cJ3_checkIndex_8e157 0 = .ok (.iload_n 0, 1) := by decide +kernel
theorem dJ3_checkIndex_8e157_1 : decode cJ3_checkIndex_8e157 1 = .ok (.ifCond .lt 8, 3) := by decide +kernel
theorem dJ3_checkIndex_8e157_4 : decode cJ3_checkIndex_8e157 4 = .ok (.iload_n 0, 1) := by decide +kernel
theorem dJ3_checkIndex_8e157_5 : decode cJ3_checkIndex_8e157 5 = .ok (.iload_n 1, 1) := by decide +kernel
theorem dJ3_checkIndex_8e157_6 : decode cJ3_checkIndex_8e157 6 = .ok (.if_icmp .lt 10, 3) := by decide +kernel
theorem dJ3_checkIndex_8e157_9 : decode cJ3_checkIndex_8e157 9 = .ok (.aload_n 2, 1) := by decide +kernel
theorem dJ3_checkIndex_8e157_10 : decode cJ3_checkIndex_8e157 10 = .ok (.iload_n 0, 1) := by decide +kernel
theorem dJ3_checkIndex_8e157_11 : decode cJ3_checkIndex_8e157 11 = .ok (.iload_n 1, 1) := by decide +kernel
theorem dJ3_checkIndex_8e157_12 : decode cJ3_checkIndex_8e157 12 = .ok (.invokestatic 95, 3) := by decide +kernel
theorem dJ3_checkIndex_8e157_15 : decode cJ3_checkIndex_8e157 15 = .ok (.athrow, 1) := by decide +kernel
theorem dJ3_checkIndex_8e157_16 : decode cJ3_checkIndex_8e157 16 = .ok (.iload_n 0, 1) := by decide +kernel
theorem dJ3_checkIndex_8e157_17 : decode cJ3_checkIndex_8e157 17 = .ok (.ireturn, 1) := by decide +kernel
theorem dL_begin_0 : decode cL_begin 0 = .ok (.aload_n 3, 1) := by decide +kernel
theorem dL_begin_1 : decode cL_begin 1 = .ok (.iconst 0, 1) := by decide +kernel
theorem dL_begin_2 : decode cL_begin 2 = .ok (.aload_n 0, 1) := by decide +kernel
theorem dL_begin_3 : decode cL_begin 3 = .ok (.iload_n 1, 1) := by decide +kernel
theorem dL_begin_4 : decode cL_begin 4 = .ok (.iload_n 2, 1) := by decide +kernel
theorem dL_begin_5 : decode cL_begin 5 = .ok (.invokevirtual 7, 3) := by decide +kernel
theorem dL_begin_8 : decode cL_begin 8 = .ok (.i2l, 1) := by decide +kernel
theorem dL_begin_9 : decode cL_begin 9 = .ok (.lastore, 1) := by decide +kernel
theorem dL_begin_10 : decode cL_begin 10 = .ok (.goto 7, 3) := by decide +kernel
theorem dL_begin_13 : decode cL_begin 13 = .ok (.astore 4, 2) := by decide +kernel
theorem dL_begin_15 : decode cL_begin 15 = .ok (.iconst 1, 1) := by decide +kernel
theorem dL_begin_16 : decode cL_begin 16 = .ok (.ireturn, 1) := by decide +kernel
theorem dL_begin_17 : decode cL_begin 17 = .ok (.iconst 0, 1) := by decide +kernel
theorem dL_begin_18 : decode cL_begin 18 = .ok (.ireturn, 1) := by decide +kernel
theorem dL_fill_0 : decode cL_fill 0 = .ok (.aload 6, 2) := by decide +kernel
theorem dL_fill_2 : decode cL_fill 2 = .ok (.iconst 0, 1) := by decide +kernel
theorem dL_fill_3 : decode cL_fill 3 = .ok (.aload_n 0, 1) := by decide +kernel
theorem dL_fill_4 : decode cL_fill 4 = .ok (.iload_n 1, 1) := by decide +kernel
theorem dL_fill_5 : decode cL_fill 5 = .ok (.iload_n 2, 1) := by decide +kernel
theorem dL_fill_6 : decode cL_fill 6 = .ok (.iload_n 3, 1) := by decide +kernel
theorem dL_fill_7 : decode cL_fill 7 = .ok (.iload 4, 2) := by decide +kernel
theorem dL_fill_9 : decode cL_fill 9 = .ok (.iload 5, 2) := by decide +kernel
theorem dL_fill_11 : decode cL_fill 11 = .ok (.invokevirtual 15, 3) := by decide +kernel
theorem dL_fill_14 : decode cL_fill 14 = .ok (.i2l, 1) := by decide +kernel
theorem dL_fill_15 : decode cL_fill 15 = .ok (.lastore, 1) := by decide +kernel
theorem dL_fill_16 : decode cL_fill 16 = .ok (.goto 11, 3) := by decide +kernel
theorem dL_fill_19 : decode cL_fill 19 = .ok (.astore 7, 2) := by decide +kernel
theorem dL_fill_21 : decode cL_fill 21 = .ok (.iconst 1, 1) := by decide +kernel
theorem dL_fill_22 : decode cL_fill 22 = .ok (.ireturn, 1) := by decide +kernel
theorem dL_fill_23 : decode cL_fill 23 = .ok (.astore 7, 2) := by decide +kernel
theorem dL_fill_25 : decode cL_fill 25 = .ok (.iconst 2, 1) := by decide +kernel
theorem dL_fill_26 : decode cL_fill 26 = .ok (.ireturn, 1) := by decide +kernel
theorem dL_fill_27 : decode cL_fill 27 = .ok (.iconst 0, 1) := by decide +kernel
theorem dL_fill_28 : decode cL_fill 28 = .ok (.ireturn, 1) := by decide +kernel
theorem dL_addLot_0 : decode cL_addLot 0 = .ok (.aload 4, 2) := by decide +kernel
theorem dL_addLot_2 : decode cL_addLot 2 = .ok (.iconst 0, 1) := by decide +kernel
theorem dL_addLot_3 : decode cL_addLot 3 = .ok (.aload_n 0, 1) := by decide +kernel
theorem dL_addLot_4 : decode cL_addLot 4 = .ok (.iload_n 1, 1) := by decide +kernel
theorem dL_addLot_5 : decode cL_addLot 5 = .ok (.iload_n 2, 1) := by decide +kernel
theorem dL_addLot_6 : decode cL_addLot 6 = .ok (.iload_n 3, 1) := by decide +kernel
theorem dL_addLot_7 : decode cL_addLot 7 = .ok (.invokevirtual 21, 3) := by decide +kernel
theorem dL_addLot_10 : decode cL_addLot 10 = .ok (.i2l, 1) := by decide +kernel
theorem dL_addLot_11 : decode cL_addLot 11 = .ok (.lastore, 1) := by decide +kernel
theorem dL_addLot_12 : decode cL_addLot 12 = .ok (.goto 11, 3) := by decide +kernel
theorem dL_addLot_15 : decode cL_addLot 15 = .ok (.astore 5, 2) := by decide +kernel
theorem dL_addLot_17 : decode cL_addLot 17 = .ok (.iconst 1, 1) := by decide +kernel
theorem dL_addLot_18 : decode cL_addLot 18 = .ok (.ireturn, 1) := by decide +kernel
theorem dL_addLot_19 : decode cL_addLot 19 = .ok (.astore 5, 2) := by decide +kernel
theorem dL_addLot_21 : decode cL_addLot 21 = .ok (.iconst 2, 1) := by decide +kernel
theorem dL_addLot_22 : decode cL_addLot 22 = .ok (.ireturn, 1) := by decide +kernel
theorem dL_addLot_23 : decode cL_addLot 23 = .ok (.iconst 0, 1) := by decide +kernel
theorem dL_addLot_24 : decode cL_addLot 24 = .ok (.ireturn, 1) := by decide +kernel
theorem dL_setTolerance_0 : decode cL_setTolerance 0 = .ok (.aload_n 2, 1) := by decide +kernel
theorem dL_setTolerance_1 : decode cL_setTolerance 1 = .ok (.iconst 0, 1) := by decide +kernel
theorem dL_setTolerance_2 : decode cL_setTolerance 2 = .ok (.aload_n 0, 1) := by decide +kernel
theorem dL_setTolerance_3 : decode cL_setTolerance 3 = .ok (.iload_n 1, 1) := by decide +kernel
theorem dL_setTolerance_4 : decode cL_setTolerance 4 = .ok (.invokevirtual 27, 3) := by decide +kernel
theorem dL_setTolerance_7 : decode cL_setTolerance 7 = .ok (.i2l, 1) := by decide +kernel
theorem dL_setTolerance_8 : decode cL_setTolerance 8 = .ok (.lastore, 1) := by decide +kernel
theorem dL_setTolerance_9 : decode cL_setTolerance 9 = .ok (.goto 6, 3) := by decide +kernel
theorem dL_setTolerance_12 : decode cL_setTolerance 12 = .ok (.astore_n 3, 1) := by decide +kernel
theorem dL_setTolerance_13 : decode cL_setTolerance 13 = .ok (.iconst 1, 1) := by decide +kernel
theorem dL_setTolerance_14 : decode cL_setTolerance 14 = .ok (.ireturn, 1) := by decide +kernel
theorem dL_setTolerance_15 : decode cL_setTolerance 15 = .ok (.iconst 0, 1) := by decide +kernel
theorem dL_setTolerance_16 : decode cL_setTolerance 16 = .ok (.ireturn, 1) := by decide +kernel
theorem dL_setLimit_0 : decode cL_setLimit 0 = .ok (.aload_n 2, 1) := by decide +kernel
theorem dL_setLimit_1 : decode cL_setLimit 1 = .ok (.iconst 0, 1) := by decide +kernel
theorem dL_setLimit_2 : decode cL_setLimit 2 = .ok (.aload_n 0, 1) := by decide +kernel
theorem dL_setLimit_3 : decode cL_setLimit 3 = .ok (.iload_n 1, 1) := by decide +kernel
theorem dL_setLimit_4 : decode cL_setLimit 4 = .ok (.invokevirtual 31, 3) := by decide +kernel
theorem dL_setLimit_7 : decode cL_setLimit 7 = .ok (.i2l, 1) := by decide +kernel
theorem dL_setLimit_8 : decode cL_setLimit 8 = .ok (.lastore, 1) := by decide +kernel
theorem dL_setLimit_9 : decode cL_setLimit 9 = .ok (.goto 6, 3) := by decide +kernel
theorem dL_setLimit_12 : decode cL_setLimit 12 = .ok (.astore_n 3, 1) := by decide +kernel
theorem dL_setLimit_13 : decode cL_setLimit 13 = .ok (.iconst 1, 1) := by decide +kernel
theorem dL_setLimit_14 : decode cL_setLimit 14 = .ok (.ireturn, 1) := by decide +kernel
theorem dL_setLimit_15 : decode cL_setLimit 15 = .ok (.iconst 0, 1) := by decide +kernel
theorem dL_setLimit_16 : decode cL_setLimit 16 = .ok (.ireturn, 1) := by decide +kernel
theorem dL_plant_0 : decode cL_plant 0 = .ok (.aload_n 3, 1) := by decide +kernel
theorem dL_plant_1 : decode cL_plant 1 = .ok (.iconst 0, 1) := by decide +kernel
theorem dL_plant_2 : decode cL_plant 2 = .ok (.aload_n 0, 1) := by decide +kernel
theorem dL_plant_3 : decode cL_plant 3 = .ok (.iload_n 1, 1) := by decide +kernel
theorem dL_plant_4 : decode cL_plant 4 = .ok (.iload_n 2, 1) := by decide +kernel
theorem dL_plant_5 : decode cL_plant 5 = .ok (.invokevirtual 34, 3) := by decide +kernel
theorem dL_plant_8 : decode cL_plant 8 = .ok (.i2l, 1) := by decide +kernel
theorem dL_plant_9 : decode cL_plant 9 = .ok (.lastore, 1) := by decide +kernel
theorem dL_plant_10 : decode cL_plant 10 = .ok (.goto 11, 3) := by decide +kernel
theorem dL_plant_13 : decode cL_plant 13 = .ok (.astore 4, 2) := by decide +kernel
theorem dL_plant_15 : decode cL_plant 15 = .ok (.iconst 1, 1) := by decide +kernel
theorem dL_plant_16 : decode cL_plant 16 = .ok (.ireturn, 1) := by decide +kernel
theorem dL_plant_17 : decode cL_plant 17 = .ok (.astore 4, 2) := by decide +kernel
theorem dL_plant_19 : decode cL_plant 19 = .ok (.iconst 2, 1) := by decide +kernel
theorem dL_plant_20 : decode cL_plant 20 = .ok (.ireturn, 1) := by decide +kernel
theorem dL_plant_21 : decode cL_plant 21 = .ok (.iconst 0, 1) := by decide +kernel
theorem dL_plant_22 : decode cL_plant 22 = .ok (.ireturn, 1) := by decide +kernel
theorem dL_weave_0 : decode cL_weave 0 = .ok (.aload_n 2, 1) := by decide +kernel
theorem dL_weave_1 : decode cL_weave 1 = .ok (.iconst 0, 1) := by decide +kernel
theorem dL_weave_2 : decode cL_weave 2 = .ok (.aload_n 0, 1) := by decide +kernel
theorem dL_weave_3 : decode cL_weave 3 = .ok (.iload_n 1, 1) := by decide +kernel
theorem dL_weave_4 : decode cL_weave 4 = .ok (.invokevirtual 37, 3) := by decide +kernel
theorem dL_weave_7 : decode cL_weave 7 = .ok (.i2l, 1) := by decide +kernel
theorem dL_weave_8 : decode cL_weave 8 = .ok (.lastore, 1) := by decide +kernel
theorem dL_weave_9 : decode cL_weave 9 = .ok (.goto 6, 3) := by decide +kernel
theorem dL_weave_12 : decode cL_weave 12 = .ok (.astore_n 3, 1) := by decide +kernel
theorem dL_weave_13 : decode cL_weave 13 = .ok (.iconst 1, 1) := by decide +kernel
theorem dL_weave_14 : decode cL_weave 14 = .ok (.ireturn, 1) := by decide +kernel
theorem dL_weave_15 : decode cL_weave 15 = .ok (.iconst 0, 1) := by decide +kernel
theorem dL_weave_16 : decode cL_weave 16 = .ok (.ireturn, 1) := by decide +kernel
theorem dL_unweave_0 : decode cL_unweave 0 = .ok (.aload_n 2, 1) := by decide +kernel
theorem dL_unweave_1 : decode cL_unweave 1 = .ok (.iconst 0, 1) := by decide +kernel
theorem dL_unweave_2 : decode cL_unweave 2 = .ok (.aload_n 0, 1) := by decide +kernel
theorem dL_unweave_3 : decode cL_unweave 3 = .ok (.iload_n 1, 1) := by decide +kernel
theorem dL_unweave_4 : decode cL_unweave 4 = .ok (.invokevirtual 40, 3) := by decide +kernel
theorem dL_unweave_7 : decode cL_unweave 7 = .ok (.i2l, 1) := by decide +kernel
theorem dL_unweave_8 : decode cL_unweave 8 = .ok (.lastore, 1) := by decide +kernel
theorem dL_unweave_9 : decode cL_unweave 9 = .ok (.goto 9, 3) := by decide +kernel
theorem dL_unweave_12 : decode cL_unweave 12 = .ok (.astore_n 3, 1) := by decide +kernel
theorem dL_unweave_13 : decode cL_unweave 13 = .ok (.iconst 1, 1) := by decide +kernel
theorem dL_unweave_14 : decode cL_unweave 14 = .ok (.ireturn, 1) := by decide +kernel
theorem dL_unweave_15 : decode cL_unweave 15 = .ok (.astore_n 3, 1) := by decide +kernel
theorem dL_unweave_16 : decode cL_unweave 16 = .ok (.iconst 2, 1) := by decide +kernel
theorem dL_unweave_17 : decode cL_unweave 17 = .ok (.ireturn, 1) := by decide +kernel
theorem dL_unweave_18 : decode cL_unweave 18 = .ok (.iconst 0, 1) := by decide +kernel
theorem dL_unweave_19 : decode cL_unweave 19 = .ok (.ireturn, 1) := by decide +kernel
theorem dL_sew_0 : decode cL_sew 0 = .ok (.aload_n 2, 1) := by decide +kernel
theorem dL_sew_1 : decode cL_sew 1 = .ok (.iconst 0, 1) := by decide +kernel
theorem dL_sew_2 : decode cL_sew 2 = .ok (.aload_n 0, 1) := by decide +kernel
theorem dL_sew_3 : decode cL_sew 3 = .ok (.iload_n 1, 1) := by decide +kernel
theorem dL_sew_4 : decode cL_sew 4 = .ok (.invokevirtual 43, 3) := by decide +kernel
theorem dL_sew_7 : decode cL_sew 7 = .ok (.i2l, 1) := by decide +kernel
theorem dL_sew_8 : decode cL_sew 8 = .ok (.lastore, 1) := by decide +kernel
theorem dL_sew_9 : decode cL_sew 9 = .ok (.goto 9, 3) := by decide +kernel
theorem dL_sew_12 : decode cL_sew 12 = .ok (.astore_n 3, 1) := by decide +kernel
theorem dL_sew_13 : decode cL_sew 13 = .ok (.iconst 1, 1) := by decide +kernel
theorem dL_sew_14 : decode cL_sew 14 = .ok (.ireturn, 1) := by decide +kernel
theorem dL_sew_15 : decode cL_sew 15 = .ok (.astore_n 3, 1) := by decide +kernel
theorem dL_sew_16 : decode cL_sew 16 = .ok (.iconst 2, 1) := by decide +kernel
theorem dL_sew_17 : decode cL_sew 17 = .ok (.ireturn, 1) := by decide +kernel
theorem dL_sew_18 : decode cL_sew 18 = .ok (.iconst 0, 1) := by decide +kernel
theorem dL_sew_19 : decode cL_sew 19 = .ok (.ireturn, 1) := by decide +kernel
theorem dL_cell_0 : decode cL_cell 0 = .ok (.aload 4, 2) := by decide +kernel
theorem dL_cell_2 : decode cL_cell 2 = .ok (.iconst 0, 1) := by decide +kernel
theorem dL_cell_3 : decode cL_cell 3 = .ok (.aload_n 0, 1) := by decide +kernel
theorem dL_cell_4 : decode cL_cell 4 = .ok (.iload_n 1, 1) := by decide +kernel
theorem dL_cell_5 : decode cL_cell 5 = .ok (.iload_n 2, 1) := by decide +kernel
theorem dL_cell_6 : decode cL_cell 6 = .ok (.iload_n 3, 1) := by decide +kernel
theorem dL_cell_7 : decode cL_cell 7 = .ok (.invokevirtual 46, 3) := by decide +kernel
theorem dL_cell_10 : decode cL_cell 10 = .ok (.i2l, 1) := by decide +kernel
theorem dL_cell_11 : decode cL_cell 11 = .ok (.lastore, 1) := by decide +kernel
theorem dL_cell_12 : decode cL_cell 12 = .ok (.goto 11, 3) := by decide +kernel
theorem dL_cell_15 : decode cL_cell 15 = .ok (.astore 5, 2) := by decide +kernel
theorem dL_cell_17 : decode cL_cell 17 = .ok (.iconst 1, 1) := by decide +kernel
theorem dL_cell_18 : decode cL_cell 18 = .ok (.ireturn, 1) := by decide +kernel
theorem dL_cell_19 : decode cL_cell 19 = .ok (.astore 5, 2) := by decide +kernel
theorem dL_cell_21 : decode cL_cell 21 = .ok (.iconst 2, 1) := by decide +kernel
theorem dL_cell_22 : decode cL_cell 22 = .ok (.ireturn, 1) := by decide +kernel
theorem dL_cell_23 : decode cL_cell 23 = .ok (.iconst 0, 1) := by decide +kernel
theorem dL_cell_24 : decode cL_cell 24 = .ok (.ireturn, 1) := by decide +kernel
theorem dL_row_0 : decode cL_row 0 = .ok (.aload_n 3, 1) := by decide +kernel
theorem dL_row_1 : decode cL_row 1 = .ok (.iconst 0, 1) := by decide +kernel
theorem dL_row_2 : decode cL_row 2 = .ok (.aload_n 0, 1) := by decide +kernel
theorem dL_row_3 : decode cL_row 3 = .ok (.iload_n 1, 1) := by decide +kernel
theorem dL_row_4 : decode cL_row 4 = .ok (.iload_n 2, 1) := by decide +kernel
theorem dL_row_5 : decode cL_row 5 = .ok (.invokevirtual 49, 3) := by decide +kernel
theorem dL_row_8 : decode cL_row 8 = .ok (.i2l, 1) := by decide +kernel
theorem dL_row_9 : decode cL_row 9 = .ok (.lastore, 1) := by decide +kernel
theorem dL_row_10 : decode cL_row 10 = .ok (.goto 11, 3) := by decide +kernel
theorem dL_row_13 : decode cL_row 13 = .ok (.astore 4, 2) := by decide +kernel
theorem dL_row_15 : decode cL_row 15 = .ok (.iconst 1, 1) := by decide +kernel
theorem dL_row_16 : decode cL_row 16 = .ok (.ireturn, 1) := by decide +kernel
theorem dL_row_17 : decode cL_row 17 = .ok (.astore 4, 2) := by decide +kernel
theorem dL_row_19 : decode cL_row 19 = .ok (.iconst 2, 1) := by decide +kernel
theorem dL_row_20 : decode cL_row 20 = .ok (.ireturn, 1) := by decide +kernel
theorem dL_row_21 : decode cL_row 21 = .ok (.iconst 0, 1) := by decide +kernel
theorem dL_row_22 : decode cL_row 22 = .ok (.ireturn, 1) := by decide +kernel
theorem dL_lot_0 : decode cL_lot 0 = .ok (.aload_n 3, 1) := by decide +kernel
theorem dL_lot_1 : decode cL_lot 1 = .ok (.iconst 0, 1) := by decide +kernel
theorem dL_lot_2 : decode cL_lot 2 = .ok (.aload_n 0, 1) := by decide +kernel
theorem dL_lot_3 : decode cL_lot 3 = .ok (.iload_n 1, 1) := by decide +kernel
theorem dL_lot_4 : decode cL_lot 4 = .ok (.iload_n 2, 1) := by decide +kernel
theorem dL_lot_5 : decode cL_lot 5 = .ok (.invokevirtual 52, 3) := by decide +kernel
theorem dL_lot_8 : decode cL_lot 8 = .ok (.i2l, 1) := by decide +kernel
theorem dL_lot_9 : decode cL_lot 9 = .ok (.lastore, 1) := by decide +kernel
theorem dL_lot_10 : decode cL_lot 10 = .ok (.goto 11, 3) := by decide +kernel
theorem dL_lot_13 : decode cL_lot 13 = .ok (.astore 4, 2) := by decide +kernel
theorem dL_lot_15 : decode cL_lot 15 = .ok (.iconst 1, 1) := by decide +kernel
theorem dL_lot_16 : decode cL_lot 16 = .ok (.ireturn, 1) := by decide +kernel
theorem dL_lot_17 : decode cL_lot 17 = .ok (.astore 4, 2) := by decide +kernel
theorem dL_lot_19 : decode cL_lot 19 = .ok (.iconst 2, 1) := by decide +kernel
theorem dL_lot_20 : decode cL_lot 20 = .ok (.ireturn, 1) := by decide +kernel
theorem dL_lot_21 : decode cL_lot 21 = .ok (.iconst 0, 1) := by decide +kernel
theorem dL_lot_22 : decode cL_lot 22 = .ok (.ireturn, 1) := by decide +kernel
theorem dL_color_0 : decode cL_color 0 = .ok (.aload_n 3, 1) := by decide +kernel
theorem dL_color_1 : decode cL_color 1 = .ok (.iconst 0, 1) := by decide +kernel
theorem dL_color_2 : decode cL_color 2 = .ok (.aload_n 0, 1) := by decide +kernel
theorem dL_color_3 : decode cL_color 3 = .ok (.iload_n 1, 1) := by decide +kernel
theorem dL_color_4 : decode cL_color 4 = .ok (.iload_n 2, 1) := by decide +kernel
theorem dL_color_5 : decode cL_color 5 = .ok (.invokevirtual 55, 3) := by decide +kernel
theorem dL_color_8 : decode cL_color 8 = .ok (.i2l, 1) := by decide +kernel
theorem dL_color_9 : decode cL_color 9 = .ok (.lastore, 1) := by decide +kernel
theorem dL_color_10 : decode cL_color 10 = .ok (.goto 7, 3) := by decide +kernel
theorem dL_color_13 : decode cL_color 13 = .ok (.astore 4, 2) := by decide +kernel
theorem dL_color_15 : decode cL_color 15 = .ok (.iconst 1, 1) := by decide +kernel
theorem dL_color_16 : decode cL_color 16 = .ok (.ireturn, 1) := by decide +kernel
theorem dL_color_17 : decode cL_color 17 = .ok (.iconst 0, 1) := by decide +kernel
theorem dL_color_18 : decode cL_color 18 = .ok (.ireturn, 1) := by decide +kernel
theorem dL_slit_0 : decode cL_slit 0 = .ok (.aload_n 3, 1) := by decide +kernel
theorem dL_slit_1 : decode cL_slit 1 = .ok (.iconst 0, 1) := by decide +kernel
theorem dL_slit_2 : decode cL_slit 2 = .ok (.aload_n 0, 1) := by decide +kernel
theorem dL_slit_3 : decode cL_slit 3 = .ok (.iload_n 1, 1) := by decide +kernel
theorem dL_slit_4 : decode cL_slit 4 = .ok (.iload_n 2, 1) := by decide +kernel
theorem dL_slit_5 : decode cL_slit 5 = .ok (.invokevirtual 58, 3) := by decide +kernel
theorem dL_slit_8 : decode cL_slit 8 = .ok (.i2l, 1) := by decide +kernel
theorem dL_slit_9 : decode cL_slit 9 = .ok (.lastore, 1) := by decide +kernel
theorem dL_slit_10 : decode cL_slit 10 = .ok (.goto 7, 3) := by decide +kernel
theorem dL_slit_13 : decode cL_slit 13 = .ok (.astore 4, 2) := by decide +kernel
theorem dL_slit_15 : decode cL_slit 15 = .ok (.iconst 1, 1) := by decide +kernel
theorem dL_slit_16 : decode cL_slit 16 = .ok (.ireturn, 1) := by decide +kernel
theorem dL_slit_17 : decode cL_slit 17 = .ok (.iconst 0, 1) := by decide +kernel
theorem dL_slit_18 : decode cL_slit 18 = .ok (.ireturn, 1) := by decide +kernel
theorem dL_whole_0 : decode cL_whole 0 = .ok (.aload_n 2, 1) := by decide +kernel
theorem dL_whole_1 : decode cL_whole 1 = .ok (.iconst 0, 1) := by decide +kernel
theorem dL_whole_2 : decode cL_whole 2 = .ok (.aload_n 0, 1) := by decide +kernel
theorem dL_whole_3 : decode cL_whole 3 = .ok (.iload_n 1, 1) := by decide +kernel
theorem dL_whole_4 : decode cL_whole 4 = .ok (.invokevirtual 61, 3) := by decide +kernel
theorem dL_whole_7 : decode cL_whole 7 = .ok (.i2l, 1) := by decide +kernel
theorem dL_whole_8 : decode cL_whole 8 = .ok (.lastore, 1) := by decide +kernel
theorem dL_whole_9 : decode cL_whole 9 = .ok (.goto 6, 3) := by decide +kernel
theorem dL_whole_12 : decode cL_whole 12 = .ok (.astore_n 3, 1) := by decide +kernel
theorem dL_whole_13 : decode cL_whole 13 = .ok (.iconst 1, 1) := by decide +kernel
theorem dL_whole_14 : decode cL_whole 14 = .ok (.ireturn, 1) := by decide +kernel
theorem dL_whole_15 : decode cL_whole 15 = .ok (.iconst 0, 1) := by decide +kernel
theorem dL_whole_16 : decode cL_whole 16 = .ok (.ireturn, 1) := by decide +kernel
theorem dL_meanShade_0 : decode cL_meanShade 0 = .ok (.aload_n 2, 1) := by decide +kernel
theorem dL_meanShade_1 : decode cL_meanShade 1 = .ok (.iconst 0, 1) := by decide +kernel
theorem dL_meanShade_2 : decode cL_meanShade 2 = .ok (.aload_n 0, 1) := by decide +kernel
theorem dL_meanShade_3 : decode cL_meanShade 3 = .ok (.iload_n 1, 1) := by decide +kernel
theorem dL_meanShade_4 : decode cL_meanShade 4 = .ok (.invokevirtual 64, 3) := by decide +kernel
theorem dL_meanShade_7 : decode cL_meanShade 7 = .ok (.i2l, 1) := by decide +kernel
theorem dL_meanShade_8 : decode cL_meanShade 8 = .ok (.lastore, 1) := by decide +kernel
theorem dL_meanShade_9 : decode cL_meanShade 9 = .ok (.goto 6, 3) := by decide +kernel
theorem dL_meanShade_12 : decode cL_meanShade 12 = .ok (.astore_n 3, 1) := by decide +kernel
theorem dL_meanShade_13 : decode cL_meanShade 13 = .ok (.iconst 1, 1) := by decide +kernel
theorem dL_meanShade_14 : decode cL_meanShade 14 = .ok (.ireturn, 1) := by decide +kernel
theorem dL_meanShade_15 : decode cL_meanShade 15 = .ok (.iconst 0, 1) := by decide +kernel
theorem dL_meanShade_16 : decode cL_meanShade 16 = .ok (.ireturn, 1) := by decide +kernel
theorem dL_contrast_0 : decode cL_contrast 0 = .ok (.aload_n 2, 1) := by decide +kernel
theorem dL_contrast_1 : decode cL_contrast 1 = .ok (.iconst 0, 1) := by decide +kernel
theorem dL_contrast_2 : decode cL_contrast 2 = .ok (.aload_n 0, 1) := by decide +kernel
theorem dL_contrast_3 : decode cL_contrast 3 = .ok (.iload_n 1, 1) := by decide +kernel
theorem dL_contrast_4 : decode cL_contrast 4 = .ok (.invokevirtual 67, 3) := by decide +kernel
theorem dL_contrast_7 : decode cL_contrast 7 = .ok (.i2l, 1) := by decide +kernel
theorem dL_contrast_8 : decode cL_contrast 8 = .ok (.lastore, 1) := by decide +kernel
theorem dL_contrast_9 : decode cL_contrast 9 = .ok (.goto 6, 3) := by decide +kernel
theorem dL_contrast_12 : decode cL_contrast 12 = .ok (.astore_n 3, 1) := by decide +kernel
theorem dL_contrast_13 : decode cL_contrast 13 = .ok (.iconst 1, 1) := by decide +kernel
theorem dL_contrast_14 : decode cL_contrast 14 = .ok (.ireturn, 1) := by decide +kernel
theorem dL_contrast_15 : decode cL_contrast 15 = .ok (.iconst 0, 1) := by decide +kernel
theorem dL_contrast_16 : decode cL_contrast 16 = .ok (.ireturn, 1) := by decide +kernel
theorem dL_missing_0 : decode cL_missing 0 = .ok (.aload_n 2, 1) := by decide +kernel
theorem dL_missing_1 : decode cL_missing 1 = .ok (.iconst 0, 1) := by decide +kernel
theorem dL_missing_2 : decode cL_missing 2 = .ok (.aload_n 0, 1) := by decide +kernel
theorem dL_missing_3 : decode cL_missing 3 = .ok (.iload_n 1, 1) := by decide +kernel
theorem dL_missing_4 : decode cL_missing 4 = .ok (.invokevirtual 70, 3) := by decide +kernel
theorem dL_missing_7 : decode cL_missing 7 = .ok (.i2l, 1) := by decide +kernel
theorem dL_missing_8 : decode cL_missing 8 = .ok (.lastore, 1) := by decide +kernel
theorem dL_missing_9 : decode cL_missing 9 = .ok (.goto 6, 3) := by decide +kernel
theorem dL_missing_12 : decode cL_missing 12 = .ok (.astore_n 3, 1) := by decide +kernel
theorem dL_missing_13 : decode cL_missing 13 = .ok (.iconst 1, 1) := by decide +kernel
theorem dL_missing_14 : decode cL_missing 14 = .ok (.ireturn, 1) := by decide +kernel
theorem dL_missing_15 : decode cL_missing 15 = .ok (.iconst 0, 1) := by decide +kernel
theorem dL_missing_16 : decode cL_missing 16 = .ok (.ireturn, 1) := by decide +kernel
theorem dL_slitsWith_0 : decode cL_slitsWith 0 = .ok (.aload_n 2, 1) := by decide +kernel
theorem dL_slitsWith_1 : decode cL_slitsWith 1 = .ok (.iconst 0, 1) := by decide +kernel
theorem dL_slitsWith_2 : decode cL_slitsWith 2 = .ok (.aload_n 0, 1) := by decide +kernel
theorem dL_slitsWith_3 : decode cL_slitsWith 3 = .ok (.iload_n 1, 1) := by decide +kernel
theorem dL_slitsWith_4 : decode cL_slitsWith 4 = .ok (.invokevirtual 73, 3) := by decide +kernel
theorem dL_slitsWith_7 : decode cL_slitsWith 7 = .ok (.i2l, 1) := by decide +kernel
theorem dL_slitsWith_8 : decode cL_slitsWith 8 = .ok (.lastore, 1) := by decide +kernel
theorem dL_slitsWith_9 : decode cL_slitsWith 9 = .ok (.goto 6, 3) := by decide +kernel
theorem dL_slitsWith_12 : decode cL_slitsWith 12 = .ok (.astore_n 3, 1) := by decide +kernel
theorem dL_slitsWith_13 : decode cL_slitsWith 13 = .ok (.iconst 1, 1) := by decide +kernel
theorem dL_slitsWith_14 : decode cL_slitsWith 14 = .ok (.ireturn, 1) := by decide +kernel
theorem dL_slitsWith_15 : decode cL_slitsWith 15 = .ok (.iconst 0, 1) := by decide +kernel
theorem dL_slitsWith_16 : decode cL_slitsWith 16 = .ok (.ireturn, 1) := by decide +kernel
theorem dL_shuttlesFor_0 : decode cL_shuttlesFor 0 = .ok (.aload_n 2, 1) := by decide +kernel
theorem dL_shuttlesFor_1 : decode cL_shuttlesFor 1 = .ok (.iconst 0, 1) := by decide +kernel
theorem dL_shuttlesFor_2 : decode cL_shuttlesFor 2 = .ok (.aload_n 0, 1) := by decide +kernel
theorem dL_shuttlesFor_3 : decode cL_shuttlesFor 3 = .ok (.iload_n 1, 1) := by decide +kernel
theorem dL_shuttlesFor_4 : decode cL_shuttlesFor 4 = .ok (.invokevirtual 76, 3) := by decide +kernel
theorem dL_shuttlesFor_7 : decode cL_shuttlesFor 7 = .ok (.i2l, 1) := by decide +kernel
theorem dL_shuttlesFor_8 : decode cL_shuttlesFor 8 = .ok (.lastore, 1) := by decide +kernel
theorem dL_shuttlesFor_9 : decode cL_shuttlesFor 9 = .ok (.goto 6, 3) := by decide +kernel
theorem dL_shuttlesFor_12 : decode cL_shuttlesFor 12 = .ok (.astore_n 3, 1) := by decide +kernel
theorem dL_shuttlesFor_13 : decode cL_shuttlesFor 13 = .ok (.iconst 1, 1) := by decide +kernel
theorem dL_shuttlesFor_14 : decode cL_shuttlesFor 14 = .ok (.ireturn, 1) := by decide +kernel
theorem dL_shuttlesFor_15 : decode cL_shuttlesFor 15 = .ok (.iconst 0, 1) := by decide +kernel
theorem dL_shuttlesFor_16 : decode cL_shuttlesFor 16 = .ok (.ireturn, 1) := by decide +kernel
theorem dL_type_0 : decode cL_type 0 = .ok (.aload_n 2, 1) := by decide +kernel
theorem dL_type_1 : decode cL_type 1 = .ok (.iconst 0, 1) := by decide +kernel
theorem dL_type_2 : decode cL_type 2 = .ok (.aload_n 0, 1) := by decide +kernel
theorem dL_type_3 : decode cL_type 3 = .ok (.iload_n 1, 1) := by decide +kernel
theorem dL_type_4 : decode cL_type 4 = .ok (.invokevirtual 79, 3) := by decide +kernel
theorem dL_type_7 : decode cL_type 7 = .ok (.i2l, 1) := by decide +kernel
theorem dL_type_8 : decode cL_type 8 = .ok (.lastore, 1) := by decide +kernel
theorem dL_type_9 : decode cL_type 9 = .ok (.goto 9, 3) := by decide +kernel
theorem dL_type_12 : decode cL_type 12 = .ok (.astore_n 3, 1) := by decide +kernel
theorem dL_type_13 : decode cL_type 13 = .ok (.iconst 1, 1) := by decide +kernel
theorem dL_type_14 : decode cL_type 14 = .ok (.ireturn, 1) := by decide +kernel
theorem dL_type_15 : decode cL_type 15 = .ok (.astore_n 3, 1) := by decide +kernel
theorem dL_type_16 : decode cL_type 16 = .ok (.iconst 2, 1) := by decide +kernel
theorem dL_type_17 : decode cL_type 17 = .ok (.ireturn, 1) := by decide +kernel
theorem dL_type_18 : decode cL_type 18 = .ok (.iconst 0, 1) := by decide +kernel
theorem dL_type_19 : decode cL_type 19 = .ok (.ireturn, 1) := by decide +kernel
theorem dL_undo_0 : decode cL_undo 0 = .ok (.aload_n 1, 1) := by decide +kernel
theorem dL_undo_1 : decode cL_undo 1 = .ok (.iconst 0, 1) := by decide +kernel
theorem dL_undo_2 : decode cL_undo 2 = .ok (.aload_n 0, 1) := by decide +kernel
theorem dL_undo_3 : decode cL_undo 3 = .ok (.invokevirtual 82, 3) := by decide +kernel
theorem dL_undo_6 : decode cL_undo 6 = .ok (.i2l, 1) := by decide +kernel
theorem dL_undo_7 : decode cL_undo 7 = .ok (.lastore, 1) := by decide +kernel
theorem dL_undo_8 : decode cL_undo 8 = .ok (.goto 6, 3) := by decide +kernel
theorem dL_undo_11 : decode cL_undo 11 = .ok (.astore_n 2, 1) := by decide +kernel
theorem dL_undo_12 : decode cL_undo 12 = .ok (.iconst 1, 1) := by decide +kernel
theorem dL_undo_13 : decode cL_undo 13 = .ok (.ireturn, 1) := by decide +kernel
theorem dL_undo_14 : decode cL_undo 14 = .ok (.iconst 0, 1) := by decide +kernel
theorem dL_undo_15 : decode cL_undo 15 = .ok (.ireturn, 1) := by decide +kernel
theorem dL_law_0 : decode cL_law 0 = .ok (.new 8, 3) := by decide +kernel
theorem dL_law_3 : decode cL_law 3 = .ok (.dup, 1) := by decide +kernel
theorem dL_law_4 : decode cL_law 4 = .ok (.invokespecial 86, 3) := by decide +kernel
theorem dL_law_7 : decode cL_law 7 = .ok (.astore_n 1, 1) := by decide +kernel
theorem dL_law_8 : decode cL_law 8 = .ok (.new 87, 3) := by decide +kernel
theorem dL_law_11 : decode cL_law 11 = .ok (.dup, 1) := by decide +kernel
theorem dL_law_12 : decode cL_law 12 = .ok (.invokespecial 89, 3) := by decide +kernel
theorem dL_law_15 : decode cL_law 15 = .ok (.astore_n 2, 1) := by decide +kernel
theorem dL_law_16 : decode cL_law 16 = .ok (.iconst 1, 1) := by decide +kernel
theorem dL_law_17 : decode cL_law 17 = .ok (.newarray .long, 2) := by decide +kernel
theorem dL_law_19 : decode cL_law 19 = .ok (.astore_n 3, 1) := by decide +kernel
theorem dL_law_20 : decode cL_law 20 = .ok (.iconst 0, 1) := by decide +kernel
theorem dL_law_21 : decode cL_law 21 = .ok (.istore 4, 2) := by decide +kernel
theorem dL_law_23 : decode cL_law 23 = .ok (.iload 4, 2) := by decide +kernel
theorem dL_law_25 : decode cL_law 25 = .ok (.aload_n 0, 1) := by decide +kernel
theorem dL_law_26 : decode cL_law 26 = .ok (.arraylength, 1) := by decide +kernel
theorem dL_law_27 : decode cL_law 27 = .ok (.bipush 6, 2) := by decide +kernel
theorem dL_law_29 : decode cL_law 29 = .ok (.isub, 1) := by decide +kernel
theorem dL_law_30 : decode cL_law 30 = .ok (.if_icmp .gt 1611, 3) := by decide +kernel
theorem dL_law_33 : decode cL_law 33 = .ok (.aload_n 0, 1) := by decide +kernel
theorem dL_law_34 : decode cL_law 34 = .ok (.iload 4, 2) := by decide +kernel
theorem dL_law_36 : decode cL_law 36 = .ok (.iaload, 1) := by decide +kernel
theorem dL_law_37 : decode cL_law 37 = .ok (.bipush 31, 2) := by decide +kernel
theorem dL_law_39 : decode cL_law 39 = .ok (.iand, 1) := by decide +kernel
theorem dL_law_40 : decode cL_law 40 = .ok (.tableswitch 1595 0 27 #[128, 196, 300, 380, 436, 492, 560, 616, 672, 728, 808, 876, 944, 1012, 1080, 1136, 1192, 1248, 1261, 1274, 1330, 1386, 1399, 1455, 1511, 1524, 1537, 1581], 128) := by decide +kernel
theorem dL_law_168 : decode cL_law 168 = .ok (.aload_n 1, 1) := by decide +kernel
theorem dL_law_169 : decode cL_law 169 = .ok (.aload_n 0, 1) := by decide +kernel
theorem dL_law_170 : decode cL_law 170 = .ok (.iload 4, 2) := by decide +kernel
theorem dL_law_172 : decode cL_law 172 = .ok (.iconst 1, 1) := by decide +kernel
theorem dL_law_173 : decode cL_law 173 = .ok (.iadd, 1) := by decide +kernel
theorem dL_law_174 : decode cL_law 174 = .ok (.iaload, 1) := by decide +kernel
theorem dL_law_175 : decode cL_law 175 = .ok (.aload_n 0, 1) := by decide +kernel
theorem dL_law_176 : decode cL_law 176 = .ok (.iload 4, 2) := by decide +kernel
theorem dL_law_178 : decode cL_law 178 = .ok (.iconst 2, 1) := by decide +kernel
theorem dL_law_179 : decode cL_law 179 = .ok (.iadd, 1) := by decide +kernel
theorem dL_law_180 : decode cL_law 180 = .ok (.iaload, 1) := by decide +kernel
theorem dL_law_181 : decode cL_law 181 = .ok (.aload_n 3, 1) := by decide +kernel
theorem dL_law_182 : decode cL_law 182 = .ok (.invokestatic 90, 3) := by decide +kernel
theorem dL_law_185 : decode cL_law 185 = .ok (.istore 5, 2) := by decide +kernel
theorem dL_law_187 : decode cL_law 187 = .ok (.aload_n 2, 1) := by decide +kernel
theorem dL_law_188 : decode cL_law 188 = .ok (.aload_n 0, 1) := by decide +kernel
theorem dL_law_189 : decode cL_law 189 = .ok (.iload 4, 2) := by decide +kernel
theorem dL_law_191 : decode cL_law 191 = .ok (.iconst 1, 1) := by decide +kernel
theorem dL_law_192 : decode cL_law 192 = .ok (.iadd, 1) := by decide +kernel
theorem dL_law_193 : decode cL_law 193 = .ok (.iaload, 1) := by decide +kernel
theorem dL_law_194 : decode cL_law 194 = .ok (.aload_n 0, 1) := by decide +kernel
theorem dL_law_195 : decode cL_law 195 = .ok (.iload 4, 2) := by decide +kernel
theorem dL_law_197 : decode cL_law 197 = .ok (.iconst 2, 1) := by decide +kernel
theorem dL_law_198 : decode cL_law 198 = .ok (.iadd, 1) := by decide +kernel
theorem dL_law_199 : decode cL_law 199 = .ok (.iaload, 1) := by decide +kernel
theorem dL_law_200 : decode cL_law 200 = .ok (.invokevirtual 95, 3) := by decide +kernel
theorem dL_law_203 : decode cL_law 203 = .ok (.istore 6, 2) := by decide +kernel
theorem dL_law_205 : decode cL_law 205 = .ok (.aload_n 2, 1) := by decide +kernel
theorem dL_law_206 : decode cL_law 206 = .ok (.invokevirtual 96, 3) := by decide +kernel
theorem dL_law_209 : decode cL_law 209 = .ok (.iload 5, 2) := by decide +kernel
theorem dL_law_211 : decode cL_law 211 = .ok (.if_icmp .eq 5, 3) := by decide +kernel
theorem dL_law_214 : decode cL_law 214 = .ok (.iconst 0, 1) := by decide +kernel
theorem dL_law_215 : decode cL_law 215 = .ok (.ireturn, 1) := by decide +kernel
theorem dL_law_216 : decode cL_law 216 = .ok (.iload 5, 2) := by decide +kernel
theorem dL_law_218 : decode cL_law 218 = .ok (.ifCond .ne 15, 3) := by decide +kernel
theorem dL_law_221 : decode cL_law 221 = .ok (.aload_n 3, 1) := by decide +kernel
theorem dL_law_222 : decode cL_law 222 = .ok (.iconst 0, 1) := by decide +kernel
theorem dL_law_223 : decode cL_law 223 = .ok (.laload, 1) := by decide +kernel
theorem dL_law_224 : decode cL_law 224 = .ok (.iload 6, 2) := by decide +kernel
theorem dL_law_226 : decode cL_law 226 = .ok (.i2l, 1) := by decide +kernel
theorem dL_law_227 : decode cL_law 227 = .ok (.lcmp, 1) := by decide +kernel
theorem dL_law_228 : decode cL_law 228 = .ok (.ifCond .eq 5, 3) := by decide +kernel
theorem dL_law_231 : decode cL_law 231 = .ok (.iconst 0, 1) := by decide +kernel
theorem dL_law_232 : decode cL_law 232 = .ok (.ireturn, 1) := by decide +kernel
theorem dL_law_233 : decode cL_law 233 = .ok (.goto 1402, 3) := by decide +kernel
theorem dL_law_236 : decode cL_law 236 = .ok (.aload_n 1, 1) := by decide +kernel
theorem dL_law_237 : decode cL_law 237 = .ok (.aload_n 0, 1) := by decide +kernel
theorem dL_law_238 : decode cL_law 238 = .ok (.iload 4, 2) := by decide +kernel
theorem dL_law_240 : decode cL_law 240 = .ok (.iconst 1, 1) := by decide +kernel
theorem dL_law_241 : decode cL_law 241 = .ok (.iadd, 1) := by decide +kernel
theorem dL_law_242 : decode cL_law 242 = .ok (.iaload, 1) := by decide +kernel
theorem dL_law_243 : decode cL_law 243 = .ok (.aload_n 0, 1) := by decide +kernel
theorem dL_law_244 : decode cL_law 244 = .ok (.iload 4, 2) := by decide +kernel
theorem dL_law_246 : decode cL_law 246 = .ok (.iconst 2, 1) := by decide +kernel
theorem dL_law_247 : decode cL_law 247 = .ok (.iadd, 1) := by decide +kernel
theorem dL_law_248 : decode cL_law 248 = .ok (.iaload, 1) := by decide +kernel
theorem dL_law_249 : decode cL_law 249 = .ok (.aload_n 0, 1) := by decide +kernel
theorem dL_law_250 : decode cL_law 250 = .ok (.iload 4, 2) := by decide +kernel
theorem dL_law_252 : decode cL_law 252 = .ok (.iconst 3, 1) := by decide +kernel
theorem dL_law_253 : decode cL_law 253 = .ok (.iadd, 1) := by decide +kernel
theorem dL_law_254 : decode cL_law 254 = .ok (.iaload, 1) := by decide +kernel
theorem dL_law_255 : decode cL_law 255 = .ok (.aload_n 0, 1) := by decide +kernel
theorem dL_law_256 : decode cL_law 256 = .ok (.iload 4, 2) := by decide +kernel
theorem dL_law_258 : decode cL_law 258 = .ok (.iconst 4, 1) := by decide +kernel
theorem dL_law_259 : decode cL_law 259 = .ok (.iadd, 1) := by decide +kernel
theorem dL_law_260 : decode cL_law 260 = .ok (.iaload, 1) := by decide +kernel
theorem dL_law_261 : decode cL_law 261 = .ok (.aload_n 0, 1) := by decide +kernel
theorem dL_law_262 : decode cL_law 262 = .ok (.iload 4, 2) := by decide +kernel
theorem dL_law_264 : decode cL_law 264 = .ok (.iconst 5, 1) := by decide +kernel
theorem dL_law_265 : decode cL_law 265 = .ok (.iadd, 1) := by decide +kernel
theorem dL_law_266 : decode cL_law 266 = .ok (.iaload, 1) := by decide +kernel
theorem dL_law_267 : decode cL_law 267 = .ok (.aload_n 3, 1) := by decide +kernel
theorem dL_law_268 : decode cL_law 268 = .ok (.invokestatic 99, 3) := by decide +kernel
theorem dL_law_271 : decode cL_law 271 = .ok (.istore 5, 2) := by decide +kernel
theorem dL_law_273 : decode cL_law 273 = .ok (.aload_n 2, 1) := by decide +kernel
theorem dL_law_274 : decode cL_law 274 = .ok (.aload_n 0, 1) := by decide +kernel
theorem dL_law_275 : decode cL_law 275 = .ok (.iload 4, 2) := by decide +kernel
theorem dL_law_277 : decode cL_law 277 = .ok (.iconst 1, 1) := by decide +kernel
theorem dL_law_278 : decode cL_law 278 = .ok (.iadd, 1) := by decide +kernel
theorem dL_law_279 : decode cL_law 279 = .ok (.iaload, 1) := by decide +kernel
theorem dL_law_280 : decode cL_law 280 = .ok (.aload_n 0, 1) := by decide +kernel
theorem dL_law_281 : decode cL_law 281 = .ok (.iload 4, 2) := by decide +kernel
theorem dL_law_283 : decode cL_law 283 = .ok (.iconst 2, 1) := by decide +kernel
theorem dL_law_284 : decode cL_law 284 = .ok (.iadd, 1) := by decide +kernel
theorem dL_law_285 : decode cL_law 285 = .ok (.iaload, 1) := by decide +kernel
theorem dL_law_286 : decode cL_law 286 = .ok (.aload_n 0, 1) := by decide +kernel
theorem dL_law_287 : decode cL_law 287 = .ok (.iload 4, 2) := by decide +kernel
theorem dL_law_289 : decode cL_law 289 = .ok (.iconst 3, 1) := by decide +kernel
theorem dL_law_290 : decode cL_law 290 = .ok (.iadd, 1) := by decide +kernel
theorem dL_law_291 : decode cL_law 291 = .ok (.iaload, 1) := by decide +kernel
theorem dL_law_292 : decode cL_law 292 = .ok (.aload_n 0, 1) := by decide +kernel
theorem dL_law_293 : decode cL_law 293 = .ok (.iload 4, 2) := by decide +kernel
theorem dL_law_295 : decode cL_law 295 = .ok (.iconst 4, 1) := by decide +kernel
theorem dL_law_296 : decode cL_law 296 = .ok (.iadd, 1) := by decide +kernel
theorem dL_law_297 : decode cL_law 297 = .ok (.iaload, 1) := by decide +kernel
theorem dL_law_298 : decode cL_law 298 = .ok (.aload_n 0, 1) := by decide +kernel
theorem dL_law_299 : decode cL_law 299 = .ok (.iload 4, 2) := by decide +kernel
theorem dL_law_301 : decode cL_law 301 = .ok (.iconst 5, 1) := by decide +kernel
theorem dL_law_302 : decode cL_law 302 = .ok (.iadd, 1) := by decide +kernel
theorem dL_law_303 : decode cL_law 303 = .ok (.iaload, 1) := by decide +kernel
theorem dL_law_304 : decode cL_law 304 = .ok (.invokevirtual 102, 3) := by decide +kernel
theorem dL_law_307 : decode cL_law 307 = .ok (.istore 6, 2) := by decide +kernel
theorem dL_law_309 : decode cL_law 309 = .ok (.aload_n 2, 1) := by decide +kernel
theorem dL_law_310 : decode cL_law 310 = .ok (.invokevirtual 96, 3) := by decide +kernel
theorem dL_law_313 : decode cL_law 313 = .ok (.iload 5, 2) := by decide +kernel
theorem dL_law_315 : decode cL_law 315 = .ok (.if_icmp .eq 5, 3) := by decide +kernel
theorem dL_law_318 : decode cL_law 318 = .ok (.iconst 0, 1) := by decide +kernel
theorem dL_law_319 : decode cL_law 319 = .ok (.ireturn, 1) := by decide +kernel
theorem dL_law_320 : decode cL_law 320 = .ok (.iload 5, 2) := by decide +kernel
theorem dL_law_322 : decode cL_law 322 = .ok (.ifCond .ne 15, 3) := by decide +kernel
theorem dL_law_325 : decode cL_law 325 = .ok (.aload_n 3, 1) := by decide +kernel
theorem dL_law_326 : decode cL_law 326 = .ok (.iconst 0, 1) := by decide +kernel
theorem dL_law_327 : decode cL_law 327 = .ok (.laload, 1) := by decide +kernel
theorem dL_law_328 : decode cL_law 328 = .ok (.iload 6, 2) := by decide +kernel
theorem dL_law_330 : decode cL_law 330 = .ok (.i2l, 1) := by decide +kernel
theorem dL_law_331 : decode cL_law 331 = .ok (.lcmp, 1) := by decide +kernel
theorem dL_law_332 : decode cL_law 332 = .ok (.ifCond .eq 5, 3) := by decide +kernel
theorem dL_law_335 : decode cL_law 335 = .ok (.iconst 0, 1) := by decide +kernel
theorem dL_law_336 : decode cL_law 336 = .ok (.ireturn, 1) := by decide +kernel
theorem dL_law_337 : decode cL_law 337 = .ok (.goto 1298, 3) := by decide +kernel
theorem dL_law_340 : decode cL_law 340 = .ok (.aload_n 1, 1) := by decide +kernel
theorem dL_law_341 : decode cL_law 341 = .ok (.aload_n 0, 1) := by decide +kernel
theorem dL_law_342 : decode cL_law 342 = .ok (.iload 4, 2) := by decide +kernel
theorem dL_law_344 : decode cL_law 344 = .ok (.iconst 1, 1) := by decide +kernel
theorem dL_law_345 : decode cL_law 345 = .ok (.iadd, 1) := by decide +kernel
theorem dL_law_346 : decode cL_law 346 = .ok (.iaload, 1) := by decide +kernel
theorem dL_law_347 : decode cL_law 347 = .ok (.aload_n 0, 1) := by decide +kernel
theorem dL_law_348 : decode cL_law 348 = .ok (.iload 4, 2) := by decide +kernel
theorem dL_law_350 : decode cL_law 350 = .ok (.iconst 2, 1) := by decide +kernel
theorem dL_law_351 : decode cL_law 351 = .ok (.iadd, 1) := by decide +kernel
theorem dL_law_352 : decode cL_law 352 = .ok (.iaload, 1) := by decide +kernel
theorem dL_law_353 : decode cL_law 353 = .ok (.aload_n 0, 1) := by decide +kernel
theorem dL_law_354 : decode cL_law 354 = .ok (.iload 4, 2) := by decide +kernel
theorem dL_law_356 : decode cL_law 356 = .ok (.iconst 3, 1) := by decide +kernel
theorem dL_law_357 : decode cL_law 357 = .ok (.iadd, 1) := by decide +kernel
theorem dL_law_358 : decode cL_law 358 = .ok (.iaload, 1) := by decide +kernel
theorem dL_law_359 : decode cL_law 359 = .ok (.aload_n 3, 1) := by decide +kernel
theorem dL_law_360 : decode cL_law 360 = .ok (.invokestatic 103, 3) := by decide +kernel
theorem dL_law_363 : decode cL_law 363 = .ok (.istore 5, 2) := by decide +kernel
theorem dL_law_365 : decode cL_law 365 = .ok (.aload_n 2, 1) := by decide +kernel
theorem dL_law_366 : decode cL_law 366 = .ok (.aload_n 0, 1) := by decide +kernel
theorem dL_law_367 : decode cL_law 367 = .ok (.iload 4, 2) := by decide +kernel
theorem dL_law_369 : decode cL_law 369 = .ok (.iconst 1, 1) := by decide +kernel
theorem dL_law_370 : decode cL_law 370 = .ok (.iadd, 1) := by decide +kernel
theorem dL_law_371 : decode cL_law 371 = .ok (.iaload, 1) := by decide +kernel
theorem dL_law_372 : decode cL_law 372 = .ok (.aload_n 0, 1) := by decide +kernel
theorem dL_law_373 : decode cL_law 373 = .ok (.iload 4, 2) := by decide +kernel
theorem dL_law_375 : decode cL_law 375 = .ok (.iconst 2, 1) := by decide +kernel
theorem dL_law_376 : decode cL_law 376 = .ok (.iadd, 1) := by decide +kernel
theorem dL_law_377 : decode cL_law 377 = .ok (.iaload, 1) := by decide +kernel
theorem dL_law_378 : decode cL_law 378 = .ok (.aload_n 0, 1) := by decide +kernel
theorem dL_law_379 : decode cL_law 379 = .ok (.iload 4, 2) := by decide +kernel
theorem dL_law_381 : decode cL_law 381 = .ok (.iconst 3, 1) := by decide +kernel
theorem dL_law_382 : decode cL_law 382 = .ok (.iadd, 1) := by decide +kernel
theorem dL_law_383 : decode cL_law 383 = .ok (.iaload, 1) := by decide +kernel
theorem dL_law_384 : decode cL_law 384 = .ok (.invokevirtual 106, 3) := by decide +kernel
theorem dL_law_387 : decode cL_law 387 = .ok (.istore 6, 2) := by decide +kernel
theorem dL_law_389 : decode cL_law 389 = .ok (.aload_n 2, 1) := by decide +kernel
theorem dL_law_390 : decode cL_law 390 = .ok (.invokevirtual 96, 3) := by decide +kernel
theorem dL_law_393 : decode cL_law 393 = .ok (.iload 5, 2) := by decide +kernel
theorem dL_law_395 : decode cL_law 395 = .ok (.if_icmp .eq 5, 3) := by decide +kernel
theorem dL_law_398 : decode cL_law 398 = .ok (.iconst 0, 1) := by decide +kernel
theorem dL_law_399 : decode cL_law 399 = .ok (.ireturn, 1) := by decide +kernel
theorem dL_law_400 : decode cL_law 400 = .ok (.iload 5, 2) := by decide +kernel
theorem dL_law_402 : decode cL_law 402 = .ok (.ifCond .ne 15, 3) := by decide +kernel
theorem dL_law_405 : decode cL_law 405 = .ok (.aload_n 3, 1) := by decide +kernel
theorem dL_law_406 : decode cL_law 406 = .ok (.iconst 0, 1) := by decide +kernel
theorem dL_law_407 : decode cL_law 407 = .ok (.laload, 1) := by decide +kernel
theorem dL_law_408 : decode cL_law 408 = .ok (.iload 6, 2) := by decide +kernel
theorem dL_law_410 : decode cL_law 410 = .ok (.i2l, 1) := by decide +kernel
theorem dL_law_411 : decode cL_law 411 = .ok (.lcmp, 1) := by decide +kernel
theorem dL_law_412 : decode cL_law 412 = .ok (.ifCond .eq 5, 3) := by decide +kernel
theorem dL_law_415 : decode cL_law 415 = .ok (.iconst 0, 1) := by decide +kernel
theorem dL_law_416 : decode cL_law 416 = .ok (.ireturn, 1) := by decide +kernel
theorem dL_law_417 : decode cL_law 417 = .ok (.goto 1218, 3) := by decide +kernel
theorem dL_law_420 : decode cL_law 420 = .ok (.aload_n 1, 1) := by decide +kernel
theorem dL_law_421 : decode cL_law 421 = .ok (.aload_n 0, 1) := by decide +kernel
theorem dL_law_422 : decode cL_law 422 = .ok (.iload 4, 2) := by decide +kernel
theorem dL_law_424 : decode cL_law 424 = .ok (.iconst 1, 1) := by decide +kernel
theorem dL_law_425 : decode cL_law 425 = .ok (.iadd, 1) := by decide +kernel
theorem dL_law_426 : decode cL_law 426 = .ok (.iaload, 1) := by decide +kernel
theorem dL_law_427 : decode cL_law 427 = .ok (.aload_n 3, 1) := by decide +kernel
theorem dL_law_428 : decode cL_law 428 = .ok (.invokestatic 107, 3) := by decide +kernel
theorem dL_law_431 : decode cL_law 431 = .ok (.istore 5, 2) := by decide +kernel
theorem dL_law_433 : decode cL_law 433 = .ok (.aload_n 2, 1) := by decide +kernel
theorem dL_law_434 : decode cL_law 434 = .ok (.aload_n 0, 1) := by decide +kernel
theorem dL_law_435 : decode cL_law 435 = .ok (.iload 4, 2) := by decide +kernel
theorem dL_law_437 : decode cL_law 437 = .ok (.iconst 1, 1) := by decide +kernel
theorem dL_law_438 : decode cL_law 438 = .ok (.iadd, 1) := by decide +kernel
theorem dL_law_439 : decode cL_law 439 = .ok (.iaload, 1) := by decide +kernel
theorem dL_law_440 : decode cL_law 440 = .ok (.invokevirtual 110, 3) := by decide +kernel
theorem dL_law_443 : decode cL_law 443 = .ok (.istore 6, 2) := by decide +kernel
theorem dL_law_445 : decode cL_law 445 = .ok (.aload_n 2, 1) := by decide +kernel
theorem dL_law_446 : decode cL_law 446 = .ok (.invokevirtual 96, 3) := by decide +kernel
theorem dL_law_449 : decode cL_law 449 = .ok (.iload 5, 2) := by decide +kernel
theorem dL_law_451 : decode cL_law 451 = .ok (.if_icmp .eq 5, 3) := by decide +kernel
theorem dL_law_454 : decode cL_law 454 = .ok (.iconst 0, 1) := by decide +kernel
theorem dL_law_455 : decode cL_law 455 = .ok (.ireturn, 1) := by decide +kernel
theorem dL_law_456 : decode cL_law 456 = .ok (.iload 5, 2) := by decide +kernel
theorem dL_law_458 : decode cL_law 458 = .ok (.ifCond .ne 15, 3) := by decide +kernel
theorem dL_law_461 : decode cL_law 461 = .ok (.aload_n 3, 1) := by decide +kernel
theorem dL_law_462 : decode cL_law 462 = .ok (.iconst 0, 1) := by decide +kernel
theorem dL_law_463 : decode cL_law 463 = .ok (.laload, 1) := by decide +kernel
theorem dL_law_464 : decode cL_law 464 = .ok (.iload 6, 2) := by decide +kernel
theorem dL_law_466 : decode cL_law 466 = .ok (.i2l, 1) := by decide +kernel
theorem dL_law_467 : decode cL_law 467 = .ok (.lcmp, 1) := by decide +kernel
theorem dL_law_468 : decode cL_law 468 = .ok (.ifCond .eq 5, 3) := by decide +kernel
theorem dL_law_471 : decode cL_law 471 = .ok (.iconst 0, 1) := by decide +kernel
theorem dL_law_472 : decode cL_law 472 = .ok (.ireturn, 1) := by decide +kernel
theorem dL_law_473 : decode cL_law 473 = .ok (.goto 1162, 3) := by decide +kernel
theorem dL_law_476 : decode cL_law 476 = .ok (.aload_n 1, 1) := by decide +kernel
theorem dL_law_477 : decode cL_law 477 = .ok (.aload_n 0, 1) := by decide +kernel
theorem dL_law_478 : decode cL_law 478 = .ok (.iload 4, 2) := by decide +kernel
theorem dL_law_480 : decode cL_law 480 = .ok (.iconst 1, 1) := by decide +kernel
theorem dL_law_481 : decode cL_law 481 = .ok (.iadd, 1) := by decide +kernel
theorem dL_law_482 : decode cL_law 482 = .ok (.iaload, 1) := by decide +kernel
theorem dL_law_483 : decode cL_law 483 = .ok (.aload_n 3, 1) := by decide +kernel
theorem dL_law_484 : decode cL_law 484 = .ok (.invokestatic 111, 3) := by decide +kernel
theorem dL_law_487 : decode cL_law 487 = .ok (.istore 5, 2) := by decide +kernel
theorem dL_law_489 : decode cL_law 489 = .ok (.aload_n 2, 1) := by decide +kernel
theorem dL_law_490 : decode cL_law 490 = .ok (.aload_n 0, 1) := by decide +kernel
theorem dL_law_491 : decode cL_law 491 = .ok (.iload 4, 2) := by decide +kernel
theorem dL_law_493 : decode cL_law 493 = .ok (.iconst 1, 1) := by decide +kernel
theorem dL_law_494 : decode cL_law 494 = .ok (.iadd, 1) := by decide +kernel
theorem dL_law_495 : decode cL_law 495 = .ok (.iaload, 1) := by decide +kernel
theorem dL_law_496 : decode cL_law 496 = .ok (.invokevirtual 113, 3) := by decide +kernel
theorem dL_law_499 : decode cL_law 499 = .ok (.istore 6, 2) := by decide +kernel
theorem dL_law_501 : decode cL_law 501 = .ok (.aload_n 2, 1) := by decide +kernel
theorem dL_law_502 : decode cL_law 502 = .ok (.invokevirtual 96, 3) := by decide +kernel
theorem dL_law_505 : decode cL_law 505 = .ok (.iload 5, 2) := by decide +kernel
theorem dL_law_507 : decode cL_law 507 = .ok (.if_icmp .eq 5, 3) := by decide +kernel
theorem dL_law_510 : decode cL_law 510 = .ok (.iconst 0, 1) := by decide +kernel
theorem dL_law_511 : decode cL_law 511 = .ok (.ireturn, 1) := by decide +kernel
theorem dL_law_512 : decode cL_law 512 = .ok (.iload 5, 2) := by decide +kernel
theorem dL_law_514 : decode cL_law 514 = .ok (.ifCond .ne 15, 3) := by decide +kernel
theorem dL_law_517 : decode cL_law 517 = .ok (.aload_n 3, 1) := by decide +kernel
theorem dL_law_518 : decode cL_law 518 = .ok (.iconst 0, 1) := by decide +kernel
theorem dL_law_519 : decode cL_law 519 = .ok (.laload, 1) := by decide +kernel
theorem dL_law_520 : decode cL_law 520 = .ok (.iload 6, 2) := by decide +kernel
theorem dL_law_522 : decode cL_law 522 = .ok (.i2l, 1) := by decide +kernel
theorem dL_law_523 : decode cL_law 523 = .ok (.lcmp, 1) := by decide +kernel
theorem dL_law_524 : decode cL_law 524 = .ok (.ifCond .eq 5, 3) := by decide +kernel
theorem dL_law_527 : decode cL_law 527 = .ok (.iconst 0, 1) := by decide +kernel
theorem dL_law_528 : decode cL_law 528 = .ok (.ireturn, 1) := by decide +kernel
theorem dL_law_529 : decode cL_law 529 = .ok (.goto 1106, 3) := by decide +kernel
theorem dL_law_532 : decode cL_law 532 = .ok (.aload_n 1, 1) := by decide +kernel
theorem dL_law_533 : decode cL_law 533 = .ok (.aload_n 0, 1) := by decide +kernel
theorem dL_law_534 : decode cL_law 534 = .ok (.iload 4, 2) := by decide +kernel
theorem dL_law_536 : decode cL_law 536 = .ok (.iconst 1, 1) := by decide +kernel
theorem dL_law_537 : decode cL_law 537 = .ok (.iadd, 1) := by decide +kernel
theorem dL_law_538 : decode cL_law 538 = .ok (.iaload, 1) := by decide +kernel
theorem dL_law_539 : decode cL_law 539 = .ok (.aload_n 0, 1) := by decide +kernel
theorem dL_law_540 : decode cL_law 540 = .ok (.iload 4, 2) := by decide +kernel
theorem dL_law_542 : decode cL_law 542 = .ok (.iconst 2, 1) := by decide +kernel
theorem dL_law_543 : decode cL_law 543 = .ok (.iadd, 1) := by decide +kernel
theorem dL_law_544 : decode cL_law 544 = .ok (.iaload, 1) := by decide +kernel
theorem dL_law_545 : decode cL_law 545 = .ok (.aload_n 3, 1) := by decide +kernel
theorem dL_law_546 : decode cL_law 546 = .ok (.invokestatic 114, 3) := by decide +kernel
theorem dL_law_549 : decode cL_law 549 = .ok (.istore 5, 2) := by decide +kernel
theorem dL_law_551 : decode cL_law 551 = .ok (.aload_n 2, 1) := by decide +kernel
theorem dL_law_552 : decode cL_law 552 = .ok (.aload_n 0, 1) := by decide +kernel
theorem dL_law_553 : decode cL_law 553 = .ok (.iload 4, 2) := by decide +kernel
theorem dL_law_555 : decode cL_law 555 = .ok (.iconst 1, 1) := by decide +kernel
theorem dL_law_556 : decode cL_law 556 = .ok (.iadd, 1) := by decide +kernel
theorem dL_law_557 : decode cL_law 557 = .ok (.iaload, 1) := by decide +kernel
theorem dL_law_558 : decode cL_law 558 = .ok (.aload_n 0, 1) := by decide +kernel
theorem dL_law_559 : decode cL_law 559 = .ok (.iload 4, 2) := by decide +kernel
theorem dL_law_561 : decode cL_law 561 = .ok (.iconst 2, 1) := by decide +kernel
theorem dL_law_562 : decode cL_law 562 = .ok (.iadd, 1) := by decide +kernel
theorem dL_law_563 : decode cL_law 563 = .ok (.iaload, 1) := by decide +kernel
theorem dL_law_564 : decode cL_law 564 = .ok (.invokevirtual 116, 3) := by decide +kernel
theorem dL_law_567 : decode cL_law 567 = .ok (.istore 6, 2) := by decide +kernel
theorem dL_law_569 : decode cL_law 569 = .ok (.aload_n 2, 1) := by decide +kernel
theorem dL_law_570 : decode cL_law 570 = .ok (.invokevirtual 96, 3) := by decide +kernel
theorem dL_law_573 : decode cL_law 573 = .ok (.iload 5, 2) := by decide +kernel
theorem dL_law_575 : decode cL_law 575 = .ok (.if_icmp .eq 5, 3) := by decide +kernel
theorem dL_law_578 : decode cL_law 578 = .ok (.iconst 0, 1) := by decide +kernel
theorem dL_law_579 : decode cL_law 579 = .ok (.ireturn, 1) := by decide +kernel
theorem dL_law_580 : decode cL_law 580 = .ok (.iload 5, 2) := by decide +kernel
theorem dL_law_582 : decode cL_law 582 = .ok (.ifCond .ne 15, 3) := by decide +kernel
theorem dL_law_585 : decode cL_law 585 = .ok (.aload_n 3, 1) := by decide +kernel
theorem dL_law_586 : decode cL_law 586 = .ok (.iconst 0, 1) := by decide +kernel
theorem dL_law_587 : decode cL_law 587 = .ok (.laload, 1) := by decide +kernel
theorem dL_law_588 : decode cL_law 588 = .ok (.iload 6, 2) := by decide +kernel
theorem dL_law_590 : decode cL_law 590 = .ok (.i2l, 1) := by decide +kernel
theorem dL_law_591 : decode cL_law 591 = .ok (.lcmp, 1) := by decide +kernel
theorem dL_law_592 : decode cL_law 592 = .ok (.ifCond .eq 5, 3) := by decide +kernel
theorem dL_law_595 : decode cL_law 595 = .ok (.iconst 0, 1) := by decide +kernel
theorem dL_law_596 : decode cL_law 596 = .ok (.ireturn, 1) := by decide +kernel
theorem dL_law_597 : decode cL_law 597 = .ok (.goto 1038, 3) := by decide +kernel
theorem dL_law_600 : decode cL_law 600 = .ok (.aload_n 1, 1) := by decide +kernel
theorem dL_law_601 : decode cL_law 601 = .ok (.aload_n 0, 1) := by decide +kernel
theorem dL_law_602 : decode cL_law 602 = .ok (.iload 4, 2) := by decide +kernel
theorem dL_law_604 : decode cL_law 604 = .ok (.iconst 1, 1) := by decide +kernel
theorem dL_law_605 : decode cL_law 605 = .ok (.iadd, 1) := by decide +kernel
theorem dL_law_606 : decode cL_law 606 = .ok (.iaload, 1) := by decide +kernel
theorem dL_law_607 : decode cL_law 607 = .ok (.aload_n 3, 1) := by decide +kernel
theorem dL_law_608 : decode cL_law 608 = .ok (.invokestatic 117, 3) := by decide +kernel
theorem dL_law_611 : decode cL_law 611 = .ok (.istore 5, 2) := by decide +kernel
theorem dL_law_613 : decode cL_law 613 = .ok (.aload_n 2, 1) := by decide +kernel
theorem dL_law_614 : decode cL_law 614 = .ok (.aload_n 0, 1) := by decide +kernel
theorem dL_law_615 : decode cL_law 615 = .ok (.iload 4, 2) := by decide +kernel
theorem dL_law_617 : decode cL_law 617 = .ok (.iconst 1, 1) := by decide +kernel
theorem dL_law_618 : decode cL_law 618 = .ok (.iadd, 1) := by decide +kernel
theorem dL_law_619 : decode cL_law 619 = .ok (.iaload, 1) := by decide +kernel
theorem dL_law_620 : decode cL_law 620 = .ok (.invokevirtual 119, 3) := by decide +kernel
theorem dL_law_623 : decode cL_law 623 = .ok (.istore 6, 2) := by decide +kernel
theorem dL_law_625 : decode cL_law 625 = .ok (.aload_n 2, 1) := by decide +kernel
theorem dL_law_626 : decode cL_law 626 = .ok (.invokevirtual 96, 3) := by decide +kernel
theorem dL_law_629 : decode cL_law 629 = .ok (.iload 5, 2) := by decide +kernel
theorem dL_law_631 : decode cL_law 631 = .ok (.if_icmp .eq 5, 3) := by decide +kernel
theorem dL_law_634 : decode cL_law 634 = .ok (.iconst 0, 1) := by decide +kernel
theorem dL_law_635 : decode cL_law 635 = .ok (.ireturn, 1) := by decide +kernel
theorem dL_law_636 : decode cL_law 636 = .ok (.iload 5, 2) := by decide +kernel
theorem dL_law_638 : decode cL_law 638 = .ok (.ifCond .ne 15, 3) := by decide +kernel
theorem dL_law_641 : decode cL_law 641 = .ok (.aload_n 3, 1) := by decide +kernel
theorem dL_law_642 : decode cL_law 642 = .ok (.iconst 0, 1) := by decide +kernel
theorem dL_law_643 : decode cL_law 643 = .ok (.laload, 1) := by decide +kernel
theorem dL_law_644 : decode cL_law 644 = .ok (.iload 6, 2) := by decide +kernel
theorem dL_law_646 : decode cL_law 646 = .ok (.i2l, 1) := by decide +kernel
theorem dL_law_647 : decode cL_law 647 = .ok (.lcmp, 1) := by decide +kernel
theorem dL_law_648 : decode cL_law 648 = .ok (.ifCond .eq 5, 3) := by decide +kernel
theorem dL_law_651 : decode cL_law 651 = .ok (.iconst 0, 1) := by decide +kernel
theorem dL_law_652 : decode cL_law 652 = .ok (.ireturn, 1) := by decide +kernel
theorem dL_law_653 : decode cL_law 653 = .ok (.goto 982, 3) := by decide +kernel
theorem dL_law_656 : decode cL_law 656 = .ok (.aload_n 1, 1) := by decide +kernel
theorem dL_law_657 : decode cL_law 657 = .ok (.aload_n 0, 1) := by decide +kernel
theorem dL_law_658 : decode cL_law 658 = .ok (.iload 4, 2) := by decide +kernel
theorem dL_law_660 : decode cL_law 660 = .ok (.iconst 1, 1) := by decide +kernel
theorem dL_law_661 : decode cL_law 661 = .ok (.iadd, 1) := by decide +kernel
theorem dL_law_662 : decode cL_law 662 = .ok (.iaload, 1) := by decide +kernel
theorem dL_law_663 : decode cL_law 663 = .ok (.aload_n 3, 1) := by decide +kernel
theorem dL_law_664 : decode cL_law 664 = .ok (.invokestatic 120, 3) := by decide +kernel
theorem dL_law_667 : decode cL_law 667 = .ok (.istore 5, 2) := by decide +kernel
theorem dL_law_669 : decode cL_law 669 = .ok (.aload_n 2, 1) := by decide +kernel
theorem dL_law_670 : decode cL_law 670 = .ok (.aload_n 0, 1) := by decide +kernel
theorem dL_law_671 : decode cL_law 671 = .ok (.iload 4, 2) := by decide +kernel
theorem dL_law_673 : decode cL_law 673 = .ok (.iconst 1, 1) := by decide +kernel
theorem dL_law_674 : decode cL_law 674 = .ok (.iadd, 1) := by decide +kernel
theorem dL_law_675 : decode cL_law 675 = .ok (.iaload, 1) := by decide +kernel
theorem dL_law_676 : decode cL_law 676 = .ok (.invokevirtual 122, 3) := by decide +kernel
theorem dL_law_679 : decode cL_law 679 = .ok (.istore 6, 2) := by decide +kernel
theorem dL_law_681 : decode cL_law 681 = .ok (.aload_n 2, 1) := by decide +kernel
theorem dL_law_682 : decode cL_law 682 = .ok (.invokevirtual 96, 3) := by decide +kernel
theorem dL_law_685 : decode cL_law 685 = .ok (.iload 5, 2) := by decide +kernel
theorem dL_law_687 : decode cL_law 687 = .ok (.if_icmp .eq 5, 3) := by decide +kernel
theorem dL_law_690 : decode cL_law 690 = .ok (.iconst 0, 1) := by decide +kernel
theorem dL_law_691 : decode cL_law 691 = .ok (.ireturn, 1) := by decide +kernel
theorem dL_law_692 : decode cL_law 692 = .ok (.iload 5, 2) := by decide +kernel
theorem dL_law_694 : decode cL_law 694 = .ok (.ifCond .ne 15, 3) := by decide +kernel
theorem dL_law_697 : decode cL_law 697 = .ok (.aload_n 3, 1) := by decide +kernel
theorem dL_law_698 : decode cL_law 698 = .ok (.iconst 0, 1) := by decide +kernel
theorem dL_law_699 : decode cL_law 699 = .ok (.laload, 1) := by decide +kernel
theorem dL_law_700 : decode cL_law 700 = .ok (.iload 6, 2) := by decide +kernel
theorem dL_law_702 : decode cL_law 702 = .ok (.i2l, 1) := by decide +kernel
theorem dL_law_703 : decode cL_law 703 = .ok (.lcmp, 1) := by decide +kernel
theorem dL_law_704 : decode cL_law 704 = .ok (.ifCond .eq 5, 3) := by decide +kernel
theorem dL_law_707 : decode cL_law 707 = .ok (.iconst 0, 1) := by decide +kernel
theorem dL_law_708 : decode cL_law 708 = .ok (.ireturn, 1) := by decide +kernel
theorem dL_law_709 : decode cL_law 709 = .ok (.goto 926, 3) := by decide +kernel
theorem dL_law_712 : decode cL_law 712 = .ok (.aload_n 1, 1) := by decide +kernel
theorem dL_law_713 : decode cL_law 713 = .ok (.aload_n 0, 1) := by decide +kernel
theorem dL_law_714 : decode cL_law 714 = .ok (.iload 4, 2) := by decide +kernel
theorem dL_law_716 : decode cL_law 716 = .ok (.iconst 1, 1) := by decide +kernel
theorem dL_law_717 : decode cL_law 717 = .ok (.iadd, 1) := by decide +kernel
theorem dL_law_718 : decode cL_law 718 = .ok (.iaload, 1) := by decide +kernel
theorem dL_law_719 : decode cL_law 719 = .ok (.aload_n 3, 1) := by decide +kernel
theorem dL_law_720 : decode cL_law 720 = .ok (.invokestatic 123, 3) := by decide +kernel
theorem dL_law_723 : decode cL_law 723 = .ok (.istore 5, 2) := by decide +kernel
theorem dL_law_725 : decode cL_law 725 = .ok (.aload_n 2, 1) := by decide +kernel
theorem dL_law_726 : decode cL_law 726 = .ok (.aload_n 0, 1) := by decide +kernel
theorem dL_law_727 : decode cL_law 727 = .ok (.iload 4, 2) := by decide +kernel
theorem dL_law_729 : decode cL_law 729 = .ok (.iconst 1, 1) := by decide +kernel
theorem dL_law_730 : decode cL_law 730 = .ok (.iadd, 1) := by decide +kernel
theorem dL_law_731 : decode cL_law 731 = .ok (.iaload, 1) := by decide +kernel
theorem dL_law_732 : decode cL_law 732 = .ok (.invokevirtual 125, 3) := by decide +kernel
theorem dL_law_735 : decode cL_law 735 = .ok (.istore 6, 2) := by decide +kernel
theorem dL_law_737 : decode cL_law 737 = .ok (.aload_n 2, 1) := by decide +kernel
theorem dL_law_738 : decode cL_law 738 = .ok (.invokevirtual 96, 3) := by decide +kernel
theorem dL_law_741 : decode cL_law 741 = .ok (.iload 5, 2) := by decide +kernel
theorem dL_law_743 : decode cL_law 743 = .ok (.if_icmp .eq 5, 3) := by decide +kernel
theorem dL_law_746 : decode cL_law 746 = .ok (.iconst 0, 1) := by decide +kernel
theorem dL_law_747 : decode cL_law 747 = .ok (.ireturn, 1) := by decide +kernel
theorem dL_law_748 : decode cL_law 748 = .ok (.iload 5, 2) := by decide +kernel
theorem dL_law_750 : decode cL_law 750 = .ok (.ifCond .ne 15, 3) := by decide +kernel
theorem dL_law_753 : decode cL_law 753 = .ok (.aload_n 3, 1) := by decide +kernel
theorem dL_law_754 : decode cL_law 754 = .ok (.iconst 0, 1) := by decide +kernel
theorem dL_law_755 : decode cL_law 755 = .ok (.laload, 1) := by decide +kernel
theorem dL_law_756 : decode cL_law 756 = .ok (.iload 6, 2) := by decide +kernel
theorem dL_law_758 : decode cL_law 758 = .ok (.i2l, 1) := by decide +kernel
theorem dL_law_759 : decode cL_law 759 = .ok (.lcmp, 1) := by decide +kernel
theorem dL_law_760 : decode cL_law 760 = .ok (.ifCond .eq 5, 3) := by decide +kernel
theorem dL_law_763 : decode cL_law 763 = .ok (.iconst 0, 1) := by decide +kernel
theorem dL_law_764 : decode cL_law 764 = .ok (.ireturn, 1) := by decide +kernel
theorem dL_law_765 : decode cL_law 765 = .ok (.goto 870, 3) := by decide +kernel
theorem dL_law_768 : decode cL_law 768 = .ok (.aload_n 1, 1) := by decide +kernel
theorem dL_law_769 : decode cL_law 769 = .ok (.aload_n 0, 1) := by decide +kernel
theorem dL_law_770 : decode cL_law 770 = .ok (.iload 4, 2) := by decide +kernel
theorem dL_law_772 : decode cL_law 772 = .ok (.iconst 1, 1) := by decide +kernel
theorem dL_law_773 : decode cL_law 773 = .ok (.iadd, 1) := by decide +kernel
theorem dL_law_774 : decode cL_law 774 = .ok (.iaload, 1) := by decide +kernel
theorem dL_law_775 : decode cL_law 775 = .ok (.aload_n 0, 1) := by decide +kernel
theorem dL_law_776 : decode cL_law 776 = .ok (.iload 4, 2) := by decide +kernel
theorem dL_law_778 : decode cL_law 778 = .ok (.iconst 2, 1) := by decide +kernel
theorem dL_law_779 : decode cL_law 779 = .ok (.iadd, 1) := by decide +kernel
theorem dL_law_780 : decode cL_law 780 = .ok (.iaload, 1) := by decide +kernel
theorem dL_law_781 : decode cL_law 781 = .ok (.aload_n 0, 1) := by decide +kernel
theorem dL_law_782 : decode cL_law 782 = .ok (.iload 4, 2) := by decide +kernel
theorem dL_law_784 : decode cL_law 784 = .ok (.iconst 3, 1) := by decide +kernel
theorem dL_law_785 : decode cL_law 785 = .ok (.iadd, 1) := by decide +kernel
theorem dL_law_786 : decode cL_law 786 = .ok (.iaload, 1) := by decide +kernel
theorem dL_law_787 : decode cL_law 787 = .ok (.aload_n 3, 1) := by decide +kernel
theorem dL_law_788 : decode cL_law 788 = .ok (.invokestatic 126, 3) := by decide +kernel
theorem dL_law_791 : decode cL_law 791 = .ok (.istore 5, 2) := by decide +kernel
theorem dL_law_793 : decode cL_law 793 = .ok (.aload_n 2, 1) := by decide +kernel
theorem dL_law_794 : decode cL_law 794 = .ok (.aload_n 0, 1) := by decide +kernel
theorem dL_law_795 : decode cL_law 795 = .ok (.iload 4, 2) := by decide +kernel
theorem dL_law_797 : decode cL_law 797 = .ok (.iconst 1, 1) := by decide +kernel
theorem dL_law_798 : decode cL_law 798 = .ok (.iadd, 1) := by decide +kernel
theorem dL_law_799 : decode cL_law 799 = .ok (.iaload, 1) := by decide +kernel
theorem dL_law_800 : decode cL_law 800 = .ok (.aload_n 0, 1) := by decide +kernel
theorem dL_law_801 : decode cL_law 801 = .ok (.iload 4, 2) := by decide +kernel
theorem dL_law_803 : decode cL_law 803 = .ok (.iconst 2, 1) := by decide +kernel
theorem dL_law_804 : decode cL_law 804 = .ok (.iadd, 1) := by decide +kernel
theorem dL_law_805 : decode cL_law 805 = .ok (.iaload, 1) := by decide +kernel
theorem dL_law_806 : decode cL_law 806 = .ok (.aload_n 0, 1) := by decide +kernel
theorem dL_law_807 : decode cL_law 807 = .ok (.iload 4, 2) := by decide +kernel
theorem dL_law_809 : decode cL_law 809 = .ok (.iconst 3, 1) := by decide +kernel
theorem dL_law_810 : decode cL_law 810 = .ok (.iadd, 1) := by decide +kernel
theorem dL_law_811 : decode cL_law 811 = .ok (.iaload, 1) := by decide +kernel
theorem dL_law_812 : decode cL_law 812 = .ok (.invokevirtual 128, 3) := by decide +kernel
theorem dL_law_815 : decode cL_law 815 = .ok (.istore 6, 2) := by decide +kernel
theorem dL_law_817 : decode cL_law 817 = .ok (.aload_n 2, 1) := by decide +kernel
theorem dL_law_818 : decode cL_law 818 = .ok (.invokevirtual 96, 3) := by decide +kernel
theorem dL_law_821 : decode cL_law 821 = .ok (.iload 5, 2) := by decide +kernel
theorem dL_law_823 : decode cL_law 823 = .ok (.if_icmp .eq 5, 3) := by decide +kernel
theorem dL_law_826 : decode cL_law 826 = .ok (.iconst 0, 1) := by decide +kernel
theorem dL_law_827 : decode cL_law 827 = .ok (.ireturn, 1) := by decide +kernel
theorem dL_law_828 : decode cL_law 828 = .ok (.iload 5, 2) := by decide +kernel
theorem dL_law_830 : decode cL_law 830 = .ok (.ifCond .ne 15, 3) := by decide +kernel
theorem dL_law_833 : decode cL_law 833 = .ok (.aload_n 3, 1) := by decide +kernel
theorem dL_law_834 : decode cL_law 834 = .ok (.iconst 0, 1) := by decide +kernel
theorem dL_law_835 : decode cL_law 835 = .ok (.laload, 1) := by decide +kernel
theorem dL_law_836 : decode cL_law 836 = .ok (.iload 6, 2) := by decide +kernel
theorem dL_law_838 : decode cL_law 838 = .ok (.i2l, 1) := by decide +kernel
theorem dL_law_839 : decode cL_law 839 = .ok (.lcmp, 1) := by decide +kernel
theorem dL_law_840 : decode cL_law 840 = .ok (.ifCond .eq 5, 3) := by decide +kernel
theorem dL_law_843 : decode cL_law 843 = .ok (.iconst 0, 1) := by decide +kernel
theorem dL_law_844 : decode cL_law 844 = .ok (.ireturn, 1) := by decide +kernel
theorem dL_law_845 : decode cL_law 845 = .ok (.goto 790, 3) := by decide +kernel
theorem dL_law_848 : decode cL_law 848 = .ok (.aload_n 1, 1) := by decide +kernel
theorem dL_law_849 : decode cL_law 849 = .ok (.aload_n 0, 1) := by decide +kernel
theorem dL_law_850 : decode cL_law 850 = .ok (.iload 4, 2) := by decide +kernel
theorem dL_law_852 : decode cL_law 852 = .ok (.iconst 1, 1) := by decide +kernel
theorem dL_law_853 : decode cL_law 853 = .ok (.iadd, 1) := by decide +kernel
theorem dL_law_854 : decode cL_law 854 = .ok (.iaload, 1) := by decide +kernel
theorem dL_law_855 : decode cL_law 855 = .ok (.aload_n 0, 1) := by decide +kernel
theorem dL_law_856 : decode cL_law 856 = .ok (.iload 4, 2) := by decide +kernel
theorem dL_law_858 : decode cL_law 858 = .ok (.iconst 2, 1) := by decide +kernel
theorem dL_law_859 : decode cL_law 859 = .ok (.iadd, 1) := by decide +kernel
theorem dL_law_860 : decode cL_law 860 = .ok (.iaload, 1) := by decide +kernel
theorem dL_law_861 : decode cL_law 861 = .ok (.aload_n 3, 1) := by decide +kernel
theorem dL_law_862 : decode cL_law 862 = .ok (.invokestatic 129, 3) := by decide +kernel
theorem dL_law_865 : decode cL_law 865 = .ok (.istore 5, 2) := by decide +kernel
theorem dL_law_867 : decode cL_law 867 = .ok (.aload_n 2, 1) := by decide +kernel
theorem dL_law_868 : decode cL_law 868 = .ok (.aload_n 0, 1) := by decide +kernel
theorem dL_law_869 : decode cL_law 869 = .ok (.iload 4, 2) := by decide +kernel
theorem dL_law_871 : decode cL_law 871 = .ok (.iconst 1, 1) := by decide +kernel
theorem dL_law_872 : decode cL_law 872 = .ok (.iadd, 1) := by decide +kernel
theorem dL_law_873 : decode cL_law 873 = .ok (.iaload, 1) := by decide +kernel
theorem dL_law_874 : decode cL_law 874 = .ok (.aload_n 0, 1) := by decide +kernel
theorem dL_law_875 : decode cL_law 875 = .ok (.iload 4, 2) := by decide +kernel
theorem dL_law_877 : decode cL_law 877 = .ok (.iconst 2, 1) := by decide +kernel
theorem dL_law_878 : decode cL_law 878 = .ok (.iadd, 1) := by decide +kernel
theorem dL_law_879 : decode cL_law 879 = .ok (.iaload, 1) := by decide +kernel
theorem dL_law_880 : decode cL_law 880 = .ok (.invokevirtual 131, 3) := by decide +kernel
theorem dL_law_883 : decode cL_law 883 = .ok (.istore 6, 2) := by decide +kernel
theorem dL_law_885 : decode cL_law 885 = .ok (.aload_n 2, 1) := by decide +kernel
theorem dL_law_886 : decode cL_law 886 = .ok (.invokevirtual 96, 3) := by decide +kernel
theorem dL_law_889 : decode cL_law 889 = .ok (.iload 5, 2) := by decide +kernel
theorem dL_law_891 : decode cL_law 891 = .ok (.if_icmp .eq 5, 3) := by decide +kernel
theorem dL_law_894 : decode cL_law 894 = .ok (.iconst 0, 1) := by decide +kernel
theorem dL_law_895 : decode cL_law 895 = .ok (.ireturn, 1) := by decide +kernel
theorem dL_law_896 : decode cL_law 896 = .ok (.iload 5, 2) := by decide +kernel
theorem dL_law_898 : decode cL_law 898 = .ok (.ifCond .ne 15, 3) := by decide +kernel
theorem dL_law_901 : decode cL_law 901 = .ok (.aload_n 3, 1) := by decide +kernel
theorem dL_law_902 : decode cL_law 902 = .ok (.iconst 0, 1) := by decide +kernel
theorem dL_law_903 : decode cL_law 903 = .ok (.laload, 1) := by decide +kernel
theorem dL_law_904 : decode cL_law 904 = .ok (.iload 6, 2) := by decide +kernel
theorem dL_law_906 : decode cL_law 906 = .ok (.i2l, 1) := by decide +kernel
theorem dL_law_907 : decode cL_law 907 = .ok (.lcmp, 1) := by decide +kernel
theorem dL_law_908 : decode cL_law 908 = .ok (.ifCond .eq 5, 3) := by decide +kernel
theorem dL_law_911 : decode cL_law 911 = .ok (.iconst 0, 1) := by decide +kernel
theorem dL_law_912 : decode cL_law 912 = .ok (.ireturn, 1) := by decide +kernel
theorem dL_law_913 : decode cL_law 913 = .ok (.goto 722, 3) := by decide +kernel
theorem dL_law_916 : decode cL_law 916 = .ok (.aload_n 1, 1) := by decide +kernel
theorem dL_law_917 : decode cL_law 917 = .ok (.aload_n 0, 1) := by decide +kernel
theorem dL_law_918 : decode cL_law 918 = .ok (.iload 4, 2) := by decide +kernel
theorem dL_law_920 : decode cL_law 920 = .ok (.iconst 1, 1) := by decide +kernel
theorem dL_law_921 : decode cL_law 921 = .ok (.iadd, 1) := by decide +kernel
theorem dL_law_922 : decode cL_law 922 = .ok (.iaload, 1) := by decide +kernel
theorem dL_law_923 : decode cL_law 923 = .ok (.aload_n 0, 1) := by decide +kernel
theorem dL_law_924 : decode cL_law 924 = .ok (.iload 4, 2) := by decide +kernel
theorem dL_law_926 : decode cL_law 926 = .ok (.iconst 2, 1) := by decide +kernel
theorem dL_law_927 : decode cL_law 927 = .ok (.iadd, 1) := by decide +kernel
theorem dL_law_928 : decode cL_law 928 = .ok (.iaload, 1) := by decide +kernel
theorem dL_law_929 : decode cL_law 929 = .ok (.aload_n 3, 1) := by decide +kernel
theorem dL_law_930 : decode cL_law 930 = .ok (.invokestatic 132, 3) := by decide +kernel
theorem dL_law_933 : decode cL_law 933 = .ok (.istore 5, 2) := by decide +kernel
theorem dL_law_935 : decode cL_law 935 = .ok (.aload_n 2, 1) := by decide +kernel
theorem dL_law_936 : decode cL_law 936 = .ok (.aload_n 0, 1) := by decide +kernel
theorem dL_law_937 : decode cL_law 937 = .ok (.iload 4, 2) := by decide +kernel
theorem dL_law_939 : decode cL_law 939 = .ok (.iconst 1, 1) := by decide +kernel
theorem dL_law_940 : decode cL_law 940 = .ok (.iadd, 1) := by decide +kernel
theorem dL_law_941 : decode cL_law 941 = .ok (.iaload, 1) := by decide +kernel
theorem dL_law_942 : decode cL_law 942 = .ok (.aload_n 0, 1) := by decide +kernel
theorem dL_law_943 : decode cL_law 943 = .ok (.iload 4, 2) := by decide +kernel
theorem dL_law_945 : decode cL_law 945 = .ok (.iconst 2, 1) := by decide +kernel
theorem dL_law_946 : decode cL_law 946 = .ok (.iadd, 1) := by decide +kernel
theorem dL_law_947 : decode cL_law 947 = .ok (.iaload, 1) := by decide +kernel
theorem dL_law_948 : decode cL_law 948 = .ok (.invokevirtual 134, 3) := by decide +kernel
theorem dL_law_951 : decode cL_law 951 = .ok (.istore 6, 2) := by decide +kernel
theorem dL_law_953 : decode cL_law 953 = .ok (.aload_n 2, 1) := by decide +kernel
theorem dL_law_954 : decode cL_law 954 = .ok (.invokevirtual 96, 3) := by decide +kernel
theorem dL_law_957 : decode cL_law 957 = .ok (.iload 5, 2) := by decide +kernel
theorem dL_law_959 : decode cL_law 959 = .ok (.if_icmp .eq 5, 3) := by decide +kernel
theorem dL_law_962 : decode cL_law 962 = .ok (.iconst 0, 1) := by decide +kernel
theorem dL_law_963 : decode cL_law 963 = .ok (.ireturn, 1) := by decide +kernel
theorem dL_law_964 : decode cL_law 964 = .ok (.iload 5, 2) := by decide +kernel
theorem dL_law_966 : decode cL_law 966 = .ok (.ifCond .ne 15, 3) := by decide +kernel
theorem dL_law_969 : decode cL_law 969 = .ok (.aload_n 3, 1) := by decide +kernel
theorem dL_law_970 : decode cL_law 970 = .ok (.iconst 0, 1) := by decide +kernel
theorem dL_law_971 : decode cL_law 971 = .ok (.laload, 1) := by decide +kernel
theorem dL_law_972 : decode cL_law 972 = .ok (.iload 6, 2) := by decide +kernel
theorem dL_law_974 : decode cL_law 974 = .ok (.i2l, 1) := by decide +kernel
theorem dL_law_975 : decode cL_law 975 = .ok (.lcmp, 1) := by decide +kernel
theorem dL_law_976 : decode cL_law 976 = .ok (.ifCond .eq 5, 3) := by decide +kernel
theorem dL_law_979 : decode cL_law 979 = .ok (.iconst 0, 1) := by decide +kernel
theorem dL_law_980 : decode cL_law 980 = .ok (.ireturn, 1) := by decide +kernel
theorem dL_law_981 : decode cL_law 981 = .ok (.goto 654, 3) := by decide +kernel
theorem dL_law_984 : decode cL_law 984 = .ok (.aload_n 1, 1) := by decide +kernel
theorem dL_law_985 : decode cL_law 985 = .ok (.aload_n 0, 1) := by decide +kernel
theorem dL_law_986 : decode cL_law 986 = .ok (.iload 4, 2) := by decide +kernel
theorem dL_law_988 : decode cL_law 988 = .ok (.iconst 1, 1) := by decide +kernel
theorem dL_law_989 : decode cL_law 989 = .ok (.iadd, 1) := by decide +kernel
theorem dL_law_990 : decode cL_law 990 = .ok (.iaload, 1) := by decide +kernel
theorem dL_law_991 : decode cL_law 991 = .ok (.aload_n 0, 1) := by decide +kernel
theorem dL_law_992 : decode cL_law 992 = .ok (.iload 4, 2) := by decide +kernel
theorem dL_law_994 : decode cL_law 994 = .ok (.iconst 2, 1) := by decide +kernel
theorem dL_law_995 : decode cL_law 995 = .ok (.iadd, 1) := by decide +kernel
theorem dL_law_996 : decode cL_law 996 = .ok (.iaload, 1) := by decide +kernel
theorem dL_law_997 : decode cL_law 997 = .ok (.aload_n 3, 1) := by decide +kernel
theorem dL_law_998 : decode cL_law 998 = .ok (.invokestatic 135, 3) := by decide +kernel
theorem dL_law_1001 : decode cL_law 1001 = .ok (.istore 5, 2) := by decide +kernel
theorem dL_law_1003 : decode cL_law 1003 = .ok (.aload_n 2, 1) := by decide +kernel
theorem dL_law_1004 : decode cL_law 1004 = .ok (.aload_n 0, 1) := by decide +kernel
theorem dL_law_1005 : decode cL_law 1005 = .ok (.iload 4, 2) := by decide +kernel
theorem dL_law_1007 : decode cL_law 1007 = .ok (.iconst 1, 1) := by decide +kernel
theorem dL_law_1008 : decode cL_law 1008 = .ok (.iadd, 1) := by decide +kernel
theorem dL_law_1009 : decode cL_law 1009 = .ok (.iaload, 1) := by decide +kernel
theorem dL_law_1010 : decode cL_law 1010 = .ok (.aload_n 0, 1) := by decide +kernel
theorem dL_law_1011 : decode cL_law 1011 = .ok (.iload 4, 2) := by decide +kernel
theorem dL_law_1013 : decode cL_law 1013 = .ok (.iconst 2, 1) := by decide +kernel
theorem dL_law_1014 : decode cL_law 1014 = .ok (.iadd, 1) := by decide +kernel
theorem dL_law_1015 : decode cL_law 1015 = .ok (.iaload, 1) := by decide +kernel
theorem dL_law_1016 : decode cL_law 1016 = .ok (.invokevirtual 137, 3) := by decide +kernel
theorem dL_law_1019 : decode cL_law 1019 = .ok (.istore 6, 2) := by decide +kernel
theorem dL_law_1021 : decode cL_law 1021 = .ok (.aload_n 2, 1) := by decide +kernel
theorem dL_law_1022 : decode cL_law 1022 = .ok (.invokevirtual 96, 3) := by decide +kernel
theorem dL_law_1025 : decode cL_law 1025 = .ok (.iload 5, 2) := by decide +kernel
theorem dL_law_1027 : decode cL_law 1027 = .ok (.if_icmp .eq 5, 3) := by decide +kernel
theorem dL_law_1030 : decode cL_law 1030 = .ok (.iconst 0, 1) := by decide +kernel
theorem dL_law_1031 : decode cL_law 1031 = .ok (.ireturn, 1) := by decide +kernel
theorem dL_law_1032 : decode cL_law 1032 = .ok (.iload 5, 2) := by decide +kernel
theorem dL_law_1034 : decode cL_law 1034 = .ok (.ifCond .ne 15, 3) := by decide +kernel
theorem dL_law_1037 : decode cL_law 1037 = .ok (.aload_n 3, 1) := by decide +kernel
theorem dL_law_1038 : decode cL_law 1038 = .ok (.iconst 0, 1) := by decide +kernel
theorem dL_law_1039 : decode cL_law 1039 = .ok (.laload, 1) := by decide +kernel
theorem dL_law_1040 : decode cL_law 1040 = .ok (.iload 6, 2) := by decide +kernel
theorem dL_law_1042 : decode cL_law 1042 = .ok (.i2l, 1) := by decide +kernel
theorem dL_law_1043 : decode cL_law 1043 = .ok (.lcmp, 1) := by decide +kernel
theorem dL_law_1044 : decode cL_law 1044 = .ok (.ifCond .eq 5, 3) := by decide +kernel
theorem dL_law_1047 : decode cL_law 1047 = .ok (.iconst 0, 1) := by decide +kernel
theorem dL_law_1048 : decode cL_law 1048 = .ok (.ireturn, 1) := by decide +kernel
theorem dL_law_1049 : decode cL_law 1049 = .ok (.goto 586, 3) := by decide +kernel
theorem dL_law_1052 : decode cL_law 1052 = .ok (.aload_n 1, 1) := by decide +kernel
theorem dL_law_1053 : decode cL_law 1053 = .ok (.aload_n 0, 1) := by decide +kernel
theorem dL_law_1054 : decode cL_law 1054 = .ok (.iload 4, 2) := by decide +kernel
theorem dL_law_1056 : decode cL_law 1056 = .ok (.iconst 1, 1) := by decide +kernel
theorem dL_law_1057 : decode cL_law 1057 = .ok (.iadd, 1) := by decide +kernel
theorem dL_law_1058 : decode cL_law 1058 = .ok (.iaload, 1) := by decide +kernel
theorem dL_law_1059 : decode cL_law 1059 = .ok (.aload_n 0, 1) := by decide +kernel
theorem dL_law_1060 : decode cL_law 1060 = .ok (.iload 4, 2) := by decide +kernel
theorem dL_law_1062 : decode cL_law 1062 = .ok (.iconst 2, 1) := by decide +kernel
theorem dL_law_1063 : decode cL_law 1063 = .ok (.iadd, 1) := by decide +kernel
theorem dL_law_1064 : decode cL_law 1064 = .ok (.iaload, 1) := by decide +kernel
theorem dL_law_1065 : decode cL_law 1065 = .ok (.aload_n 3, 1) := by decide +kernel
theorem dL_law_1066 : decode cL_law 1066 = .ok (.invokestatic 138, 3) := by decide +kernel
theorem dL_law_1069 : decode cL_law 1069 = .ok (.istore 5, 2) := by decide +kernel
theorem dL_law_1071 : decode cL_law 1071 = .ok (.aload_n 2, 1) := by decide +kernel
theorem dL_law_1072 : decode cL_law 1072 = .ok (.aload_n 0, 1) := by decide +kernel
theorem dL_law_1073 : decode cL_law 1073 = .ok (.iload 4, 2) := by decide +kernel
theorem dL_law_1075 : decode cL_law 1075 = .ok (.iconst 1, 1) := by decide +kernel
theorem dL_law_1076 : decode cL_law 1076 = .ok (.iadd, 1) := by decide +kernel
theorem dL_law_1077 : decode cL_law 1077 = .ok (.iaload, 1) := by decide +kernel
theorem dL_law_1078 : decode cL_law 1078 = .ok (.aload_n 0, 1) := by decide +kernel
theorem dL_law_1079 : decode cL_law 1079 = .ok (.iload 4, 2) := by decide +kernel
theorem dL_law_1081 : decode cL_law 1081 = .ok (.iconst 2, 1) := by decide +kernel
theorem dL_law_1082 : decode cL_law 1082 = .ok (.iadd, 1) := by decide +kernel
theorem dL_law_1083 : decode cL_law 1083 = .ok (.iaload, 1) := by decide +kernel
theorem dL_law_1084 : decode cL_law 1084 = .ok (.invokevirtual 140, 3) := by decide +kernel
theorem dL_law_1087 : decode cL_law 1087 = .ok (.istore 6, 2) := by decide +kernel
theorem dL_law_1089 : decode cL_law 1089 = .ok (.aload_n 2, 1) := by decide +kernel
theorem dL_law_1090 : decode cL_law 1090 = .ok (.invokevirtual 96, 3) := by decide +kernel
theorem dL_law_1093 : decode cL_law 1093 = .ok (.iload 5, 2) := by decide +kernel
theorem dL_law_1095 : decode cL_law 1095 = .ok (.if_icmp .eq 5, 3) := by decide +kernel
theorem dL_law_1098 : decode cL_law 1098 = .ok (.iconst 0, 1) := by decide +kernel
theorem dL_law_1099 : decode cL_law 1099 = .ok (.ireturn, 1) := by decide +kernel
theorem dL_law_1100 : decode cL_law 1100 = .ok (.iload 5, 2) := by decide +kernel
theorem dL_law_1102 : decode cL_law 1102 = .ok (.ifCond .ne 15, 3) := by decide +kernel
theorem dL_law_1105 : decode cL_law 1105 = .ok (.aload_n 3, 1) := by decide +kernel
theorem dL_law_1106 : decode cL_law 1106 = .ok (.iconst 0, 1) := by decide +kernel
theorem dL_law_1107 : decode cL_law 1107 = .ok (.laload, 1) := by decide +kernel
theorem dL_law_1108 : decode cL_law 1108 = .ok (.iload 6, 2) := by decide +kernel
theorem dL_law_1110 : decode cL_law 1110 = .ok (.i2l, 1) := by decide +kernel
theorem dL_law_1111 : decode cL_law 1111 = .ok (.lcmp, 1) := by decide +kernel
theorem dL_law_1112 : decode cL_law 1112 = .ok (.ifCond .eq 5, 3) := by decide +kernel
theorem dL_law_1115 : decode cL_law 1115 = .ok (.iconst 0, 1) := by decide +kernel
theorem dL_law_1116 : decode cL_law 1116 = .ok (.ireturn, 1) := by decide +kernel
theorem dL_law_1117 : decode cL_law 1117 = .ok (.goto 518, 3) := by decide +kernel
theorem dL_law_1120 : decode cL_law 1120 = .ok (.aload_n 1, 1) := by decide +kernel
theorem dL_law_1121 : decode cL_law 1121 = .ok (.aload_n 0, 1) := by decide +kernel
theorem dL_law_1122 : decode cL_law 1122 = .ok (.iload 4, 2) := by decide +kernel
theorem dL_law_1124 : decode cL_law 1124 = .ok (.iconst 1, 1) := by decide +kernel
theorem dL_law_1125 : decode cL_law 1125 = .ok (.iadd, 1) := by decide +kernel
theorem dL_law_1126 : decode cL_law 1126 = .ok (.iaload, 1) := by decide +kernel
theorem dL_law_1127 : decode cL_law 1127 = .ok (.aload_n 3, 1) := by decide +kernel
theorem dL_law_1128 : decode cL_law 1128 = .ok (.invokestatic 141, 3) := by decide +kernel
theorem dL_law_1131 : decode cL_law 1131 = .ok (.istore 5, 2) := by decide +kernel
theorem dL_law_1133 : decode cL_law 1133 = .ok (.aload_n 2, 1) := by decide +kernel
theorem dL_law_1134 : decode cL_law 1134 = .ok (.aload_n 0, 1) := by decide +kernel
theorem dL_law_1135 : decode cL_law 1135 = .ok (.iload 4, 2) := by decide +kernel
theorem dL_law_1137 : decode cL_law 1137 = .ok (.iconst 1, 1) := by decide +kernel
theorem dL_law_1138 : decode cL_law 1138 = .ok (.iadd, 1) := by decide +kernel
theorem dL_law_1139 : decode cL_law 1139 = .ok (.iaload, 1) := by decide +kernel
theorem dL_law_1140 : decode cL_law 1140 = .ok (.invokevirtual 143, 3) := by decide +kernel
theorem dL_law_1143 : decode cL_law 1143 = .ok (.istore 6, 2) := by decide +kernel
theorem dL_law_1145 : decode cL_law 1145 = .ok (.aload_n 2, 1) := by decide +kernel
theorem dL_law_1146 : decode cL_law 1146 = .ok (.invokevirtual 96, 3) := by decide +kernel
theorem dL_law_1149 : decode cL_law 1149 = .ok (.iload 5, 2) := by decide +kernel
theorem dL_law_1151 : decode cL_law 1151 = .ok (.if_icmp .eq 5, 3) := by decide +kernel
theorem dL_law_1154 : decode cL_law 1154 = .ok (.iconst 0, 1) := by decide +kernel
theorem dL_law_1155 : decode cL_law 1155 = .ok (.ireturn, 1) := by decide +kernel
theorem dL_law_1156 : decode cL_law 1156 = .ok (.iload 5, 2) := by decide +kernel
theorem dL_law_1158 : decode cL_law 1158 = .ok (.ifCond .ne 15, 3) := by decide +kernel
theorem dL_law_1161 : decode cL_law 1161 = .ok (.aload_n 3, 1) := by decide +kernel
theorem dL_law_1162 : decode cL_law 1162 = .ok (.iconst 0, 1) := by decide +kernel
theorem dL_law_1163 : decode cL_law 1163 = .ok (.laload, 1) := by decide +kernel
theorem dL_law_1164 : decode cL_law 1164 = .ok (.iload 6, 2) := by decide +kernel
theorem dL_law_1166 : decode cL_law 1166 = .ok (.i2l, 1) := by decide +kernel
theorem dL_law_1167 : decode cL_law 1167 = .ok (.lcmp, 1) := by decide +kernel
theorem dL_law_1168 : decode cL_law 1168 = .ok (.ifCond .eq 5, 3) := by decide +kernel
theorem dL_law_1171 : decode cL_law 1171 = .ok (.iconst 0, 1) := by decide +kernel
theorem dL_law_1172 : decode cL_law 1172 = .ok (.ireturn, 1) := by decide +kernel
theorem dL_law_1173 : decode cL_law 1173 = .ok (.goto 462, 3) := by decide +kernel
theorem dL_law_1176 : decode cL_law 1176 = .ok (.aload_n 1, 1) := by decide +kernel
theorem dL_law_1177 : decode cL_law 1177 = .ok (.aload_n 0, 1) := by decide +kernel
theorem dL_law_1178 : decode cL_law 1178 = .ok (.iload 4, 2) := by decide +kernel
theorem dL_law_1180 : decode cL_law 1180 = .ok (.iconst 1, 1) := by decide +kernel
theorem dL_law_1181 : decode cL_law 1181 = .ok (.iadd, 1) := by decide +kernel
theorem dL_law_1182 : decode cL_law 1182 = .ok (.iaload, 1) := by decide +kernel
theorem dL_law_1183 : decode cL_law 1183 = .ok (.aload_n 3, 1) := by decide +kernel
theorem dL_law_1184 : decode cL_law 1184 = .ok (.invokestatic 144, 3) := by decide +kernel
theorem dL_law_1187 : decode cL_law 1187 = .ok (.istore 5, 2) := by decide +kernel
theorem dL_law_1189 : decode cL_law 1189 = .ok (.aload_n 2, 1) := by decide +kernel
theorem dL_law_1190 : decode cL_law 1190 = .ok (.aload_n 0, 1) := by decide +kernel
theorem dL_law_1191 : decode cL_law 1191 = .ok (.iload 4, 2) := by decide +kernel
theorem dL_law_1193 : decode cL_law 1193 = .ok (.iconst 1, 1) := by decide +kernel
theorem dL_law_1194 : decode cL_law 1194 = .ok (.iadd, 1) := by decide +kernel
theorem dL_law_1195 : decode cL_law 1195 = .ok (.iaload, 1) := by decide +kernel
theorem dL_law_1196 : decode cL_law 1196 = .ok (.invokevirtual 146, 3) := by decide +kernel
theorem dL_law_1199 : decode cL_law 1199 = .ok (.istore 6, 2) := by decide +kernel
theorem dL_law_1201 : decode cL_law 1201 = .ok (.aload_n 2, 1) := by decide +kernel
theorem dL_law_1202 : decode cL_law 1202 = .ok (.invokevirtual 96, 3) := by decide +kernel
theorem dL_law_1205 : decode cL_law 1205 = .ok (.iload 5, 2) := by decide +kernel
theorem dL_law_1207 : decode cL_law 1207 = .ok (.if_icmp .eq 5, 3) := by decide +kernel
theorem dL_law_1210 : decode cL_law 1210 = .ok (.iconst 0, 1) := by decide +kernel
theorem dL_law_1211 : decode cL_law 1211 = .ok (.ireturn, 1) := by decide +kernel
theorem dL_law_1212 : decode cL_law 1212 = .ok (.iload 5, 2) := by decide +kernel
theorem dL_law_1214 : decode cL_law 1214 = .ok (.ifCond .ne 15, 3) := by decide +kernel
theorem dL_law_1217 : decode cL_law 1217 = .ok (.aload_n 3, 1) := by decide +kernel
theorem dL_law_1218 : decode cL_law 1218 = .ok (.iconst 0, 1) := by decide +kernel
theorem dL_law_1219 : decode cL_law 1219 = .ok (.laload, 1) := by decide +kernel
theorem dL_law_1220 : decode cL_law 1220 = .ok (.iload 6, 2) := by decide +kernel
theorem dL_law_1222 : decode cL_law 1222 = .ok (.i2l, 1) := by decide +kernel
theorem dL_law_1223 : decode cL_law 1223 = .ok (.lcmp, 1) := by decide +kernel
theorem dL_law_1224 : decode cL_law 1224 = .ok (.ifCond .eq 5, 3) := by decide +kernel
theorem dL_law_1227 : decode cL_law 1227 = .ok (.iconst 0, 1) := by decide +kernel
theorem dL_law_1228 : decode cL_law 1228 = .ok (.ireturn, 1) := by decide +kernel
theorem dL_law_1229 : decode cL_law 1229 = .ok (.goto 406, 3) := by decide +kernel
theorem dL_law_1232 : decode cL_law 1232 = .ok (.aload_n 1, 1) := by decide +kernel
theorem dL_law_1233 : decode cL_law 1233 = .ok (.aload_n 0, 1) := by decide +kernel
theorem dL_law_1234 : decode cL_law 1234 = .ok (.iload 4, 2) := by decide +kernel
theorem dL_law_1236 : decode cL_law 1236 = .ok (.iconst 1, 1) := by decide +kernel
theorem dL_law_1237 : decode cL_law 1237 = .ok (.iadd, 1) := by decide +kernel
theorem dL_law_1238 : decode cL_law 1238 = .ok (.iaload, 1) := by decide +kernel
theorem dL_law_1239 : decode cL_law 1239 = .ok (.aload_n 3, 1) := by decide +kernel
theorem dL_law_1240 : decode cL_law 1240 = .ok (.invokestatic 147, 3) := by decide +kernel
theorem dL_law_1243 : decode cL_law 1243 = .ok (.istore 5, 2) := by decide +kernel
theorem dL_law_1245 : decode cL_law 1245 = .ok (.aload_n 2, 1) := by decide +kernel
theorem dL_law_1246 : decode cL_law 1246 = .ok (.aload_n 0, 1) := by decide +kernel
theorem dL_law_1247 : decode cL_law 1247 = .ok (.iload 4, 2) := by decide +kernel
theorem dL_law_1249 : decode cL_law 1249 = .ok (.iconst 1, 1) := by decide +kernel
theorem dL_law_1250 : decode cL_law 1250 = .ok (.iadd, 1) := by decide +kernel
theorem dL_law_1251 : decode cL_law 1251 = .ok (.iaload, 1) := by decide +kernel
theorem dL_law_1252 : decode cL_law 1252 = .ok (.invokevirtual 149, 3) := by decide +kernel
theorem dL_law_1255 : decode cL_law 1255 = .ok (.istore 6, 2) := by decide +kernel
theorem dL_law_1257 : decode cL_law 1257 = .ok (.aload_n 2, 1) := by decide +kernel
theorem dL_law_1258 : decode cL_law 1258 = .ok (.invokevirtual 96, 3) := by decide +kernel
theorem dL_law_1261 : decode cL_law 1261 = .ok (.iload 5, 2) := by decide +kernel
theorem dL_law_1263 : decode cL_law 1263 = .ok (.if_icmp .eq 5, 3) := by decide +kernel
theorem dL_law_1266 : decode cL_law 1266 = .ok (.iconst 0, 1) := by decide +kernel
theorem dL_law_1267 : decode cL_law 1267 = .ok (.ireturn, 1) := by decide +kernel
theorem dL_law_1268 : decode cL_law 1268 = .ok (.iload 5, 2) := by decide +kernel
theorem dL_law_1270 : decode cL_law 1270 = .ok (.ifCond .ne 15, 3) := by decide +kernel
theorem dL_law_1273 : decode cL_law 1273 = .ok (.aload_n 3, 1) := by decide +kernel
theorem dL_law_1274 : decode cL_law 1274 = .ok (.iconst 0, 1) := by decide +kernel
theorem dL_law_1275 : decode cL_law 1275 = .ok (.laload, 1) := by decide +kernel
theorem dL_law_1276 : decode cL_law 1276 = .ok (.iload 6, 2) := by decide +kernel
theorem dL_law_1278 : decode cL_law 1278 = .ok (.i2l, 1) := by decide +kernel
theorem dL_law_1279 : decode cL_law 1279 = .ok (.lcmp, 1) := by decide +kernel
theorem dL_law_1280 : decode cL_law 1280 = .ok (.ifCond .eq 5, 3) := by decide +kernel
theorem dL_law_1283 : decode cL_law 1283 = .ok (.iconst 0, 1) := by decide +kernel
theorem dL_law_1284 : decode cL_law 1284 = .ok (.ireturn, 1) := by decide +kernel
theorem dL_law_1285 : decode cL_law 1285 = .ok (.goto 350, 3) := by decide +kernel
theorem dL_law_1288 : decode cL_law 1288 = .ok (.aload_n 1, 1) := by decide +kernel
theorem dL_law_1289 : decode cL_law 1289 = .ok (.invokevirtual 150, 3) := by decide +kernel
theorem dL_law_1292 : decode cL_law 1292 = .ok (.aload_n 2, 1) := by decide +kernel
theorem dL_law_1293 : decode cL_law 1293 = .ok (.invokevirtual 153, 3) := by decide +kernel
theorem dL_law_1296 : decode cL_law 1296 = .ok (.if_icmp .eq 339, 3) := by decide +kernel
theorem dL_law_1299 : decode cL_law 1299 = .ok (.iconst 0, 1) := by decide +kernel
theorem dL_law_1300 : decode cL_law 1300 = .ok (.ireturn, 1) := by decide +kernel
theorem dL_law_1301 : decode cL_law 1301 = .ok (.aload_n 1, 1) := by decide +kernel
theorem dL_law_1302 : decode cL_law 1302 = .ok (.invokevirtual 154, 3) := by decide +kernel
theorem dL_law_1305 : decode cL_law 1305 = .ok (.aload_n 2, 1) := by decide +kernel
theorem dL_law_1306 : decode cL_law 1306 = .ok (.invokevirtual 157, 3) := by decide +kernel
theorem dL_law_1309 : decode cL_law 1309 = .ok (.if_icmp .eq 326, 3) := by decide +kernel
theorem dL_law_1312 : decode cL_law 1312 = .ok (.iconst 0, 1) := by decide +kernel
theorem dL_law_1313 : decode cL_law 1313 = .ok (.ireturn, 1) := by decide +kernel
theorem dL_law_1314 : decode cL_law 1314 = .ok (.aload_n 1, 1) := by decide +kernel
theorem dL_law_1315 : decode cL_law 1315 = .ok (.aload_n 0, 1) := by decide +kernel
theorem dL_law_1316 : decode cL_law 1316 = .ok (.iload 4, 2) := by decide +kernel
theorem dL_law_1318 : decode cL_law 1318 = .ok (.iconst 1, 1) := by decide +kernel
theorem dL_law_1319 : decode cL_law 1319 = .ok (.iadd, 1) := by decide +kernel
theorem dL_law_1320 : decode cL_law 1320 = .ok (.iaload, 1) := by decide +kernel
theorem dL_law_1321 : decode cL_law 1321 = .ok (.aload_n 3, 1) := by decide +kernel
theorem dL_law_1322 : decode cL_law 1322 = .ok (.invokestatic 158, 3) := by decide +kernel
theorem dL_law_1325 : decode cL_law 1325 = .ok (.istore 5, 2) := by decide +kernel
theorem dL_law_1327 : decode cL_law 1327 = .ok (.aload_n 2, 1) := by decide +kernel
theorem dL_law_1328 : decode cL_law 1328 = .ok (.aload_n 0, 1) := by decide +kernel
theorem dL_law_1329 : decode cL_law 1329 = .ok (.iload 4, 2) := by decide +kernel
theorem dL_law_1331 : decode cL_law 1331 = .ok (.iconst 1, 1) := by decide +kernel
theorem dL_law_1332 : decode cL_law 1332 = .ok (.iadd, 1) := by decide +kernel
theorem dL_law_1333 : decode cL_law 1333 = .ok (.iaload, 1) := by decide +kernel
theorem dL_law_1334 : decode cL_law 1334 = .ok (.invokevirtual 160, 3) := by decide +kernel
theorem dL_law_1337 : decode cL_law 1337 = .ok (.istore 6, 2) := by decide +kernel
theorem dL_law_1339 : decode cL_law 1339 = .ok (.aload_n 2, 1) := by decide +kernel
theorem dL_law_1340 : decode cL_law 1340 = .ok (.invokevirtual 96, 3) := by decide +kernel
theorem dL_law_1343 : decode cL_law 1343 = .ok (.iload 5, 2) := by decide +kernel
theorem dL_law_1345 : decode cL_law 1345 = .ok (.if_icmp .eq 5, 3) := by decide +kernel
theorem dL_law_1348 : decode cL_law 1348 = .ok (.iconst 0, 1) := by decide +kernel
theorem dL_law_1349 : decode cL_law 1349 = .ok (.ireturn, 1) := by decide +kernel
theorem dL_law_1350 : decode cL_law 1350 = .ok (.iload 5, 2) := by decide +kernel
theorem dL_law_1352 : decode cL_law 1352 = .ok (.ifCond .ne 15, 3) := by decide +kernel
theorem dL_law_1355 : decode cL_law 1355 = .ok (.aload_n 3, 1) := by decide +kernel
theorem dL_law_1356 : decode cL_law 1356 = .ok (.iconst 0, 1) := by decide +kernel
theorem dL_law_1357 : decode cL_law 1357 = .ok (.laload, 1) := by decide +kernel
theorem dL_law_1358 : decode cL_law 1358 = .ok (.iload 6, 2) := by decide +kernel
theorem dL_law_1360 : decode cL_law 1360 = .ok (.i2l, 1) := by decide +kernel
theorem dL_law_1361 : decode cL_law 1361 = .ok (.lcmp, 1) := by decide +kernel
theorem dL_law_1362 : decode cL_law 1362 = .ok (.ifCond .eq 5, 3) := by decide +kernel
theorem dL_law_1365 : decode cL_law 1365 = .ok (.iconst 0, 1) := by decide +kernel
theorem dL_law_1366 : decode cL_law 1366 = .ok (.ireturn, 1) := by decide +kernel
theorem dL_law_1367 : decode cL_law 1367 = .ok (.goto 268, 3) := by decide +kernel
theorem dL_law_1370 : decode cL_law 1370 = .ok (.aload_n 1, 1) := by decide +kernel
theorem dL_law_1371 : decode cL_law 1371 = .ok (.aload_n 0, 1) := by decide +kernel
theorem dL_law_1372 : decode cL_law 1372 = .ok (.iload 4, 2) := by decide +kernel
theorem dL_law_1374 : decode cL_law 1374 = .ok (.iconst 1, 1) := by decide +kernel
theorem dL_law_1375 : decode cL_law 1375 = .ok (.iadd, 1) := by decide +kernel
theorem dL_law_1376 : decode cL_law 1376 = .ok (.iaload, 1) := by decide +kernel
theorem dL_law_1377 : decode cL_law 1377 = .ok (.aload_n 3, 1) := by decide +kernel
theorem dL_law_1378 : decode cL_law 1378 = .ok (.invokestatic 161, 3) := by decide +kernel
theorem dL_law_1381 : decode cL_law 1381 = .ok (.istore 5, 2) := by decide +kernel
theorem dL_law_1383 : decode cL_law 1383 = .ok (.aload_n 2, 1) := by decide +kernel
theorem dL_law_1384 : decode cL_law 1384 = .ok (.aload_n 0, 1) := by decide +kernel
theorem dL_law_1385 : decode cL_law 1385 = .ok (.iload 4, 2) := by decide +kernel
theorem dL_law_1387 : decode cL_law 1387 = .ok (.iconst 1, 1) := by decide +kernel
theorem dL_law_1388 : decode cL_law 1388 = .ok (.iadd, 1) := by decide +kernel
theorem dL_law_1389 : decode cL_law 1389 = .ok (.iaload, 1) := by decide +kernel
theorem dL_law_1390 : decode cL_law 1390 = .ok (.invokevirtual 163, 3) := by decide +kernel
theorem dL_law_1393 : decode cL_law 1393 = .ok (.istore 6, 2) := by decide +kernel
theorem dL_law_1395 : decode cL_law 1395 = .ok (.aload_n 2, 1) := by decide +kernel
theorem dL_law_1396 : decode cL_law 1396 = .ok (.invokevirtual 96, 3) := by decide +kernel
theorem dL_law_1399 : decode cL_law 1399 = .ok (.iload 5, 2) := by decide +kernel
theorem dL_law_1401 : decode cL_law 1401 = .ok (.if_icmp .eq 5, 3) := by decide +kernel
theorem dL_law_1404 : decode cL_law 1404 = .ok (.iconst 0, 1) := by decide +kernel
theorem dL_law_1405 : decode cL_law 1405 = .ok (.ireturn, 1) := by decide +kernel
theorem dL_law_1406 : decode cL_law 1406 = .ok (.iload 5, 2) := by decide +kernel
theorem dL_law_1408 : decode cL_law 1408 = .ok (.ifCond .ne 15, 3) := by decide +kernel
theorem dL_law_1411 : decode cL_law 1411 = .ok (.aload_n 3, 1) := by decide +kernel
theorem dL_law_1412 : decode cL_law 1412 = .ok (.iconst 0, 1) := by decide +kernel
theorem dL_law_1413 : decode cL_law 1413 = .ok (.laload, 1) := by decide +kernel
theorem dL_law_1414 : decode cL_law 1414 = .ok (.iload 6, 2) := by decide +kernel
theorem dL_law_1416 : decode cL_law 1416 = .ok (.i2l, 1) := by decide +kernel
theorem dL_law_1417 : decode cL_law 1417 = .ok (.lcmp, 1) := by decide +kernel
theorem dL_law_1418 : decode cL_law 1418 = .ok (.ifCond .eq 5, 3) := by decide +kernel
theorem dL_law_1421 : decode cL_law 1421 = .ok (.iconst 0, 1) := by decide +kernel
theorem dL_law_1422 : decode cL_law 1422 = .ok (.ireturn, 1) := by decide +kernel
theorem dL_law_1423 : decode cL_law 1423 = .ok (.goto 212, 3) := by decide +kernel
theorem dL_law_1426 : decode cL_law 1426 = .ok (.aload_n 1, 1) := by decide +kernel
theorem dL_law_1427 : decode cL_law 1427 = .ok (.invokevirtual 164, 3) := by decide +kernel
theorem dL_law_1430 : decode cL_law 1430 = .ok (.aload_n 2, 1) := by decide +kernel
theorem dL_law_1431 : decode cL_law 1431 = .ok (.invokevirtual 167, 3) := by decide +kernel
theorem dL_law_1434 : decode cL_law 1434 = .ok (.if_icmp .eq 201, 3) := by decide +kernel
theorem dL_law_1437 : decode cL_law 1437 = .ok (.iconst 0, 1) := by decide +kernel
theorem dL_law_1438 : decode cL_law 1438 = .ok (.ireturn, 1) := by decide +kernel
theorem dL_law_1439 : decode cL_law 1439 = .ok (.aload_n 1, 1) := by decide +kernel
theorem dL_law_1440 : decode cL_law 1440 = .ok (.aload_n 0, 1) := by decide +kernel
theorem dL_law_1441 : decode cL_law 1441 = .ok (.iload 4, 2) := by decide +kernel
theorem dL_law_1443 : decode cL_law 1443 = .ok (.iconst 1, 1) := by decide +kernel
theorem dL_law_1444 : decode cL_law 1444 = .ok (.iadd, 1) := by decide +kernel
theorem dL_law_1445 : decode cL_law 1445 = .ok (.iaload, 1) := by decide +kernel
theorem dL_law_1446 : decode cL_law 1446 = .ok (.aload_n 3, 1) := by decide +kernel
theorem dL_law_1447 : decode cL_law 1447 = .ok (.invokestatic 168, 3) := by decide +kernel
theorem dL_law_1450 : decode cL_law 1450 = .ok (.istore 5, 2) := by decide +kernel
theorem dL_law_1452 : decode cL_law 1452 = .ok (.aload_n 2, 1) := by decide +kernel
theorem dL_law_1453 : decode cL_law 1453 = .ok (.aload_n 0, 1) := by decide +kernel
theorem dL_law_1454 : decode cL_law 1454 = .ok (.iload 4, 2) := by decide +kernel
theorem dL_law_1456 : decode cL_law 1456 = .ok (.iconst 1, 1) := by decide +kernel
theorem dL_law_1457 : decode cL_law 1457 = .ok (.iadd, 1) := by decide +kernel
theorem dL_law_1458 : decode cL_law 1458 = .ok (.iaload, 1) := by decide +kernel
theorem dL_law_1459 : decode cL_law 1459 = .ok (.invokevirtual 170, 3) := by decide +kernel
theorem dL_law_1462 : decode cL_law 1462 = .ok (.istore 6, 2) := by decide +kernel
theorem dL_law_1464 : decode cL_law 1464 = .ok (.aload_n 2, 1) := by decide +kernel
theorem dL_law_1465 : decode cL_law 1465 = .ok (.invokevirtual 96, 3) := by decide +kernel
theorem dL_law_1468 : decode cL_law 1468 = .ok (.iload 5, 2) := by decide +kernel
theorem dL_law_1470 : decode cL_law 1470 = .ok (.if_icmp .eq 5, 3) := by decide +kernel
theorem dL_law_1473 : decode cL_law 1473 = .ok (.iconst 0, 1) := by decide +kernel
theorem dL_law_1474 : decode cL_law 1474 = .ok (.ireturn, 1) := by decide +kernel
theorem dL_law_1475 : decode cL_law 1475 = .ok (.iload 5, 2) := by decide +kernel
theorem dL_law_1477 : decode cL_law 1477 = .ok (.ifCond .ne 15, 3) := by decide +kernel
theorem dL_law_1480 : decode cL_law 1480 = .ok (.aload_n 3, 1) := by decide +kernel
theorem dL_law_1481 : decode cL_law 1481 = .ok (.iconst 0, 1) := by decide +kernel
theorem dL_law_1482 : decode cL_law 1482 = .ok (.laload, 1) := by decide +kernel
theorem dL_law_1483 : decode cL_law 1483 = .ok (.iload 6, 2) := by decide +kernel
theorem dL_law_1485 : decode cL_law 1485 = .ok (.i2l, 1) := by decide +kernel
theorem dL_law_1486 : decode cL_law 1486 = .ok (.lcmp, 1) := by decide +kernel
theorem dL_law_1487 : decode cL_law 1487 = .ok (.ifCond .eq 5, 3) := by decide +kernel
theorem dL_law_1490 : decode cL_law 1490 = .ok (.iconst 0, 1) := by decide +kernel
theorem dL_law_1491 : decode cL_law 1491 = .ok (.ireturn, 1) := by decide +kernel
theorem dL_law_1492 : decode cL_law 1492 = .ok (.goto 143, 3) := by decide +kernel
theorem dL_law_1495 : decode cL_law 1495 = .ok (.aload_n 1, 1) := by decide +kernel
theorem dL_law_1496 : decode cL_law 1496 = .ok (.aload_n 0, 1) := by decide +kernel
theorem dL_law_1497 : decode cL_law 1497 = .ok (.iload 4, 2) := by decide +kernel
theorem dL_law_1499 : decode cL_law 1499 = .ok (.iconst 1, 1) := by decide +kernel
theorem dL_law_1500 : decode cL_law 1500 = .ok (.iadd, 1) := by decide +kernel
theorem dL_law_1501 : decode cL_law 1501 = .ok (.iaload, 1) := by decide +kernel
theorem dL_law_1502 : decode cL_law 1502 = .ok (.aload_n 3, 1) := by decide +kernel
theorem dL_law_1503 : decode cL_law 1503 = .ok (.invokestatic 171, 3) := by decide +kernel
theorem dL_law_1506 : decode cL_law 1506 = .ok (.istore 5, 2) := by decide +kernel
theorem dL_law_1508 : decode cL_law 1508 = .ok (.aload_n 2, 1) := by decide +kernel
theorem dL_law_1509 : decode cL_law 1509 = .ok (.aload_n 0, 1) := by decide +kernel
theorem dL_law_1510 : decode cL_law 1510 = .ok (.iload 4, 2) := by decide +kernel
theorem dL_law_1512 : decode cL_law 1512 = .ok (.iconst 1, 1) := by decide +kernel
theorem dL_law_1513 : decode cL_law 1513 = .ok (.iadd, 1) := by decide +kernel
theorem dL_law_1514 : decode cL_law 1514 = .ok (.iaload, 1) := by decide +kernel
theorem dL_law_1515 : decode cL_law 1515 = .ok (.invokevirtual 173, 3) := by decide +kernel
theorem dL_law_1518 : decode cL_law 1518 = .ok (.istore 6, 2) := by decide +kernel
theorem dL_law_1520 : decode cL_law 1520 = .ok (.aload_n 2, 1) := by decide +kernel
theorem dL_law_1521 : decode cL_law 1521 = .ok (.invokevirtual 96, 3) := by decide +kernel
theorem dL_law_1524 : decode cL_law 1524 = .ok (.iload 5, 2) := by decide +kernel
theorem dL_law_1526 : decode cL_law 1526 = .ok (.if_icmp .eq 5, 3) := by decide +kernel
theorem dL_law_1529 : decode cL_law 1529 = .ok (.iconst 0, 1) := by decide +kernel
theorem dL_law_1530 : decode cL_law 1530 = .ok (.ireturn, 1) := by decide +kernel
theorem dL_law_1531 : decode cL_law 1531 = .ok (.iload 5, 2) := by decide +kernel
theorem dL_law_1533 : decode cL_law 1533 = .ok (.ifCond .ne 15, 3) := by decide +kernel
theorem dL_law_1536 : decode cL_law 1536 = .ok (.aload_n 3, 1) := by decide +kernel
theorem dL_law_1537 : decode cL_law 1537 = .ok (.iconst 0, 1) := by decide +kernel
theorem dL_law_1538 : decode cL_law 1538 = .ok (.laload, 1) := by decide +kernel
theorem dL_law_1539 : decode cL_law 1539 = .ok (.iload 6, 2) := by decide +kernel
theorem dL_law_1541 : decode cL_law 1541 = .ok (.i2l, 1) := by decide +kernel
theorem dL_law_1542 : decode cL_law 1542 = .ok (.lcmp, 1) := by decide +kernel
theorem dL_law_1543 : decode cL_law 1543 = .ok (.ifCond .eq 5, 3) := by decide +kernel
theorem dL_law_1546 : decode cL_law 1546 = .ok (.iconst 0, 1) := by decide +kernel
theorem dL_law_1547 : decode cL_law 1547 = .ok (.ireturn, 1) := by decide +kernel
theorem dL_law_1548 : decode cL_law 1548 = .ok (.goto 87, 3) := by decide +kernel
theorem dL_law_1551 : decode cL_law 1551 = .ok (.aload_n 1, 1) := by decide +kernel
theorem dL_law_1552 : decode cL_law 1552 = .ok (.invokevirtual 174, 3) := by decide +kernel
theorem dL_law_1555 : decode cL_law 1555 = .ok (.aload_n 2, 1) := by decide +kernel
theorem dL_law_1556 : decode cL_law 1556 = .ok (.invokevirtual 177, 3) := by decide +kernel
theorem dL_law_1559 : decode cL_law 1559 = .ok (.if_icmp .eq 76, 3) := by decide +kernel
theorem dL_law_1562 : decode cL_law 1562 = .ok (.iconst 0, 1) := by decide +kernel
theorem dL_law_1563 : decode cL_law 1563 = .ok (.ireturn, 1) := by decide +kernel
theorem dL_law_1564 : decode cL_law 1564 = .ok (.aload_n 1, 1) := by decide +kernel
theorem dL_law_1565 : decode cL_law 1565 = .ok (.invokevirtual 178, 3) := by decide +kernel
theorem dL_law_1568 : decode cL_law 1568 = .ok (.aload_n 2, 1) := by decide +kernel
theorem dL_law_1569 : decode cL_law 1569 = .ok (.invokevirtual 181, 3) := by decide +kernel
theorem dL_law_1572 : decode cL_law 1572 = .ok (.if_icmp .eq 63, 3) := by decide +kernel
theorem dL_law_1575 : decode cL_law 1575 = .ok (.iconst 0, 1) := by decide +kernel
theorem dL_law_1576 : decode cL_law 1576 = .ok (.ireturn, 1) := by decide +kernel
theorem dL_law_1577 : decode cL_law 1577 = .ok (.aload_n 1, 1) := by decide +kernel
theorem dL_law_1578 : decode cL_law 1578 = .ok (.aload_n 3, 1) := by decide +kernel
theorem dL_law_1579 : decode cL_law 1579 = .ok (.invokestatic 182, 3) := by decide +kernel
theorem dL_law_1582 : decode cL_law 1582 = .ok (.istore 5, 2) := by decide +kernel
theorem dL_law_1584 : decode cL_law 1584 = .ok (.aload_n 2, 1) := by decide +kernel
theorem dL_law_1585 : decode cL_law 1585 = .ok (.invokevirtual 185, 3) := by decide +kernel
theorem dL_law_1588 : decode cL_law 1588 = .ok (.istore 6, 2) := by decide +kernel
theorem dL_law_1590 : decode cL_law 1590 = .ok (.aload_n 2, 1) := by decide +kernel
theorem dL_law_1591 : decode cL_law 1591 = .ok (.invokevirtual 96, 3) := by decide +kernel
theorem dL_law_1594 : decode cL_law 1594 = .ok (.iload 5, 2) := by decide +kernel
theorem dL_law_1596 : decode cL_law 1596 = .ok (.if_icmp .eq 5, 3) := by decide +kernel
theorem dL_law_1599 : decode cL_law 1599 = .ok (.iconst 0, 1) := by decide +kernel
theorem dL_law_1600 : decode cL_law 1600 = .ok (.ireturn, 1) := by decide +kernel
theorem dL_law_1601 : decode cL_law 1601 = .ok (.iload 5, 2) := by decide +kernel
theorem dL_law_1603 : decode cL_law 1603 = .ok (.ifCond .ne 15, 3) := by decide +kernel
theorem dL_law_1606 : decode cL_law 1606 = .ok (.aload_n 3, 1) := by decide +kernel
theorem dL_law_1607 : decode cL_law 1607 = .ok (.iconst 0, 1) := by decide +kernel
theorem dL_law_1608 : decode cL_law 1608 = .ok (.laload, 1) := by decide +kernel
theorem dL_law_1609 : decode cL_law 1609 = .ok (.iload 6, 2) := by decide +kernel
theorem dL_law_1611 : decode cL_law 1611 = .ok (.i2l, 1) := by decide +kernel
theorem dL_law_1612 : decode cL_law 1612 = .ok (.lcmp, 1) := by decide +kernel
theorem dL_law_1613 : decode cL_law 1613 = .ok (.ifCond .eq 5, 3) := by decide +kernel
theorem dL_law_1616 : decode cL_law 1616 = .ok (.iconst 0, 1) := by decide +kernel
theorem dL_law_1617 : decode cL_law 1617 = .ok (.ireturn, 1) := by decide +kernel
theorem dL_law_1618 : decode cL_law 1618 = .ok (.goto 17, 3) := by decide +kernel
theorem dL_law_1621 : decode cL_law 1621 = .ok (.aload_n 1, 1) := by decide +kernel
theorem dL_law_1622 : decode cL_law 1622 = .ok (.invokevirtual 186, 3) := by decide +kernel
theorem dL_law_1625 : decode cL_law 1625 = .ok (.aload_n 2, 1) := by decide +kernel
theorem dL_law_1626 : decode cL_law 1626 = .ok (.invokevirtual 190, 3) := by decide +kernel
theorem dL_law_1629 : decode cL_law 1629 = .ok (.lcmp, 1) := by decide +kernel
theorem dL_law_1630 : decode cL_law 1630 = .ok (.ifCond .eq 5, 3) := by decide +kernel
theorem dL_law_1633 : decode cL_law 1633 = .ok (.iconst 0, 1) := by decide +kernel
theorem dL_law_1634 : decode cL_law 1634 = .ok (.ireturn, 1) := by decide +kernel
theorem dL_law_1635 : decode cL_law 1635 = .ok (.iinc 4 6, 3) := by decide +kernel
theorem dL_law_1638 : decode cL_law 1638 = .ok (.goto (-1615), 3) := by decide +kernel
theorem dL_law_1641 : decode cL_law 1641 = .ok (.iconst 1, 1) := by decide +kernel
theorem dL_law_1642 : decode cL_law 1642 = .ok (.ireturn, 1) := by decide +kernel
abbrev vwCl : List vw_C := [(RX0, TX0, 5), (RX1, TX1, 2), (RX2, TX2, 1), (RX3, TX3, 3), (RX4, TX4, 11), (RX5, TX5, 6), (RX6, TX6, 1), (RX9, TX9, 4), (RX10, TX10, 19)]
/-! ===== END printed: names ===== -/
