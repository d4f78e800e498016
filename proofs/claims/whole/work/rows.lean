section
/-! ===== BEGIN words of one list among another's, by their places ===== -/
theorem goodIn_r {big : List Cond} (ws : List Cond) (ps : List Nat) (hp : ws = ps.filterMap (fun i => big[i]?)) (h : ws.all goodWord = true) : GoodIn big ws := by
  intro w hw
  have h1 := List.all_eq_true.mp h w hw
  rw [hp] at hw
  obtain ⟨i, -, hi⟩ := List.mem_filterMap.mp hw
  have hm : w ∈ big := by first | exact List.mem_of_getElem? hi | exact List.getElem?_mem hi
  exact ⟨hm, good_of_word h1⟩
theorem goodIn_app {big a b : List Cond} (ha : GoodIn big a) (hb : GoodIn big b) : GoodIn big (a ++ b) := fun w h => (List.mem_append.mp h).elim (ha w) (hb w)
theorem goodIn_ca {big a b : List Cond} {c : Cond} (ha : GoodIn big (c :: a)) (hb : GoodIn big b) : GoodIn big (c :: (a ++ b)) := fun w h => (List.mem_cons.mp h).elim (fun e => ha w (List.mem_cons.mpr (Or.inl e))) (fun h => (List.mem_append.mp h).elim (fun h => ha w (List.mem_cons.mpr (Or.inr h))) (hb w))
theorem goodIn_sub {big ws : List Cond} (hm : ∀ w ∈ ws, w ∈ big) (h : ws.all goodWord = true) : GoodIn big ws := fun w hw => ⟨hm w hw, good_of_word (List.all_eq_true.mp h w hw)⟩
/-! ===== END ===== -/

/-! ===== BEGIN exceptions that leave a method, and their catching by the caller (launches without stack traces) ===== -/
section VXA
/-! The laws vx_back, vx_callV, vx_callS, vx_callSW, vx_throw0, vx_throwS follow proofs of the library, with one case more: JvmDerived/Free/Laws.lean (Back.of_free), Shelf42/LK1.lean (callV, callS), Shelf/KitTraced.lean (throwNew0V, throwNewS). -/

/-- where a method has thrown q: the class by its name, the cell, what was written, the world -/
def vx_T (XC : String → State → State → Prop) (st : State) (q : Addr) (t : State) (mc ms : Nat) (free : Addr → Prop) : Prop :=
  ∃ (E : String) (ce : Cell) (L : List Loc), XC E st t ∧ t.heap[q]? = some ce ∧ ce.vm = .none ∧ st.vm.findClass E = some ce.cls ∧ st.WarmedH t.vm ∧ st.sameButNew ({ t with vm := st.vm } : State) L mc ms ∧ ∀ z ∈ L, free z.base
def vx_Q (Qc : Array Value → State → Outcome → State → Prop) (XC : String → State → State → Prop) (mc ms : Nat) (free : Addr → Prop) : Array Value → State → Outcome → State → Prop := fun a st o t =>
  (Qc a st o t ∧ ∃ L, FrameEnd st o t L mc ms ∧ ∀ q ∈ L, free q.base) ∨ ∃ q, o = .threw q ∧ vx_T XC st q t mc ms free
/-- a callee that returns or throws -/
def vx_Met (l : Launch) (y : MethodName) (ws : List Cond) (rm : Room) (Pc : Array Value → State → Prop) (Qc : Array Value → State → Outcome → State → Prop) (XC : String → State → State → Prop) (mc ms : Nat) (free : Addr → Prop) : Prop :=
  MetFree l y (headSpec ws rm) Pc (fun _ _ _ _ _ => True) (vx_Q Qc XC mc ms free)
def vx_Post (XC : String → State → State → Prop) (mc ms : Nat) (free : Addr → Prop) : Pt → Array Value → Addr → Pt → Prop := fun A a q B =>
  ∃ (g : JFrame) (mk : MethodId) (t : State) (L : List Loc) (E : String) (ce : Cell), B.U.heap = t.heap ∧ B.U.vm = t.vm ∧ XC E (A.U.calling g mk a) t ∧ t.heap[q]? = some ce ∧ ce.vm = .none ∧ A.U.vm.findClass E = some ce.cls ∧ B.locs = A.locs ++ L ∧ (∀ z ∈ L, free z.base) ∧ B.cells = A.cells + mc ∧ B.slots = A.slots + ms
def vx_Back (l : Launch) (R : Room) (p : Program) (e : Env) (below : List Frame) (s : State) (sargs : Array Value) (y : MethodName) (len W9 : Nat)
    (Pre : Pt → Array Value → Prop) (Post : Pt → Array Value → Option Value → Pt → Prop) (PostX : Pt → Array Value → Addr → Pt → Prop) : Prop :=
  ∀ (m : MethodId) (meth : Method) (c : Code) (A : Pt) (g : JFrame) (ig : Instr) (mk : MethodId) (a : Array Value),
    Stand p l e R s m sargs below meth c A.U A.locs A.cells A.slots → g.method = m → g.locals.size = c.maxLocals → decode c.code g.pc = .ok (ig, len) →
    2 * g.monitorRoom + (g.stack.map fun v => v.category).sum ≤ W9 → A.U.methodNamed? y = some mk → Pre A a →
    (∃ (v : Option Value) (B : Pt), Stand p l e R s m sargs below meth c B.U B.locs B.cells B.slots ∧ Post A a v B ∧
      Steps p.tables e below (doInvoke e (A.U.setTop g) [] mk a).1 (B.U.setTop { g with pc := g.pc + len, stack := v.toList ++ g.stack })) ∨
    (∃ (q : Addr) (B : Pt), Stand p l e R s m sargs below meth c B.U B.locs B.cells B.slots ∧ PostX A a q B ∧
      Steps p.tables e below (doInvoke e (A.U.setTop g) [] mk a).1 ((B.U.setTop g).pushFrame (.throwing q)))
section Payer
variable {l : Launch} {R : Room} {p : Program} {e : Env} {below : List Frame} {s : State} {sargs : Array Value} {y : MethodName} {len W9 : Nat}
theorem vx_back {ws : List Cond} {rm : Room} {Pc : Array Value → State → Prop} {Qc : Array Value → State → Outcome → State → Prop} {XC : String → State → State → Prop} {mc ms : Nat} {free : Addr → Prop} {bytes : ByteArray} {maxL : Nat} {ret : Option FieldType}
    (hM : vx_Met l y ws rm Pc Qc XC mc ms free) (hblind : FrameBlind Pc) (hrc : rm.cells = mc) (hrs : rm.slots = ms)
    (hframes : rm.frames + 1 ≤ R.frames) (hlocals : W9 + (maxL + 11) + rm.locals ≤ R.locals)
    (hws : ∀ w ∈ ws, ∀ a' U, s.WarmedH U.vm → w.before a' U = true) (hcode : Cond.code y bytes maxL ret ∈ ws) (hinit : ∀ a' U, s.WarmedH U.vm → (Cond.initialized y.cls).before a' U = true) :
    vx_Back l R p e below s sargs y len W9 (PreOf R mc ms Pc) (PostOf Qc mc ms free) (vx_Post XC mc ms free) := by
  intro m meth c A g ig mk a X hg hsize hdg hW hn hp
  have h1 : (headSpec ws rm).pre.before a A.U = true := atoms_intro fun w hw => hws w hw _ _ X.warmed
  have h2 : (Cond.code y bytes maxL ret).before a A.U = true := hws _ hcode _ _ X.warmed
  have h3 : (Cond.initialized y.cls).before a A.U = true := hinit _ _ X.warmed
  have h4 : A.cells + (headSpec ws rm).room.cells ≤ R.cells := by rw [show (headSpec ws rm).room.cells = mc from hrc]; exact hp.1
  have h5 : A.slots + (headSpec ws rm).room.slots ≤ R.slots := by rw [show (headSpec ws rm).room.slots = ms from hrs]; exact hp.2.1
  have hPc : Pc a (A.U.calling g mk a) := hblind _ _ _ _ hp.2.2
  obtain ⟨U, Ls, c0, s0⟩ := A
  dsimp only [Pt.U, Pt.locs, Pt.cells, Pt.slots] at h1 h2 h3 h4 h5 X hn hPc ⊢
  obtain ⟨methY, cY, hmY, hcY, -, hlY, -, -, -, -⟩ := Cond.code_spec hn h2
  obtain ⟨kY, hkY, -⟩ := className_of_methodNamed hn
  have hinitY : kY.init = .initialized := Cond.initialized_spec (findClass_of_methodNamed hn) hkY h3
  have h : At U g.method c below := by rw [hg]; exact X.here
  have hlocals9 : W9 + (maxL + 11) + (headSpec ws rm).room.locals ≤ R.locals := hlocals
  have happ : (headSpec ws rm).appliesLoose y e.platform (U.calling g mk a) = true :=
    Spec.appliesLoose_calling (g := g) h hdg hn hkY hinitY
      (X.room_calling (g := g) (R' := (headSpec ws rm).room) hsize hmY hcY hframes (by rw [hlY]; omega) h4 h5) h1
  obtain ⟨mid, hmid⟩ := h.above
  have hfr : (U.setTop g).frames = (.java g :: mid) ++ below := by rw [State.frames_setTop' g h.top, hmid]; rfl
  obtain ⟨o, s₂, hsteps, -, hend, hq⟩ := Steps.callFree hM p X.admits X.cas X.clock (acts := []) hfr happ hPc trivial
  have hq' : vx_Q Qc XC mc ms free a (U.calling g mk a) o s₂ := hq
  rw [State.frames_setTop' g h.top] at hend
  obtain ⟨g₀, hg0⟩ := Option.isSome_iff_exists.mp h.top
  obtain ⟨r, hr⟩ := State.topJava?_eq_some.mp hg0
  have hr' : (({ U with heap := s₂.heap, slotsUsed := s₂.slotsUsed } : State).setVm s₂.vm).frames = .java g₀ :: r := hr
  rcases hq' with ⟨hqc, L, hfe, hL⟩ | ⟨q, rfl, E, ce, L, hx, hce, hcv, hcl, hW₂, hsm, hL⟩
  · obtain ⟨⟨v, rfl⟩, hW₂, e2, q2, q3, q4, q5, q6⟩ := id hfe
    have e3 : s₂ = ({ (U.calling g mk a).setFrames s₂.frames with heap := s₂.heap, slotsUsed := s₂.slotsUsed } : State).setVm s₂.vm := by
      have : s₂ = ({ s₂ with vm := (U.calling g mk a).vm } : State).setVm s₂.vm := rfl
      rw [e2] at this
      exact this
    obtain ⟨c₂, i₂, len₂, hc₂, hd₂, hf₂⟩ := hend
    have hW' : U.WarmedH s₂.vm := hW₂
    have hcc : c₂ = c := by
      have h1 : s₂.code? g.method = U.code? g.method := by
        rw [State.code?_eq, State.code?_eq, hW'.alike.method?]
      exact Option.some.inj (hc₂.symm.trans (h1.trans h.code))
    subst hcc
    have hlen : len₂ = len := by rw [hdg] at hd₂; cases hd₂; rfl
    subst hlen
    have hs₂ : s₂ = (({ U with heap := s₂.heap, slotsUsed := s₂.slotsUsed } : State).setVm s₂.vm).setTop { g with pc := g.pc + len₂, stack := v.toList ++ g.stack } := by
      refine e3.trans ?_
      rw [hf₂, State.calling_eq h.top, State.setFrames_setFrames, State.setTop_of_frames _ hr', hr]
      rfl
    have hsame : U.sameButNew ({ U with heap := s₂.heap, slotsUsed := s₂.slotsUsed } : State) L mc ms := by
      refine ⟨?_, q2, q3, q4, q5, q6⟩
      obtain ⟨t, ht, -⟩ := State.frames_cons hr
      show ({ U with heap := s₂.heap, slotsUsed := s₂.slotsUsed } : State) = { U.setFrames U.frames with heap := s₂.heap, slotsUsed := s₂.slotsUsed }
      rw [State.setFrames_self ht]
    subst hg
    refine Or.inl ⟨v, ⟨(({ U with heap := s₂.heap, slotsUsed := s₂.slotsUsed } : State).setVm s₂.vm), Ls ++ L, c0 + mc, s0 + ms⟩,
      ⟨X.admits, X.cas, X.clock, X.frames, X.room, X.hears, X.method, X.code, (X.here.setHeapUsed s₂.heap s₂.slotsUsed).setVm hW'.alike, X.tail, State.WarmedH.trans X.warmed hW', X.limits, X.bytes, X.same.trans (hsame.setVm s.vm)⟩,
      ⟨g, mk, s₂, L, rfl, rfl, hqc, rfl, hL, rfl, rfl⟩, ?_⟩
    show Steps p.tables e below _ ((({ U with heap := s₂.heap, slotsUsed := s₂.slotsUsed } : State).setVm s₂.vm).setTop { g with pc := g.pc + len₂, stack := v.toList ++ g.stack })
    rw [← hs₂]
    exact hsteps
  · obtain ⟨e2, q2, q3, q4, q5, q6⟩ := id hsm
    have e3 : s₂ = ({ (U.calling g mk a).setFrames s₂.frames with heap := s₂.heap, slotsUsed := s₂.slotsUsed } : State).setVm s₂.vm := by
      have : s₂ = ({ s₂ with vm := (U.calling g mk a).vm } : State).setVm s₂.vm := rfl
      rw [e2] at this
      exact this
    have hf₂ : s₂.frames = .throwing q :: .java g :: U.frames.tail := hend
    have hW' : U.WarmedH s₂.vm := hW₂
    have hs₂ : s₂ = ((({ U with heap := s₂.heap, slotsUsed := s₂.slotsUsed } : State).setVm s₂.vm).setTop g).pushFrame (.throwing q) := by
      refine e3.trans ?_
      rw [hf₂, State.calling_eq h.top, State.setFrames_setFrames, State.pushFrame, State.frames_setTop _ hr', State.setTop_of_frames _ hr', State.setFrames_setFrames, hr]
      rfl
    have hsame : U.sameButNew ({ U with heap := s₂.heap, slotsUsed := s₂.slotsUsed } : State) L mc ms := by
      refine ⟨?_, q2, q3, q4, q5, q6⟩
      obtain ⟨t, ht, -⟩ := State.frames_cons hr
      show ({ U with heap := s₂.heap, slotsUsed := s₂.slotsUsed } : State) = { U.setFrames U.frames with heap := s₂.heap, slotsUsed := s₂.slotsUsed }
      rw [State.setFrames_self ht]
    subst hg
    refine Or.inr ⟨q, ⟨(({ U with heap := s₂.heap, slotsUsed := s₂.slotsUsed } : State).setVm s₂.vm), Ls ++ L, c0 + mc, s0 + ms⟩,
      ⟨X.admits, X.cas, X.clock, X.frames, X.room, X.hears, X.method, X.code, (X.here.setHeapUsed s₂.heap s₂.slotsUsed).setVm hW'.alike, X.tail, State.WarmedH.trans X.warmed hW', X.limits, X.bytes, X.same.trans (hsame.setVm s.vm)⟩,
      ⟨g, mk, s₂, L, E, ce, rfl, rfl, hx, hce, hcv, hcl, rfl, hL, rfl, rfl⟩, ?_⟩
    show Steps p.tables e below _ (((({ U with heap := s₂.heap, slotsUsed := s₂.slotsUsed } : State).setVm s₂.vm).setTop g).pushFrame (.throwing q))
    rw [← hs₂]
    exact hsteps
end Payer
section Calls
variable {p : Program} {l : Launch} {e : Env} {R : Room} {s : State} {m : MethodId} {args : Array Value} {below : List Frame} {meth : Method} {c : Code} {T : State} {locs : List Loc} {cells slots : Nat}
theorem vx_callV (X : Stand p l e R s m args below meth c T locs cells slots) (hexec : p.tables.exec = Jvm.exec) {own C : String} {index : Nat} {y : MethodName} {bytes : ByteArray} {maxL : Nat} {ret : Option FieldType}
    (hown : s.vm.findClass own = some m.cls) (hlink : (Cond.methodLink own index y).before args s = true) (hinst : (Cond.instanceMethod y).before args s = true) (hsel : (Cond.selects C y y).before args s = true)
    (hcode : (Cond.code y bytes maxL ret).before args s = true) (hy : y.cls ≠ "java/lang/invoke/MethodHandle" ∧ y.cls ≠ "java/lang/invoke/VarHandle")
    {W9 : Nat} {Pre : Pt → Array Value → Prop} {Post : Pt → Array Value → Option Value → Pt → Prop} {PostX : Pt → Array Value → Addr → Pt → Prop} (hK : vx_Back l R p e below s args y 3 W9 Pre Post PostX)
    {b : Addr} {cellB : Cell} (hcell : T.heap[b]? = some cellB) (hobj : cellB.vm.isStatics = false) (hcls : s.vm.findClass C = some cellB.cls)
    {g : JFrame} (hg : g.method = m) (hsize : g.locals.size = c.maxLocals) {argsL rest : List Value} (hlen : ∀ sig, parseMethodDescriptor y.desc = some sig → argsL.length = sig.parameters.length)
    (hstack : g.stack = argsL.reverse ++ .ref b :: rest) (hW : 2 * g.monitorRoom + (rest.map fun v => v.category).sum ≤ W9) (hdg : decode c.code g.pc = .ok (.invokevirtual index, 3))
    (hpre : ∀ vm₁, s.WarmedH vm₁ → Pre ⟨T.setVm vm₁, locs, cells, slots⟩ (Value.ref b :: argsL).toArray) :
    (∃ (v : Option Value) (vm₁ : Vm) (B : Pt), s.WarmedH vm₁ ∧ Stand p l e R s m args below meth c B.U B.locs B.cells B.slots ∧ Post ⟨T.setVm vm₁, locs, cells, slots⟩ (Value.ref b :: argsL).toArray v B ∧
      ∀ target, Steps p.tables e below (B.U.setTop { g with pc := g.pc + 3, stack := v.toList ++ rest }) target → Steps p.tables e below (T.setTop g) target) ∨
    (∃ (q : Addr) (vm₁ : Vm) (B : Pt), s.WarmedH vm₁ ∧ Stand p l e R s m args below meth c B.U B.locs B.cells B.slots ∧ PostX ⟨T.setVm vm₁, locs, cells, slots⟩ (Value.ref b :: argsL).toArray q B ∧
      Steps p.tables e below (T.setTop g) ((B.U.setTop { g with stack := rest }).pushFrame (.throwing q))) := by
  obtain ⟨mk, methM, hnamed, hmethM, hstM, habM⟩ := Cond.instanceMethod_spec hinst
  obtain ⟨methM', cM, hmethM', -, -, -, -, -, -, hsigM⟩ := Cond.code_spec hnamed hcode
  cases hmethM.symm.trans hmethM'
  obtain ⟨c2, r2, m2, q1, q2, q3, q4, kP, hkP, hkPi⟩ := Cond.selects_spec hsel
  cases hcls.symm.trans q1
  cases (State.methodFound?_of_named hnamed hy).symm.trans q2
  cases hnamed.symm.trans q3
  have hselP : selectMethod e.platform s.vm cellB.cls mk = .method mk := by rw [Launch.admits_selectMethod X.admits]; exact q4
  obtain ⟨vm₁, X₁, hstep₁⟩ := X.invokevirtual hexec hown hlink hnamed hmethM hstM hkP hkPi hy (a := b) (cell := cellB) hcell
    (fun z h => by rw [h] at hobj; cases hobj) hselP hmethM habM hkP hkPi (g := g) hg (argsL := argsL) (rest := rest) (hlen _ hsigM) hstack hdg
  rcases hK m meth c ⟨T.setVm vm₁, locs, cells, slots⟩ { g with stack := rest } (.invokevirtual index) mk (Value.ref b :: argsL).toArray X₁ hg hsize hdg hW (X₁.named hnamed) (hpre vm₁ X₁.warmed) with ⟨v, B, X', hpost, hsteps⟩ | ⟨q, B, X', hpost, hsteps⟩
  · exact Or.inl ⟨v, vm₁, B, X₁.warmed, X', hpost, fun target h => hstep₁ _ fun acts => by rw [doInvoke_state]; exact hsteps.trans h⟩
  · exact Or.inr ⟨q, vm₁, B, X₁.warmed, X', hpost, hstep₁ _ fun acts => by rw [doInvoke_state]; exact hsteps⟩
theorem vx_callS (X : Stand p l e R s m args below meth c T locs cells slots) (hexec : p.tables.exec = Jvm.exec) {own : String} {index : Nat} {y : MethodName} {bytes : ByteArray} {maxL : Nat} {ret : Option FieldType}
    (hown : s.vm.findClass own = some m.cls) (hlink : (Cond.methodLink own index y).before args s = true) (hstat : (Cond.static y).before args s = true) (hinit : (Cond.initialized y.cls).before args s = true)
    (hcode : (Cond.code y bytes maxL ret).before args s = true) (hy : y.cls ≠ "java/lang/invoke/MethodHandle" ∧ y.cls ≠ "java/lang/invoke/VarHandle")
    {W9 : Nat} {Pre : Pt → Array Value → Prop} {Post : Pt → Array Value → Option Value → Pt → Prop} {PostX : Pt → Array Value → Addr → Pt → Prop} (hK : vx_Back l R p e below s args y 3 W9 Pre Post PostX)
    {g : JFrame} (hg : g.method = m) (hsize : g.locals.size = c.maxLocals) {argsL rest : List Value} (hlen : ∀ sig, parseMethodDescriptor y.desc = some sig → argsL.length = sig.parameters.length)
    (hstack : g.stack = argsL.reverse ++ rest) (hW : 2 * g.monitorRoom + (rest.map fun v => v.category).sum ≤ W9) (hdg : decode c.code g.pc = .ok (.invokestatic index, 3))
    (hpre : ∀ vm₁, s.WarmedH vm₁ → Pre ⟨T.setVm vm₁, locs, cells, slots⟩ argsL.toArray) :
    (∃ (v : Option Value) (vm₁ : Vm) (B : Pt), s.WarmedH vm₁ ∧ Stand p l e R s m args below meth c B.U B.locs B.cells B.slots ∧ Post ⟨T.setVm vm₁, locs, cells, slots⟩ argsL.toArray v B ∧
      ∀ target, Steps p.tables e below (B.U.setTop { g with pc := g.pc + 3, stack := v.toList ++ rest }) target → Steps p.tables e below (T.setTop g) target) ∨
    (∃ (q : Addr) (vm₁ : Vm) (B : Pt), s.WarmedH vm₁ ∧ Stand p l e R s m args below meth c B.U B.locs B.cells B.slots ∧ PostX ⟨T.setVm vm₁, locs, cells, slots⟩ argsL.toArray q B ∧
      Steps p.tables e below (T.setTop g) ((B.U.setTop { g with stack := rest }).pushFrame (.throwing q))) := by
  obtain ⟨mk, hnamed⟩ := Cond.code_named hcode
  obtain ⟨methM, cM, hmethM, -, -, -, -, -, -, hsigM⟩ := Cond.code_spec hnamed hcode
  have hstatic : methM.isStatic = true := Cond.static_spec hnamed hmethM hstat
  obtain ⟨kP, hkP, -⟩ := className_of_methodNamed hnamed
  have hinitP : kP.init = .initialized := Cond.initialized_spec (findClass_of_methodNamed hnamed) hkP hinit
  obtain ⟨vm₁, X₁, hstep₁⟩ := X.invokestatic hexec hown hlink hnamed hmethM hstatic hkP hinitP hy (g := g) hg (argsL := argsL) (rest := rest) (hlen _ hsigM) hstack hdg
  rcases hK m meth c ⟨T.setVm vm₁, locs, cells, slots⟩ { g with stack := rest } (.invokestatic index) mk argsL.toArray X₁ hg hsize hdg hW (X₁.named hnamed) (hpre vm₁ X₁.warmed) with ⟨v, B, X', hpost, hsteps⟩ | ⟨q, B, X', hpost, hsteps⟩
  · exact Or.inl ⟨v, vm₁, B, X₁.warmed, X', hpost, fun target h => hstep₁ _ fun acts => by rw [doInvoke_state]; exact hsteps.trans h⟩
  · exact Or.inr ⟨q, vm₁, B, X₁.warmed, X', hpost, hstep₁ _ fun acts => by rw [doInvoke_state]; exact hsteps⟩
end Calls
theorem vx_cls {s : State} {T : State} {vm₁ : Vm} {E : String} {k : ClassId} (hW : s.WarmedH vm₁) (h : (T.setVm vm₁).vm.findClass E = some k) : s.vm.findClass E = some k := by
  have h1 : vm₁.findClass E = some k := h
  rw [hW.alike.findClass] at h1
  exact h1
/-- the method's frame g, with q thrown over it -/
def vx_W (p : Program) (l : Launch) (e : Env) (R : Room) (s : State) (m : MethodId) (args : Array Value) (below : List Frame) (meth : Method) (c : Code) (H : Heap) (locs : List Loc) (cells slots : Nat) (Q : State → Prop) (g : JFrame) (q : Addr) : Prop :=
  ∀ T : State, T.heap = H → Stand p l e R s m args below meth c T locs cells slots → ∃ t, Steps p.tables e below ((T.setTop g).pushFrame (.throwing q)) t ∧ Q t
def vx_Run (p : Program) (l : Launch) (e : Env) (R : Room) (s : State) (m : MethodId) (args : Array Value) (below : List Frame) (meth : Method) (c : Code) (H : Heap) (locs : List Loc) (cells slots mc ms : Nat) (g : JFrame) (rest : List Value) (Qa : State → Outcome → State → Prop) (XC : String → State → State → Prop) (free : Addr → Prop) : Prop :=
  ∀ T : State, T.heap = H → Stand p l e R s m args below meth c T locs cells slots →
    (∃ (v : Option Value) (st₀ t T' : State) (L : List Loc), st₀.heap = H ∧ Stand p l e R s m args below meth c T' (locs ++ L) (cells + mc) (slots + ms) ∧ (∀ q ∈ L, free q.base) ∧ T'.heap = t.heap ∧ T'.vm = t.vm ∧ Qa st₀ (.returned v) t ∧
      Goes p e below T g T' { g with pc := g.pc + 3, stack := v.toList ++ rest }) ∨
    (∃ (q : Addr) (st₀ t T' : State) (L : List Loc) (E : String) (ce : Cell), st₀.heap = H ∧ Stand p l e R s m args below meth c T' (locs ++ L) (cells + mc) (slots + ms) ∧ (∀ z ∈ L, free z.base) ∧ T'.heap = t.heap ∧ T'.vm = t.vm ∧ XC E st₀ t ∧ t.heap[q]? = some ce ∧ ce.vm = .none ∧ s.vm.findClass E = some ce.cls ∧
      Steps p.tables e below (T.setTop g) ((T'.setTop { g with stack := rest }).pushFrame (.throwing q)))
def vx_X {S : Type} (px : S → Prop) (B : String → S → State → Prop) (A : Nat → Prop) : String → State → State → Prop := fun E st t => ∃ u : S, px u ∧ B E u t ∧ va_F A st t
section Runs
variable {p : Program} {l : Launch} {e : Env} {R : Room} {s : State} {m : MethodId} {args : Array Value} {below : List Frame} {meth : Method} {c : Code} {H : Heap} {locs : List Loc} {cells slots : Nat}
variable {y : MethodName} {bytes cc : ByteArray} {maxL nL mc ms n index : Nat} {ret : Option FieldType} {ws : List Cond} {rm : Room} {Pc : Array Value → State → Prop} {Qc : Array Value → State → Outcome → State → Prop} {XC : String → State → State → Prop} {free : Addr → Prop} {Ts : List Cond} {own C : String} {b : Addr} {As rest : List Value} {g : JFrame}
theorem vx_callBack (cb : CallB R s args own index y bytes maxL ret ws rm mc ms n) (hM : vx_Met l y ws rm Pc Qc XC mc ms free) (hbl : FrameBlind Pc) : vx_Back l R p e below s args y 3 8 (PreOf R mc ms Pc) (PostOf Qc mc ms free) (vx_Post XC mc ms free) := by
  obtain ⟨hrc, hrs, hfr, hlo, hws, hcw, -, hini, -⟩ := cb
  exact vx_back (bytes := bytes) (maxL := maxL) (ret := ret) hM hbl hrc hrs hfr hlo hws hcw (fun a' U hW => word_at hW (Or.inl (by first | rfl | simp [Cond.onTables, Cond.keeps, Cond.steady])) hini)
theorem vx_runV (S : CallFix p m c cc nL s args Ts own) (hM : vx_Met l y ws rm Pc Qc XC mc ms free) (cw : CallW R s args own C index y bytes maxL ret ws rm mc ms n) (hp : PreV s H C b Pc As)
    (hg : g.method = m) (hn : As.length = n) (hsize : g.locals.size = nL) (hstack : g.stack = As.reverse ++ .ref b :: rest) (hW : 2 * g.monitorRoom + (rest.map fun v => v.category).sum ≤ 8) (hdg : decode cc g.pc = .ok (.invokevirtual index, 3)) (hf : cells + mc ≤ R.cells ∧ slots + ms ≤ R.slots) :
    vx_Run p l e R s m args below meth c H locs cells slots mc ms g rest (Qc (Value.ref b :: As).toArray) XC free := by
  have hK : vx_Back l R p e below s args y 3 8 (PreOf R mc ms Pc) (PostOf Qc mc ms free) (vx_Post XC mc ms free) := vx_callBack cw.1 hM hp.1
  obtain ⟨⟨-, -, -, -, -, -, hcode, -, hy, hlen, hl⟩, hin, hse⟩ := cw
  obtain ⟨hx, hb, hml, ho, -⟩ := S
  obtain ⟨-, ⟨cellB, hcB, hoB, hclB⟩, hPc⟩ := hp
  intro T hT X
  rcases vx_callV X hx (C := C) (bytes := bytes) (maxL := maxL) (ret := ret) ho hl hin hse hcode hy hK (by rw [hT]; exact hcB) hoB hclB hg (hsize.trans hml.symm) (argsL := As) (rest := rest) (fun sig h => hn.trans (hlen sig h)) hstack hW (by rw [hb]; exact hdg)
    (fun vm₁ hW₁ => ⟨hf.1, hf.2, hPc (T.setVm vm₁) hT hW₁⟩) with ⟨v, vm₁, ⟨U', l2, c2, s2⟩, hW₁, X', ⟨g', mk, t, L, e1, e2, hq, h1, hL, h2, h3⟩, st⟩ | ⟨q, vm₁, ⟨U', l2, c2, s2⟩, hW₁, X', ⟨g', mk, t, L, E, ce, e1, e2, hq, hce, hcv, hcl, h1, hL, h2, h3⟩, st⟩
  · dsimp only [Pt.U, Pt.locs, Pt.cells, Pt.slots] at X' e1 e2 h1 h2 h3 st
    subst h1; subst h2; subst h3
    exact Or.inl ⟨v, (T.setVm vm₁).calling g' mk (Value.ref b :: As).toArray, t, U', L, hT, X', hL, e1, e2, hq, st⟩
  · dsimp only [Pt.U, Pt.locs, Pt.cells, Pt.slots] at X' e1 e2 h1 h2 h3 st hcl
    subst h1; subst h2; subst h3
    exact Or.inr ⟨q, (T.setVm vm₁).calling g' mk (Value.ref b :: As).toArray, t, U', L, E, ce, hT, X', hL, e1, e2, hq, hce, hcv, vx_cls hW₁ hcl, st⟩
theorem vx_runS (S : CallFix p m c cc nL s args Ts own) (hM : vx_Met l y ws rm Pc Qc XC mc ms free) (cw : CallB R s args own index y bytes maxL ret ws rm mc ms n ∧ (Cond.static y).before args s = true) (hp : PreS s H Pc As)
    (hg : g.method = m) (hn : As.length = n) (hsize : g.locals.size = nL) (hstack : g.stack = As.reverse ++ rest) (hW : 2 * g.monitorRoom + (rest.map fun v => v.category).sum ≤ 8) (hdg : decode cc g.pc = .ok (.invokestatic index, 3)) (hf : cells + mc ≤ R.cells ∧ slots + ms ≤ R.slots) :
    vx_Run p l e R s m args below meth c H locs cells slots mc ms g rest (Qc As.toArray) XC free := by
  have hK : vx_Back l R p e below s args y 3 8 (PreOf R mc ms Pc) (PostOf Qc mc ms free) (vx_Post XC mc ms free) := vx_callBack cw.1 hM hp.1
  obtain ⟨⟨-, -, -, -, -, -, hcode, hini, hy, hlen, hl⟩, hstt⟩ := cw
  obtain ⟨hx, hb, hml, ho, -⟩ := S
  intro T hT X
  rcases vx_callS X hx (bytes := bytes) (maxL := maxL) (ret := ret) ho hl hstt hini hcode hy hK hg (hsize.trans hml.symm) (argsL := As) (rest := rest) (fun sig h => hn.trans (hlen sig h)) hstack hW (by rw [hb]; exact hdg)
    (fun vm₁ hW₁ => ⟨hf.1, hf.2, hp.2 (T.setVm vm₁) hT hW₁⟩) with ⟨v, vm₁, ⟨U', l2, c2, s2⟩, hW₁, X', ⟨g', mk, t, L, e1, e2, hq, h1, hL, h2, h3⟩, st⟩ | ⟨q, vm₁, ⟨U', l2, c2, s2⟩, hW₁, X', ⟨g', mk, t, L, E, ce, e1, e2, hq, hce, hcv, hcl, h1, hL, h2, h3⟩, st⟩
  · dsimp only [Pt.U, Pt.locs, Pt.cells, Pt.slots] at X' e1 e2 h1 h2 h3 st
    subst h1; subst h2; subst h3
    exact Or.inl ⟨v, (T.setVm vm₁).calling g' mk As.toArray, t, U', L, hT, X', hL, e1, e2, hq, st⟩
  · dsimp only [Pt.U, Pt.locs, Pt.cells, Pt.slots] at X' e1 e2 h1 h2 h3 st hcl
    subst h1; subst h2; subst h3
    exact Or.inr ⟨q, (T.setVm vm₁).calling g' mk As.toArray, t, U', L, E, ce, hT, X', hL, e1, e2, hq, hce, hcv, vx_cls hW₁ hcl, st⟩
end Runs
section Rows
variable {p : Program} {l : Launch} {e : Env} {R : Room} {s : State} {m : MethodId} {args : Array Value} {below : List Frame} {meth : Method} {c : Code} {H : Heap} {locs : List Loc} {cells slots : Nat} {Q : State → Prop}
variable {mc ms : Nat} {free : Addr → Prop} {A0 A1 : Nat → Prop} {H0 : Heap} {a : Array Value} {pc : Nat} {ls : Array Slot} {st0 rest : List Value}
theorem vx_keep {st₀ t T' : State} {L : List Loc} (h0 : st₀.heap = H) (e1 : T'.heap = t.heap) (hS : va_S A0 H0 H locs) (hA : ∀ q, q < H.size → A1 q → A0 q) (hf : ∀ q, free q → A0 q) (hL : ∀ q ∈ L, free q.base) (hF : va_F A1 st₀ t) :
    H.size ≤ T'.heap.size ∧ (∀ q : Nat, q < H.size → ¬ A1 q → T'.heap[q]? = H[q]?) ∧ va_S A0 H0 T'.heap (locs ++ L) := by
  obtain ⟨hz, hk⟩ := hF
  rw [h0] at hz hk
  exact ⟨by rw [e1]; exact hz, fun q h1 h2 => by rw [e1]; exact hk q h1 h2,
    ⟨Nat.le_trans hS.1 (by rw [e1]; exact hz), fun q h1 h2 => by rw [e1, hk q (Nat.lt_of_lt_of_le h1 hS.1) (fun z => h2 (hA q (Nat.lt_of_lt_of_le h1 hS.1) z))]; exact hS.2.1 q h1 h2, fun q hq => by
      rcases List.mem_append.mp hq with h | h
      · exact hS.2.2 q h
      · exact hf _ (hL q h)⟩⟩
theorem vx_calli {S SX : Type} {post : Int32 → S → Prop} {px : SX → Prop} {B : S → State → Prop} {BX : String → SX → State → Prop} {AX : Nat → Prop} (hr : vx_Run p l e R s m args below meth c H locs cells slots mc ms (F0 m pc ls st0) rest (va_Qi post B A1 a) (vx_X px BX AX) free) (hS : va_S A0 H0 H locs) (hA : ∀ q, q < H.size → A1 q → A0 q) (hf : ∀ q, free q → A0 q) (hAX : ∀ q, q < H.size → AX q → A0 q)
    (kx : ∀ (E : String) (ce : Cell) (q9 : Addr) (u : SX) (t : State) (H1 : Heap) (locs1 : List Loc), t.heap = H1 → s.vm.Alike t.vm → px u → BX E u t → H.size ≤ H1.size → (∀ q : Nat, q < H.size → ¬ AX q → H1[q]? = H[q]?) → va_S A0 H0 H1 locs1 → H1[q9]? = some ce → ce.vm = .none → s.vm.findClass E = some ce.cls → vx_W p l e R s m args below meth c H1 locs1 (cells + mc) (slots + ms) Q (F0 m pc ls rest) q9)
    (kk : ∀ (r : Int32) (u : S) (t : State) (H1 : Heap) (locs1 : List Loc), t.heap = H1 → s.vm.Alike t.vm → post r u → B u t → H.size ≤ H1.size → (∀ q : Nat, q < H.size → ¬ A1 q → H1[q]? = H[q]?) → va_S A0 H0 H1 locs1 → W p l e R s m args below meth c H1 locs1 (cells + mc) (slots + ms) Q (F0 m (pc + 3) ls (.int r :: rest))) : W p l e R s m args below meth c H locs cells slots Q (F0 m pc ls st0) := by
  intro T hT X
  rcases hr T hT X with ⟨v, st₀, t, T', L, h0, X', hL, e1, e2, ⟨⟨r, u, hv, hp, hb⟩, hF⟩, st⟩ | ⟨q, st₀, t, T', L, E, ce, h0, X', hL, e1, e2, ⟨u, hp, hb, hF⟩, hce, hcv, hcl, st⟩
  · cases hv
    obtain ⟨k1, k2, k3⟩ := vx_keep h0 e1 hS hA hf hL hF
    obtain ⟨t2, a1, b1⟩ := kk r u t T'.heap (locs ++ L) e1.symm (by rw [← e2]; exact X'.warmed.alike) hp hb k1 k2 k3 T' rfl X'
    exact ⟨t2, st t2 a1, b1⟩
  · obtain ⟨k1, k2, k3⟩ := vx_keep h0 e1 hS hAX hf hL hF
    obtain ⟨t2, a1, b1⟩ := kx E ce q u t T'.heap (locs ++ L) e1.symm (by rw [← e2]; exact X'.warmed.alike) hp hb k1 k2 k3 (by rw [e1]; exact hce) hcv hcl T' rfl X'
    exact ⟨t2, st.trans a1, b1⟩
theorem vx_calll {S SX : Type} {post : Int64 → S → Prop} {px : SX → Prop} {B : S → State → Prop} {BX : String → SX → State → Prop} {AX : Nat → Prop} (hr : vx_Run p l e R s m args below meth c H locs cells slots mc ms (F0 m pc ls st0) rest (va_Ql post B A1 a) (vx_X px BX AX) free) (hS : va_S A0 H0 H locs) (hA : ∀ q, q < H.size → A1 q → A0 q) (hf : ∀ q, free q → A0 q) (hAX : ∀ q, q < H.size → AX q → A0 q)
    (kx : ∀ (E : String) (ce : Cell) (q9 : Addr) (u : SX) (t : State) (H1 : Heap) (locs1 : List Loc), t.heap = H1 → s.vm.Alike t.vm → px u → BX E u t → H.size ≤ H1.size → (∀ q : Nat, q < H.size → ¬ AX q → H1[q]? = H[q]?) → va_S A0 H0 H1 locs1 → H1[q9]? = some ce → ce.vm = .none → s.vm.findClass E = some ce.cls → vx_W p l e R s m args below meth c H1 locs1 (cells + mc) (slots + ms) Q (F0 m pc ls rest) q9)
    (kk : ∀ (r : Int64) (u : S) (t : State) (H1 : Heap) (locs1 : List Loc), t.heap = H1 → s.vm.Alike t.vm → post r u → B u t → H.size ≤ H1.size → (∀ q : Nat, q < H.size → ¬ A1 q → H1[q]? = H[q]?) → va_S A0 H0 H1 locs1 → W p l e R s m args below meth c H1 locs1 (cells + mc) (slots + ms) Q (F0 m (pc + 3) ls (.long r :: rest))) : W p l e R s m args below meth c H locs cells slots Q (F0 m pc ls st0) := by
  intro T hT X
  rcases hr T hT X with ⟨v, st₀, t, T', L, h0, X', hL, e1, e2, ⟨⟨r, u, hv, hp, hb⟩, hF⟩, st⟩ | ⟨q, st₀, t, T', L, E, ce, h0, X', hL, e1, e2, ⟨u, hp, hb, hF⟩, hce, hcv, hcl, st⟩
  · cases hv
    obtain ⟨k1, k2, k3⟩ := vx_keep h0 e1 hS hA hf hL hF
    obtain ⟨t2, a1, b1⟩ := kk r u t T'.heap (locs ++ L) e1.symm (by rw [← e2]; exact X'.warmed.alike) hp hb k1 k2 k3 T' rfl X'
    exact ⟨t2, st t2 a1, b1⟩
  · obtain ⟨k1, k2, k3⟩ := vx_keep h0 e1 hS hAX hf hL hF
    obtain ⟨t2, a1, b1⟩ := kx E ce q u t T'.heap (locs ++ L) e1.symm (by rw [← e2]; exact X'.warmed.alike) hp hb k1 k2 k3 (by rw [e1]; exact hce) hcv hcl T' rfl X'
    exact ⟨t2, st.trans a1, b1⟩
theorem vx_callf {S SX : Type} {post : UInt32 → S → Prop} {px : SX → Prop} {B : S → State → Prop} {BX : String → SX → State → Prop} {AX : Nat → Prop} (hr : vx_Run p l e R s m args below meth c H locs cells slots mc ms (F0 m pc ls st0) rest (va_Qf post B A1 a) (vx_X px BX AX) free) (hS : va_S A0 H0 H locs) (hA : ∀ q, q < H.size → A1 q → A0 q) (hf : ∀ q, free q → A0 q) (hAX : ∀ q, q < H.size → AX q → A0 q)
    (kx : ∀ (E : String) (ce : Cell) (q9 : Addr) (u : SX) (t : State) (H1 : Heap) (locs1 : List Loc), t.heap = H1 → s.vm.Alike t.vm → px u → BX E u t → H.size ≤ H1.size → (∀ q : Nat, q < H.size → ¬ AX q → H1[q]? = H[q]?) → va_S A0 H0 H1 locs1 → H1[q9]? = some ce → ce.vm = .none → s.vm.findClass E = some ce.cls → vx_W p l e R s m args below meth c H1 locs1 (cells + mc) (slots + ms) Q (F0 m pc ls rest) q9)
    (kk : ∀ (r : UInt32) (u : S) (t : State) (H1 : Heap) (locs1 : List Loc), t.heap = H1 → s.vm.Alike t.vm → post r u → B u t → H.size ≤ H1.size → (∀ q : Nat, q < H.size → ¬ A1 q → H1[q]? = H[q]?) → va_S A0 H0 H1 locs1 → W p l e R s m args below meth c H1 locs1 (cells + mc) (slots + ms) Q (F0 m (pc + 3) ls (.float r :: rest))) : W p l e R s m args below meth c H locs cells slots Q (F0 m pc ls st0) := by
  intro T hT X
  rcases hr T hT X with ⟨v, st₀, t, T', L, h0, X', hL, e1, e2, ⟨⟨r, u, hv, hp, hb⟩, hF⟩, st⟩ | ⟨q, st₀, t, T', L, E, ce, h0, X', hL, e1, e2, ⟨u, hp, hb, hF⟩, hce, hcv, hcl, st⟩
  · cases hv
    obtain ⟨k1, k2, k3⟩ := vx_keep h0 e1 hS hA hf hL hF
    obtain ⟨t2, a1, b1⟩ := kk r u t T'.heap (locs ++ L) e1.symm (by rw [← e2]; exact X'.warmed.alike) hp hb k1 k2 k3 T' rfl X'
    exact ⟨t2, st t2 a1, b1⟩
  · obtain ⟨k1, k2, k3⟩ := vx_keep h0 e1 hS hAX hf hL hF
    obtain ⟨t2, a1, b1⟩ := kx E ce q u t T'.heap (locs ++ L) e1.symm (by rw [← e2]; exact X'.warmed.alike) hp hb k1 k2 k3 (by rw [e1]; exact hce) hcv hcl T' rfl X'
    exact ⟨t2, st.trans a1, b1⟩
theorem vx_calld {S SX : Type} {post : UInt64 → S → Prop} {px : SX → Prop} {B : S → State → Prop} {BX : String → SX → State → Prop} {AX : Nat → Prop} (hr : vx_Run p l e R s m args below meth c H locs cells slots mc ms (F0 m pc ls st0) rest (va_Qd post B A1 a) (vx_X px BX AX) free) (hS : va_S A0 H0 H locs) (hA : ∀ q, q < H.size → A1 q → A0 q) (hf : ∀ q, free q → A0 q) (hAX : ∀ q, q < H.size → AX q → A0 q)
    (kx : ∀ (E : String) (ce : Cell) (q9 : Addr) (u : SX) (t : State) (H1 : Heap) (locs1 : List Loc), t.heap = H1 → s.vm.Alike t.vm → px u → BX E u t → H.size ≤ H1.size → (∀ q : Nat, q < H.size → ¬ AX q → H1[q]? = H[q]?) → va_S A0 H0 H1 locs1 → H1[q9]? = some ce → ce.vm = .none → s.vm.findClass E = some ce.cls → vx_W p l e R s m args below meth c H1 locs1 (cells + mc) (slots + ms) Q (F0 m pc ls rest) q9)
    (kk : ∀ (r : UInt64) (u : S) (t : State) (H1 : Heap) (locs1 : List Loc), t.heap = H1 → s.vm.Alike t.vm → post r u → B u t → H.size ≤ H1.size → (∀ q : Nat, q < H.size → ¬ A1 q → H1[q]? = H[q]?) → va_S A0 H0 H1 locs1 → W p l e R s m args below meth c H1 locs1 (cells + mc) (slots + ms) Q (F0 m (pc + 3) ls (.double r :: rest))) : W p l e R s m args below meth c H locs cells slots Q (F0 m pc ls st0) := by
  intro T hT X
  rcases hr T hT X with ⟨v, st₀, t, T', L, h0, X', hL, e1, e2, ⟨⟨r, u, hv, hp, hb⟩, hF⟩, st⟩ | ⟨q, st₀, t, T', L, E, ce, h0, X', hL, e1, e2, ⟨u, hp, hb, hF⟩, hce, hcv, hcl, st⟩
  · cases hv
    obtain ⟨k1, k2, k3⟩ := vx_keep h0 e1 hS hA hf hL hF
    obtain ⟨t2, a1, b1⟩ := kk r u t T'.heap (locs ++ L) e1.symm (by rw [← e2]; exact X'.warmed.alike) hp hb k1 k2 k3 T' rfl X'
    exact ⟨t2, st t2 a1, b1⟩
  · obtain ⟨k1, k2, k3⟩ := vx_keep h0 e1 hS hAX hf hL hF
    obtain ⟨t2, a1, b1⟩ := kx E ce q u t T'.heap (locs ++ L) e1.symm (by rw [← e2]; exact X'.warmed.alike) hp hb k1 k2 k3 (by rw [e1]; exact hce) hcv hcl T' rfl X'
    exact ⟨t2, st.trans a1, b1⟩
theorem vx_callv {S SX : Type} {post : S → Prop} {px : SX → Prop} {B : S → State → Prop} {BX : String → SX → State → Prop} {AX : Nat → Prop} (hr : vx_Run p l e R s m args below meth c H locs cells slots mc ms (F0 m pc ls st0) rest (va_Qv post B A1 a) (vx_X px BX AX) free) (hS : va_S A0 H0 H locs) (hA : ∀ q, q < H.size → A1 q → A0 q) (hf : ∀ q, free q → A0 q) (hAX : ∀ q, q < H.size → AX q → A0 q)
    (kx : ∀ (E : String) (ce : Cell) (q9 : Addr) (u : SX) (t : State) (H1 : Heap) (locs1 : List Loc), t.heap = H1 → s.vm.Alike t.vm → px u → BX E u t → H.size ≤ H1.size → (∀ q : Nat, q < H.size → ¬ AX q → H1[q]? = H[q]?) → va_S A0 H0 H1 locs1 → H1[q9]? = some ce → ce.vm = .none → s.vm.findClass E = some ce.cls → vx_W p l e R s m args below meth c H1 locs1 (cells + mc) (slots + ms) Q (F0 m pc ls rest) q9)
    (kk : ∀ (u : S) (t : State) (H1 : Heap) (locs1 : List Loc), t.heap = H1 → s.vm.Alike t.vm → post u → B u t → H.size ≤ H1.size → (∀ q : Nat, q < H.size → ¬ A1 q → H1[q]? = H[q]?) → va_S A0 H0 H1 locs1 → W p l e R s m args below meth c H1 locs1 (cells + mc) (slots + ms) Q (F0 m (pc + 3) ls (rest))) : W p l e R s m args below meth c H locs cells slots Q (F0 m pc ls st0) := by
  intro T hT X
  rcases hr T hT X with ⟨v, st₀, t, T', L, h0, X', hL, e1, e2, ⟨⟨u, hv, hp, hb⟩, hF⟩, st⟩ | ⟨q, st₀, t, T', L, E, ce, h0, X', hL, e1, e2, ⟨u, hp, hb, hF⟩, hce, hcv, hcl, st⟩
  · cases hv
    obtain ⟨k1, k2, k3⟩ := vx_keep h0 e1 hS hA hf hL hF
    obtain ⟨t2, a1, b1⟩ := kk u t T'.heap (locs ++ L) e1.symm (by rw [← e2]; exact X'.warmed.alike) hp hb k1 k2 k3 T' rfl X'
    exact ⟨t2, st t2 a1, b1⟩
  · obtain ⟨k1, k2, k3⟩ := vx_keep h0 e1 hS hAX hf hL hF
    obtain ⟨t2, a1, b1⟩ := kx E ce q u t T'.heap (locs ++ L) e1.symm (by rw [← e2]; exact X'.warmed.alike) hp hb k1 k2 k3 (by rw [e1]; exact hce) hcv hcl T' rfl X'
    exact ⟨t2, st.trans a1, b1⟩
/-- caught by the row x of this method's table; the rows ahead don't take it -/
theorem vx_catch {own name : String} {E : String} {ce : Cell} {q : Addr} (hown : s.vm.findClass own = some m.cls) (pre : List ExceptionTableEntry) (x : ExceptionTableEntry) (suf : List ExceptionTableEntry) (hsplit : c.exceptionTable.toList = pre ++ x :: suf)
    (hpass : ∀ z ∈ pre, covers z pc = false ∨ (z.catchType ≠ 0 ∧ ∃ nm : String, (Cond.classLink own z.catchType nm).before args s = true ∧ va_Nc E nm s)) (hx : covers x pc = true) (h0 : x.catchType ≠ 0)
    (hlink : (Cond.classLink own x.catchType name).before args s = true) (hcast : (Cond.castable E name).before args s = true) (hcell : H[q]? = some ce) (hv : ce.vm = .none) (hcl : s.vm.findClass E = some ce.cls)
    (kk : W p l e R s m args below meth c H locs cells slots Q (F0 m x.handlerPc ls [.ref q])) : vx_W p l e R s m args below meth c H locs cells slots Q (F0 m pc ls rest) q := by
  intro T hT X
  have hpl : e.platform.magicAccessors = ({} : Platform).magicAccessors := by rw [X.admits.platform]
  obtain ⟨c3, c4, hc3, hc4, hasg⟩ := Cond.castable_spec hcast
  cases Option.some.inj (hc3.symm.trans hcl)
  obtain ⟨c5, hc5, hcl5⟩ := Cond.classLink_spec hown hlink e.platform hpl
  cases Option.some.inj (hc4.symm.trans hc5)
  obtain ⟨vm', X', st⟩ := Stand.thenCaughtThrough X q (g := F0 m pc ls rest) rfl (Steps.refl _) (by rw [hT]; exact hcell) (by rw [hv]; rfl) (by obtain ⟨k9, h9, -⟩ := Vm.findClass_spec hcl; exact ⟨k9, h9⟩) pre x suf hsplit
    (fun z hz => by
      rcases hpass z hz with h | ⟨hz0, nm, hl1, hn1⟩
      · exact Or.inl h
      · obtain ⟨c6, hc6, hcl6⟩ := Cond.classLink_spec hown hl1 e.platform hpl
        obtain ⟨a8, b8, h1, h2, h3⟩ := hn1
        cases Option.some.inj (h1.symm.trans hcl)
        cases Option.some.inj (h2.symm.trans hc6)
        exact Or.inr ⟨hz0, _, hcl6, h3⟩) hx (Or.inr ⟨h0, c4, hcl5, hasg⟩)
  obtain ⟨t, a1, b1⟩ := kk (T.setVm vm') hT X'
  exact ⟨t, st.trans a1, b1⟩
end Rows
section Ends
variable {p : Program} {l : Launch} {e : Env} {R : Room} {s : State} {m : MethodId} {args : Array Value} {below : List Frame} {meth : Method} {c : Code} {H : Heap} {locs : List Loc} {cells slots : Nat} {Q : State → Prop}
variable {mc ms : Nat} {free : Addr → Prop} {A0 A1 : Nat → Prop} {H0 : Heap} {a : Array Value} {ls : Array Slot} {st0 rest : List Value}
variable {Qc : Array Value → State → Outcome → State → Prop} {XC : String → State → State → Prop}
/-- what a body that may throw owes at its end -/
def vx_MQ (below : List Frame) (Qc : Array Value → State → Outcome → State → Prop) (XC : String → State → State → Prop) (a : Array Value) (s : State) (mc ms : Nat) (free : Addr → Prop) : State → Prop := fun t =>
  ∃ o, t.status = .running ∧ Ended t below o ∧ vx_Q Qc XC mc ms free a s o t
theorem vx_ret {g : JFrame} {mc ms : Nat} (k : W p l e R s m args below meth c H locs cells slots (MQ below Qc args s mc ms free) g) : W p l e R s m args below meth c H locs cells slots (vx_MQ below Qc XC args s mc ms free) g := by
  intro T hT X
  obtain ⟨t, a1, o, b1, b2, b3, b4⟩ := k T hT X
  exact ⟨t, a1, o, b1, b2, Or.inl ⟨b3, b4⟩⟩
/-- not caught here: it goes on to the caller -/
theorem vx_widen {g : JFrame} {q : Addr} {k n : Nat} (h1 : cells ≤ k) (h2 : slots ≤ n) (kk : vx_W p l e R s m args below meth c H locs k n Q g q) : vx_W p l e R s m args below meth c H locs cells slots Q g q := fun T hT X => kk T hT (stand_widen X h1 h2)
theorem vx_out {pc : Nat} {E : String} {ce : Cell} {q : Addr} {mc ms : Nat} (hout : ∀ x ∈ c.exceptionTable.toList, covers x pc = false) (hlocks : meth.locks = false) (hcell : H[q]? = some ce) (hv : ce.vm = .none) (hcl : s.vm.findClass E = some ce.cls)
    (hx : ∀ t : State, t.heap = H → s.vm.Alike t.vm → XC E s t) (hf : ∀ z ∈ locs, free z.base) (hc : cells ≤ mc) (hs : slots ≤ ms) :
    vx_W p l e R s m args below meth c H locs cells slots (vx_MQ below Qc XC args s mc ms free) (F0 m pc ls rest) q := by
  intro T hT X
  obtain ⟨st1, hrun, hend, hW, hsm⟩ := X.leaveThrown q (g := F0 m pc ls rest) rfl rfl rfl hout hlocks
  have hcell9 : (T.setFrames (.throwing q :: below)).heap[q]? = some ce := by
    show T.heap[q]? = some ce
    rw [hT]; exact hcell
  exact ⟨_, st1, .threw q, hrun, hend, Or.inr ⟨q, rfl, E, ce, locs, hx _ hT hW.alike, hcell9, hv, hcl, hW, hsm.mono hc hs, hf⟩⟩
theorem vx_frame {U : State} {k n : Nat} (h : s.sameButNew ({ U with vm := s.vm } : State) locs k n) : s.heap.size ≤ U.heap.size ∧ ∀ q : Nat, q < s.heap.size → (∀ z ∈ locs, z.base ≠ q) → U.heap[q]? = s.heap[q]? := by
  obtain ⟨-, h2, -, -, -, h6⟩ := h
  refine ⟨h2, fun q hq hz => ?_⟩
  obtain ⟨c9, e1, e2, e3, e4⟩ := h6 q _ (Array.getElem?_eq_getElem hq)
  have hs : c9.slots = (s.heap[q]).slots := Array.ext_getElem? fun i => e4 i fun hm => hz _ hm rfl
  have h9 : c9 = s.heap[q] := by
    rw [hs] at e2
    exact e2
  have e5 : U.heap[q]? = some c9 := e1
  rw [e5, h9, Array.getElem?_eq_getElem hq]
/-- the words of a throw but the four that speak of the heap -/
def vx_no (w : Cond) : Bool := decide (w ≠ .isRef (.static Bundle.tN "UNASSIGNED_STACK" Bundle.steD)) && decide (w ≠ .isRef (.static Bundle.tN "SUPPRESSED_SENTINEL" Bundle.listD)) && decide (w ≠ .laysStatic Bundle.tN "UNASSIGNED_STACK" Bundle.steD) && decide (w ≠ .laysStatic Bundle.tN "SUPPRESSED_SENTINEL" Bundle.listD)
def vx_at0 (own : String) (ic : Nat) (X : String) (names : List String) : List Cond := (Bundle.ownAtoms0 own ic X names).filter vx_no
def vx_atS (own : String) (ic : Nat) (X : String) (names : List String) : List Cond := (Bundle.ownAtoms own ic X names).filter vx_no
/-- a word that the tables alone decide, or a good one -/
def vx_ot (w : Cond) : Bool := w.onTables || goodWord w
theorem vx_ot_at {args a' : Array Value} {s U : State} {w : Cond} (hW : s.WarmedH U.vm) (hvm : s.vm = U.vm) (hg : vx_ot w = true) (h : w.before args s = true) : w.before a' U = true := by
  simp only [vx_ot, Bool.or_eq_true] at hg
  rcases hg with hg | hg
  · exact va_tabs hg hvm h
  · exact word_at hW (good_of_word hg) h
/-- a list's words: the good ones out of the method's own list, the others by premises of their own -/
theorem vx_hat {args : Array Value} {s : State} {L B : List Cond} (h1 : ∀ w ∈ L.filter goodWord, w.before args s = true) (h2 : ∀ w ∈ L.filter (fun w => !goodWord w), w ∈ B) (h3 : ∀ w ∈ B, w.before args s = true) : ∀ w ∈ L, w.before args s = true := by
  intro w hw
  by_cases g : goodWord w = true
  · exact h1 w (List.mem_filter.mpr ⟨hw, g⟩)
  · refine h3 w (h2 w (List.mem_filter.mpr ⟨hw, ?_⟩))
    show (!goodWord w) = true
    cases hgw : goodWord w
    · rfl
    · exact absurd hgw g
theorem vx_c {args : Array Value} {s : State} {w : Cond} {B : List Cond} (h : w.before args s = true) (t : ∀ w ∈ B, w.before args s = true) : ∀ w' ∈ w :: B, w'.before args s = true := fun w' h' => (List.mem_cons.mp h').elim (fun e => by rw [e]; exact h) (t w')
theorem vx_n {args : Array Value} {s : State} : ∀ w ∈ ([] : List Cond), w.before args s = true := fun _ h => nomatch h
theorem vx_own {args : Array Value} {s : State} {L : List Cond} (h1 : ∀ w ∈ L.filter vx_no, w.before args s = true)
    (hU : (Cond.isRef (.static Bundle.tN "UNASSIGNED_STACK" Bundle.steD)).before args s = true) (hN : (Cond.isRef (.static Bundle.tN "SUPPRESSED_SENTINEL" Bundle.listD)).before args s = true)
    (lU : (Cond.laysStatic Bundle.tN "UNASSIGNED_STACK" Bundle.steD).before args s = true) (lN : (Cond.laysStatic Bundle.tN "SUPPRESSED_SENTINEL" Bundle.listD).before args s = true) : ∀ w ∈ L, w.before args s = true := by
  intro w hw
  by_cases e1 : w = .isRef (.static Bundle.tN "UNASSIGNED_STACK" Bundle.steD)
  · rw [e1]; exact hU
  · by_cases e2 : w = .isRef (.static Bundle.tN "SUPPRESSED_SENTINEL" Bundle.listD)
    · rw [e2]; exact hN
    · by_cases e3 : w = .laysStatic Bundle.tN "UNASSIGNED_STACK" Bundle.steD
      · rw [e3]; exact lU
      · by_cases e4 : w = .laysStatic Bundle.tN "SUPPRESSED_SENTINEL" Bundle.listD
        · rw [e4]; exact lN
        · exact h1 w (List.mem_filter.mpr ⟨hw, by unfold vx_no; rw [decide_eq_true e1, decide_eq_true e2, decide_eq_true e3, decide_eq_true e4]; rfl⟩)
/-- where a static field lies, its class's statics cell in H -/
def vx_L (C n d : String) (A : Nat → Prop) (U : State) (H : Heap) : Prop := ∃ (c : ClassId) (k : Class) (i : Nat) (f : Field) (a : Nat) (cell : Cell), U.vm.findClass C = some c ∧ U.fieldFound? C n d = some (c, k, i, f) ∧ f.isStatic = true ∧ k.statics = some a ∧ H[a]? = some cell ∧ cell.vm.isStatics = true ∧ cell.cls = c ∧ f.slot < cell.slots.size ∧ k.staticTypes[f.slot]? = some f.type ∧ ¬ A a
theorem vx_L.moved {C n d : String} {A : Nat → Prop} {u U : State} {H : Heap} (hvm : u.vm.Alike U.vm) (h : vx_L C n d A u H) : vx_L C n d A U H := by
  obtain ⟨c, k, i, f, a, cell, h1, h2, h3, h4, h5, h6, h7, h8, h9, h10⟩ := h
  obtain ⟨k', hi', he⟩ := State.fieldFound?_setVm hvm h2
  exact ⟨c, k', i, f, a, cell, by rw [hvm.findClass]; exact h1, hi', h3, by rw [he]; exact h4, h5, h6, h7, h8, by rw [he]; exact h9, h10⟩
theorem vx_L.kept {C n d : String} {A : Nat → Prop} {U : State} {H H1 : Heap} (h : vx_L C n d A U H) (hq : ∀ a : Nat, a < H.size → ¬ A a → H1[a]? = H[a]?) : vx_L C n d A U H1 := by
  obtain ⟨c, k, i, f, a, cell, h1, h2, h3, h4, h5, h6, h7, h8, h9, h10⟩ := h
  exact ⟨c, k, i, f, a, cell, h1, h2, h3, h4, by rw [hq a (Array.getElem?_eq_some_iff.mp h5).1 h10]; exact h5, h6, h7, h8, h9, h10⟩
theorem vx_L.narrow {C n d : String} {A B : Nat → Prop} {U : State} {H : Heap} (h : vx_L C n d A U H) (hAB : ∀ q, B q → A q) : vx_L C n d B U H := by
  obtain ⟨c, k, i, f, a, cell, h1, h2, h3, h4, h5, h6, h7, h8, h9, h10⟩ := h
  exact ⟨c, k, i, f, a, cell, h1, h2, h3, h4, h5, h6, h7, h8, h9, fun z => h10 (hAB _ z)⟩
theorem vx_L.word {C n d : String} {A : Nat → Prop} {s : State} {args : Array Value} (h : vx_L C n d A s s.heap) : (Cond.laysStatic C n d).before args s = true := by
  obtain ⟨c, k, i, f, a, cell, h1, h2, h3, h4, h5, h6, h7, h8, h9, -⟩ := h
  show (Cond.laysStatic C n d).holds args s none s [] = true
  exact Cond.laysStatic_of h1 h2 h3 h4 h5 h6 h7 h8 h9
/-- .. and what it holds: null or some reference -/
def vx_Zq (C n d : String) (A : Nat → Prop) (U : State) (H : Heap) : Prop := va_Zq C n d A U H ∧ vx_L C n d A U H
theorem vx_Zq.moved {C n d : String} {A : Nat → Prop} {u U : State} {H : Heap} (hvm : u.vm.Alike U.vm) (h : vx_Zq C n d A u H) : vx_Zq C n d A U H := ⟨va_Zq.moved hvm h.1, vx_L.moved hvm h.2⟩
theorem vx_Zq.kept {C n d : String} {A : Nat → Prop} {U : State} {H H1 : Heap} (h : vx_Zq C n d A U H) (hq : ∀ a : Nat, a < H.size → ¬ A a → H1[a]? = H[a]?) : vx_Zq C n d A U H1 := ⟨va_Zq.kept h.1 hq, vx_L.kept h.2 hq⟩
theorem vx_Zq.narrow {C n d : String} {A B : Nat → Prop} {U : State} {H : Heap} (h : vx_Zq C n d A U H) (hAB : ∀ q, B q → A q) : vx_Zq C n d B U H := ⟨va_Zq.narrow h.1 hAB, vx_L.narrow h.2 hAB⟩
theorem vx_Zqof {args : Array Value} {s : State} {C n d : String} {A : Nat → Prop} (hl : (Cond.laysStatic C n d).before args s = true) (hini : (Cond.initialized C).before args s = true) (h : (Cond.isRef (.static C n d)).before args s = true) (hA : ∀ a : Nat, a < s.heap.size → ¬ A a) : vx_Zq C n d A s s.heap := by
  refine ⟨va_Zqof hl hini h hA, ?_⟩
  obtain ⟨c, k, i, f, a, cell, h1, h2, h3, h4, h5, h6, h7, h8, h9⟩ := Cond.laysStatic_spec hl
  exact ⟨c, k, i, f, a, cell, h1, h2, h3, h4, h5, h6, h7, h8, h9, hA a (Array.getElem?_eq_some_iff.mp h5).1⟩
theorem vx_isRef {C n d : String} {v : Value} {A : Nat → Prop} {s : State} {args : Array Value} (h : va_Z C n d v A s s.heap) (hv : v.isRef = true) : (Cond.isRef (.static C n d)).before args s = true := by
  obtain ⟨cf, kf, fi, f, a, cell, h1, h2, h3, h4, h5, h6, h7, -⟩ := h
  have he : (Term.static C n d).eval args s none [] s = some v := by
    simp [Term.eval, State.fieldNamed?, h1, h2, h4, h5, h6, h7]
  simp only [Cond.before, Cond.holds, Cond.value, he]
  cases v <;> simp_all [Value.isRef]
theorem vx_isRefq {C n d : String} {A : Nat → Prop} {s : State} {args : Array Value} (h : va_Zq C n d A s s.heap) : (Cond.isRef (.static C n d)).before args s = true := by
  rcases h with h | ⟨t, h⟩
  · exact vx_isRef h rfl
  · exact vx_isRef h rfl
/-- the same frame, seen from here: as if the method were called anew in this heap -/
theorem vx_rebase {T : State} (X : Stand p l e R s m args below meth c T locs cells slots) {R' : Room} (hf : R'.frames ≤ R.frames) (hl : R'.locals ≤ R.locals) (hc : cells + R'.cells ≤ R.cells) (hs : slots + R'.slots ≤ R.slots) :
    Stand p l e R' ((T.setVm s.vm).setFrames (.invoking m args :: below)) m args below meth c T [] 0 0 := by
  have htop : (T.setVm s.vm).topJava?.isSome := X.here.top
  have hF : ((T.setVm s.vm).setFrames (.invoking m args :: below)).frames = .invoking m args :: below := State.frames_setFrames _ (State.cur_lt_of_top htop)
  obtain ⟨g₀, hg0⟩ := Option.isSome_iff_exists.mp htop
  obtain ⟨r, hr⟩ := State.topJava?_eq_some.mp hg0
  have hl9 : e.platform.stackLimits (T.setVm s.vm).me = e.platform.stackLimits s.me := X.limits
  have hb9 : (T.setVm s.vm).me.stackBytes = s.me.stackBytes := X.bytes
  refine ⟨X.admits, X.cas, X.clock, hF, ?_, X.hears, X.method, X.code, X.here, X.tail, X.warmed, ?_, ?_, ?_⟩
  · have h := X.room
    have hU : ((T.setVm s.vm).setFrames (.invoking m args :: below)).localsInUse = s.localsInUse := by
      rw [State.localsInUse_invoking hF (meth := meth) (c := c) X.method X.code, State.localsInUse_invoking X.frames X.method X.code]
    simp only [State.hasRoom, Bool.and_eq_true, decide_eq_true_eq] at h ⊢
    obtain ⟨⟨⟨⟨h1, h2, h3, h4, h5, h6⟩, h7⟩, h8⟩, h9⟩ := h
    rw [X.frames, List.length_cons] at h2 h3
    have q1 := X.heapSize
    have q2 := X.used
    simp only [hF, hU, List.length_cons, State.stackLimits_setFrames, State.stackBytes_setFrames, hl9, hb9]
    refine ⟨⟨⟨⟨by omega, by omega, by omega, by omega, by omega, h6⟩, ?_⟩, ?_⟩, X.book⟩
    · show T.heap.size + R'.cells ≤ e.platform.maxCells
      omega
    · show T.slotsUsed + R'.slots ≤ e.platform.maxSlots
      omega
  · rw [State.stackLimits_setFrames]; rfl
  · rw [State.stackBytes_setFrames]; rfl
  · refine ⟨?_, Nat.le_refl _, Nat.le_refl _, ?_, ?_, fun a c9 h9 => ⟨c9, h9, rfl, rfl, fun _ _ => rfl⟩⟩
    · obtain ⟨t, ht, -⟩ := State.frames_cons hr
      show T.setVm s.vm = { ((T.setVm s.vm).setFrames (.invoking m args :: below)).setFrames (T.setVm s.vm).frames with heap := T.heap, slotsUsed := T.slotsUsed }
      rw [State.setFrames_setFrames, State.setFrames_self ht]
      rfl
    · show T.slotsUsed = T.slotsUsed + ((T.heap.toList.drop T.heap.size).map (·.slots.size)).sum
      rw [List.drop_eq_nil_of_le (Nat.le_of_eq Array.length_toList)]
      rfl
    · show ((T.heap.toList.drop T.heap.size).map (·.slots.size)).sum ≤ 0
      rw [List.drop_eq_nil_of_le (Nat.le_of_eq Array.length_toList)]
      exact Nat.le_refl _
/-- 'throw new E()': new; dup; invokespecial; athrow -/
theorem vx_throw0 {cc : ByteArray} {pc : Nat} (hexec : p.tables.exec = Jvm.exec) (hb : c.code = cc) (hl : l.stackTraces = false) {own cls : String} {names : List String} {ik ic mc ms : Nat} {A : Nat → Prop}
    (hown : s.vm.findClass own = some m.cls) (hcls : Bundle.fit cls = true) (hnames : ∀ n ∈ names, Bundle.fit n = true)
    (hk : (Cond.classLink own ik cls).before args s = true) (hini : (Cond.initialized cls).before args s = true) (hat : ∀ w ∈ vx_at0 own ic cls names, w.before args s = true)
    (hgood : ∀ w ∈ Cond.classLink own ik cls :: Cond.initialized cls :: vx_at0 own ic cls names, vx_ot w = true)
    (hU : vx_Zq Bundle.tN "UNASSIGNED_STACK" Bundle.steD A s s.heap) (hN : vx_Zq Bundle.tN "SUPPRESSED_SENTINEL" Bundle.listD A s s.heap) (hS : va_S A s.heap H locs) (hsize : ls.size = c.maxLocals)
    (d0 : decode cc pc = .ok (.new ik, 3)) (d3 : decode cc (pc + 3) = .ok (.dup, 1)) (d4 : decode cc (pc + 4) = .ok (.invokespecial ic, 3)) (d7 : decode cc (pc + 7) = .ok (.athrow, 1))
    (hout : ∀ x ∈ c.exceptionTable.toList, covers x (pc + 7) = false)
    (hRframes : names.length + 3 < R.frames) (hRlocals : (rest.map fun v => v.category).sum + (13 * (names.length + 1) + 42) ≤ R.locals) (hRcells : cells + 1 ≤ R.cells) (hRslots : slots + 6 ≤ R.slots) (hlocks : meth.locks = false)
    (hx : ∀ t : State, s.vm.Alike t.vm → H.size ≤ t.heap.size → (∀ q : Nat, q < H.size → t.heap[q]? = H[q]?) → XC cls s t)
    (hf : ∀ z ∈ locs, free z.base) (hc : cells + 1 ≤ mc) (hs : slots + 6 ≤ ms) :
    W p l e R s m args below meth c H locs cells slots (vx_MQ below Qc XC args s mc ms free) (F0 m pc ls rest) := by
  intro T hT X
  have htr : e.platform.stackTraces = false := (show e.platform.stackTraces = l.stackTraces by rw [X.admits.platform]).trans hl
  have Y := vx_rebase X (R' := { frames := R.frames, locals := R.locals, cells := 1, slots := 6 }) (Nat.le_refl _) (Nat.le_refl _) hRcells hRslots
  obtain ⟨s', hA⟩ : ∃ z, z = (T.setVm s.vm).setFrames (.invoking m args :: below) := ⟨_, rfl⟩
  rw [← hA] at Y
  have hvm : s'.vm = s.vm := by rw [hA]; rfl
  have hhp : s'.heap = H := by rw [hA]; exact hT
  have hW0 : s.WarmedH s'.vm := by rw [hvm]; exact State.WarmedH.refl s
  have hat' : ∀ w ∈ vx_at0 own ic cls names, w.before args s' = true := fun w hw => vx_ot_at hW0 hvm.symm (hgood w (List.mem_cons_of_mem _ (List.mem_cons_of_mem _ hw))) (hat w hw)
  have hk' : (Cond.classLink own ik cls).before args s' = true := vx_ot_at hW0 hvm.symm (hgood _ List.mem_cons_self) hk
  have hini' : (Cond.initialized cls).before args s' = true := vx_ot_at hW0 hvm.symm (hgood _ (List.mem_cons_of_mem _ List.mem_cons_self)) hini
  have hU' : vx_Zq Bundle.tN "UNASSIGNED_STACK" Bundle.steD A s' s'.heap := by rw [hhp]; exact vx_Zq.moved hW0.alike (hU.kept hS.2.1)
  have hN' : vx_Zq Bundle.tN "SUPPRESSED_SENTINEL" Bundle.listD A s' s'.heap := by rw [hhp]; exact vx_Zq.moved hW0.alike (hN.kept hS.2.1)
  have h : ∀ w ∈ Bundle.ownAtoms0 own ic cls names, w.before args s' = true := vx_own hat' (vx_isRefq hU'.1) (vx_isRefq hN'.1) hU'.2.word hN'.2.word
  have hown' : s'.vm.findClass own = some m.cls := by rw [hvm]; exact hown
  have hins : (Cond.instantiable cls 6).before args s' = true := h _ (by simp [Bundle.ownAtoms0])
  obtain ⟨vm₁, cX, kX, hfX, hkX, -, -, X₁, st1⟩ := Y.newCold hexec (own := own) (C := cls) (index := ik) (n := 6) hown' hk' hins hini'
    (g := F0 m pc ls rest) rfl (by rw [hb]; exact d0) (Nat.le_refl _) (Nat.le_refl _)
  generalize hT1 : (T.setVm vm₁).pushCell { cls := cX, slots := kX.instanceTypes.map defaultValue, vm := .none } = T1 at X₁ st1
  have hcat : (Value.ref T.heap.size).category = 1 := rfl
  have hcellA : T1.heap[T.heap.size]? = some (freshCell cX kX) := by rw [← hT1]; exact State.heap_pushCell_size _ _
  have d3' : decode c.code (pc + 3) = .ok (.dup, 1) := by rw [hb]; exact d3
  obtain ⟨U, hsteps, hrun, hend, hW, hsame, ce, hce, hO⟩ := X₁.ctorThrow0 hexec htr (own := own) (cls := cls) (names := names) (ic := ic) hown' hcls hnames h (fun x hx => nomatch hx) hfX hkX hcellA (by rw [hhp, hT]; exact Nat.le_refl _)
    (g := { method := m, pc := pc + 4, locals := ls, stack := .ref T.heap.size :: .ref T.heap.size :: rest, locked := none }) rfl hsize rfl rfl (rest := rest) rfl
    (by rw [hb]; exact d4) (by rw [hb]; exact d7) hout hRframes (by simp only [List.map_cons, List.sum_cons, hcat]; omega) hlocks
  obtain ⟨f1, f2⟩ := vx_frame hsame
  rw [hhp] at f1 f2
  have hWs : s.WarmedH U.vm := State.WarmedH.trans hW0 hW
  have hcl : s.vm.findClass cls = some ce.cls := by
    have h9 := hO.cls
    rw [hvm] at h9
    exact h9
  have hall : s.sameButNew ({ U with vm := s.vm } : State) locs mc ms := by
    subst hA
    obtain ⟨e1, e2⟩ := hsame
    rw [State.setFrames_setFrames] at e1
    have h2 : (T.setVm s.vm).sameButNew ({ U with vm := s.vm } : State) [] (0 + 1) (0 + 6) := ⟨e1, e2⟩
    have h3 := X.same.trans h2
    rw [List.append_nil] at h3
    exact h3.mono hc hs
  refine ⟨U, ?_, .threw T.heap.size, hrun, hend, Or.inr ⟨T.heap.size, rfl, cls, ce, locs, hx U hWs.alike f1 (fun q hq => f2 q hq (fun z hz => nomatch hz)), hce, hO.vm, hcl, hWs, hall, hf⟩⟩
  refine st1 _ ?_
  show Steps p.tables e below (T1.setTop { method := m, pc := pc + 3, locals := ls, stack := .ref T.heap.size :: rest, locked := none }) _
  jvm_step X₁.here [X₁.here.top, hexec, d3', Value.category]
  exact hsteps
/-- 'throw new E("text")': new; dup; ldc; invokespecial; athrow -/
theorem vx_throwS {cc : ByteArray} {pc : Nat} (hexec : p.tables.exec = Jvm.exec) (hb : c.code = cc) (hl : l.stackTraces = false) {own cls text : String} {names : List String} {ik is ic mc ms sa : Nat} {A : Nat → Prop}
    (hown : s.vm.findClass own = some m.cls) (hcls : Bundle.fit cls = true) (hnames : ∀ n ∈ names, Bundle.fit n = true)
    (hk : (Cond.classLink own ik cls).before args s = true) (hini : (Cond.initialized cls).before args s = true) (hstr : vk_R own is text sa s) (hat : ∀ w ∈ vx_atS own ic cls names, w.before args s = true)
    (hgood : ∀ w ∈ Cond.classLink own ik cls :: Cond.initialized cls :: vx_atS own ic cls names, vx_ot w = true)
    (hU : vx_Zq Bundle.tN "UNASSIGNED_STACK" Bundle.steD A s s.heap) (hN : vx_Zq Bundle.tN "SUPPRESSED_SENTINEL" Bundle.listD A s s.heap) (hS : va_S A s.heap H locs) (hsize : ls.size = c.maxLocals)
    (d0 : decode cc pc = .ok (.new ik, 3)) (d3 : decode cc (pc + 3) = .ok (.dup, 1)) (d4 : decode cc (pc + 4) = .ok (.ldc is, 2)) (d6 : decode cc (pc + 6) = .ok (.invokespecial ic, 3)) (d9 : decode cc (pc + 9) = .ok (.athrow, 1))
    (hout : ∀ x ∈ c.exceptionTable.toList, covers x (pc + 9) = false)
    (hRframes : names.length + 3 < R.frames) (hRlocals : (rest.map fun v => v.category).sum + (13 * (names.length + 1) + 43) ≤ R.locals) (hRcells : cells + 1 ≤ R.cells) (hRslots : slots + 6 ≤ R.slots) (hlocks : meth.locks = false)
    (hx : ∀ t : State, s.vm.Alike t.vm → H.size ≤ t.heap.size → (∀ q : Nat, q < H.size → t.heap[q]? = H[q]?) → XC cls s t)
    (hf : ∀ z ∈ locs, free z.base) (hc : cells + 1 ≤ mc) (hs : slots + 6 ≤ ms) :
    W p l e R s m args below meth c H locs cells slots (vx_MQ below Qc XC args s mc ms free) (F0 m pc ls rest) := by
  intro T hT X
  have htr : e.platform.stackTraces = false := (show e.platform.stackTraces = l.stackTraces by rw [X.admits.platform]).trans hl
  have Y := vx_rebase X (R' := { frames := R.frames, locals := R.locals, cells := 1, slots := 6 }) (Nat.le_refl _) (Nat.le_refl _) hRcells hRslots
  obtain ⟨s', hA⟩ : ∃ z, z = (T.setVm s.vm).setFrames (.invoking m args :: below) := ⟨_, rfl⟩
  rw [← hA] at Y
  have hvm : s'.vm = s.vm := by rw [hA]; rfl
  have hhp : s'.heap = H := by rw [hA]; exact hT
  have hW0 : s.WarmedH s'.vm := by rw [hvm]; exact State.WarmedH.refl s
  have hat' : ∀ w ∈ vx_atS own ic cls names, w.before args s' = true := fun w hw => vx_ot_at hW0 hvm.symm (hgood w (List.mem_cons_of_mem _ (List.mem_cons_of_mem _ hw))) (hat w hw)
  have hk' : (Cond.classLink own ik cls).before args s' = true := vx_ot_at hW0 hvm.symm (hgood _ List.mem_cons_self) hk
  have hini' : (Cond.initialized cls).before args s' = true := vx_ot_at hW0 hvm.symm (hgood _ (List.mem_cons_of_mem _ List.mem_cons_self)) hini
  have hU' : vx_Zq Bundle.tN "UNASSIGNED_STACK" Bundle.steD A s' s'.heap := by rw [hhp]; exact vx_Zq.moved hW0.alike (hU.kept hS.2.1)
  have hN' : vx_Zq Bundle.tN "SUPPRESSED_SENTINEL" Bundle.listD A s' s'.heap := by rw [hhp]; exact vx_Zq.moved hW0.alike (hN.kept hS.2.1)
  have h : ∀ w ∈ Bundle.ownAtoms own ic cls names, w.before args s' = true := vx_own hat' (vx_isRefq hU'.1) (vx_isRefq hN'.1) hU'.2.word hN'.2.word
  have hown' : s'.vm.findClass own = some m.cls := by rw [hvm]; exact hown
  have hins : (Cond.instantiable cls 6).before args s' = true := h _ (by simp [Bundle.ownAtoms])
  obtain ⟨vm₁, cX, kX, hfX, hkX, -, -, X₁, st1⟩ := Y.newCold hexec (own := own) (C := cls) (index := ik) (n := 6) hown' hk' hins hini'
    (g := F0 m pc ls rest) rfl (by rw [hb]; exact d0) (Nat.le_refl _) (Nat.le_refl _)
  generalize hT1 : (T.setVm vm₁).pushCell { cls := cX, slots := kX.instanceTypes.map defaultValue, vm := .none } = T1 at X₁ st1
  have hcat : (Value.ref T.heap.size).category = 1 := rfl
  have hcellA : T1.heap[T.heap.size]? = some (freshCell cX kX) := by rw [← hT1]; exact State.heap_pushCell_size _ _
  have d3' : decode c.code (pc + 3) = .ok (.dup, 1) := by rw [hb]; exact d3
  have d4' : decode c.code (pc + 4) = .ok (.ldc is, 2) := by rw [hb]; exact d4
  have hstr' : vk_R own is text sa s' := vk_R.warm hW0 hstr
  obtain ⟨U, hsteps, hrun, hend, hW, hsame, ce, hce, hO⟩ := X₁.ctorThrowS hexec htr (own := own) (cls := cls) (names := names) (ic := ic) hown' hcls hnames h (fun x hx => nomatch hx) hfX hkX hcellA (by rw [hhp, hT]; exact Nat.le_refl _) (msg := .ref sa) rfl
    (g := { method := m, pc := pc + 6, locals := ls, stack := .ref sa :: .ref T.heap.size :: .ref T.heap.size :: rest, locked := none }) rfl hsize rfl rfl (rest := rest) rfl
    (by rw [hb]; exact d6) (by rw [hb]; exact d9) hout hRframes (by simp only [List.map_cons, List.sum_cons, hcat]; omega) hlocks
  obtain ⟨f1, f2⟩ := vx_frame hsame
  rw [hhp] at f1 f2
  have hWs : s.WarmedH U.vm := State.WarmedH.trans hW0 hW
  have hcl : s.vm.findClass cls = some ce.cls := by
    have h9 := hO.cls
    rw [hvm] at h9
    exact h9
  have hall : s.sameButNew ({ U with vm := s.vm } : State) locs mc ms := by
    subst hA
    obtain ⟨e1, e2⟩ := hsame
    rw [State.setFrames_setFrames] at e1
    have h2 : (T.setVm s.vm).sameButNew ({ U with vm := s.vm } : State) [] (0 + 1) (0 + 6) := ⟨e1, e2⟩
    have h3 := X.same.trans h2
    rw [List.append_nil] at h3
    exact h3.mono hc hs
  refine ⟨U, ?_, .threw T.heap.size, hrun, hend, Or.inr ⟨T.heap.size, rfl, cls, ce, locs, hx U hWs.alike f1 (fun q hq => f2 q hq (fun z hz => nomatch hz)), hce, hO.vm, hcl, hWs, hall, hf⟩⟩
  refine st1 _ ?_
  show Steps p.tables e below (T1.setTop { method := m, pc := pc + 3, locals := ls, stack := .ref T.heap.size :: rest, locked := none }) _
  jvm_step X₁.here [X₁.here.top, hexec, d3', Value.category]
  exact X₁.ldcString hexec (own := own) (text := text) (index := is) (a := sa) hown' hstr'.1 hstr'.2
    (g := { method := m, pc := pc + 4, locals := ls, stack := .ref T.heap.size :: .ref T.heap.size :: rest, locked := none }) rfl d4' _ hsteps
/-- 'throw new E("text")', the text by a wide index -/
theorem vx_throwSW {cc : ByteArray} {pc : Nat} (hexec : p.tables.exec = Jvm.exec) (hb : c.code = cc) (hl : l.stackTraces = false) {own cls text : String} {names : List String} {ik is ic mc ms sa : Nat} {A : Nat → Prop}
    (hown : s.vm.findClass own = some m.cls) (hcls : Bundle.fit cls = true) (hnames : ∀ n ∈ names, Bundle.fit n = true)
    (hk : (Cond.classLink own ik cls).before args s = true) (hini : (Cond.initialized cls).before args s = true) (hstr : vk_R own is text sa s) (hat : ∀ w ∈ vx_atS own ic cls names, w.before args s = true)
    (hgood : ∀ w ∈ Cond.classLink own ik cls :: Cond.initialized cls :: vx_atS own ic cls names, vx_ot w = true)
    (hU : vx_Zq Bundle.tN "UNASSIGNED_STACK" Bundle.steD A s s.heap) (hN : vx_Zq Bundle.tN "SUPPRESSED_SENTINEL" Bundle.listD A s s.heap) (hS : va_S A s.heap H locs) (hsize : ls.size = c.maxLocals)
    (d0 : decode cc pc = .ok (.new ik, 3)) (d3 : decode cc (pc + 3) = .ok (.dup, 1)) (d4 : decode cc (pc + 4) = .ok (.ldc_w is, 3)) (d7 : decode cc (pc + 7) = .ok (.invokespecial ic, 3)) (d10 : decode cc (pc + 10) = .ok (.athrow, 1))
    (hout : ∀ x ∈ c.exceptionTable.toList, covers x (pc + 10) = false)
    (hRframes : names.length + 3 < R.frames) (hRlocals : (rest.map fun v => v.category).sum + (13 * (names.length + 1) + 43) ≤ R.locals) (hRcells : cells + 1 ≤ R.cells) (hRslots : slots + 6 ≤ R.slots) (hlocks : meth.locks = false)
    (hx : ∀ t : State, s.vm.Alike t.vm → H.size ≤ t.heap.size → (∀ q : Nat, q < H.size → t.heap[q]? = H[q]?) → XC cls s t)
    (hf : ∀ z ∈ locs, free z.base) (hc : cells + 1 ≤ mc) (hs : slots + 6 ≤ ms) :
    W p l e R s m args below meth c H locs cells slots (vx_MQ below Qc XC args s mc ms free) (F0 m pc ls rest) := by
  intro T hT X
  have htr : e.platform.stackTraces = false := (show e.platform.stackTraces = l.stackTraces by rw [X.admits.platform]).trans hl
  have Y := vx_rebase X (R' := { frames := R.frames, locals := R.locals, cells := 1, slots := 6 }) (Nat.le_refl _) (Nat.le_refl _) hRcells hRslots
  obtain ⟨s', hA⟩ : ∃ z, z = (T.setVm s.vm).setFrames (.invoking m args :: below) := ⟨_, rfl⟩
  rw [← hA] at Y
  have hvm : s'.vm = s.vm := by rw [hA]; rfl
  have hhp : s'.heap = H := by rw [hA]; exact hT
  have hW0 : s.WarmedH s'.vm := by rw [hvm]; exact State.WarmedH.refl s
  have hat' : ∀ w ∈ vx_atS own ic cls names, w.before args s' = true := fun w hw => vx_ot_at hW0 hvm.symm (hgood w (List.mem_cons_of_mem _ (List.mem_cons_of_mem _ hw))) (hat w hw)
  have hk' : (Cond.classLink own ik cls).before args s' = true := vx_ot_at hW0 hvm.symm (hgood _ List.mem_cons_self) hk
  have hini' : (Cond.initialized cls).before args s' = true := vx_ot_at hW0 hvm.symm (hgood _ (List.mem_cons_of_mem _ List.mem_cons_self)) hini
  have hU' : vx_Zq Bundle.tN "UNASSIGNED_STACK" Bundle.steD A s' s'.heap := by rw [hhp]; exact vx_Zq.moved hW0.alike (hU.kept hS.2.1)
  have hN' : vx_Zq Bundle.tN "SUPPRESSED_SENTINEL" Bundle.listD A s' s'.heap := by rw [hhp]; exact vx_Zq.moved hW0.alike (hN.kept hS.2.1)
  have h : ∀ w ∈ Bundle.ownAtoms own ic cls names, w.before args s' = true := vx_own hat' (vx_isRefq hU'.1) (vx_isRefq hN'.1) hU'.2.word hN'.2.word
  have hown' : s'.vm.findClass own = some m.cls := by rw [hvm]; exact hown
  have hins : (Cond.instantiable cls 6).before args s' = true := h _ (by simp [Bundle.ownAtoms])
  obtain ⟨vm₁, cX, kX, hfX, hkX, -, -, X₁, st1⟩ := Y.newCold hexec (own := own) (C := cls) (index := ik) (n := 6) hown' hk' hins hini'
    (g := F0 m pc ls rest) rfl (by rw [hb]; exact d0) (Nat.le_refl _) (Nat.le_refl _)
  generalize hT1 : (T.setVm vm₁).pushCell { cls := cX, slots := kX.instanceTypes.map defaultValue, vm := .none } = T1 at X₁ st1
  have hcat : (Value.ref T.heap.size).category = 1 := rfl
  have hcellA : T1.heap[T.heap.size]? = some (freshCell cX kX) := by rw [← hT1]; exact State.heap_pushCell_size _ _
  have d3' : decode c.code (pc + 3) = .ok (.dup, 1) := by rw [hb]; exact d3
  have d4' : decode c.code (pc + 4) = .ok (.ldc_w is, 3) := by rw [hb]; exact d4
  have hstr' : vk_R own is text sa s' := vk_R.warm hW0 hstr
  obtain ⟨U, hsteps, hrun, hend, hW, hsame, ce, hce, hO⟩ := X₁.ctorThrowS hexec htr (own := own) (cls := cls) (names := names) (ic := ic) hown' hcls hnames h (fun x hx => nomatch hx) hfX hkX hcellA (by rw [hhp, hT]; exact Nat.le_refl _) (msg := .ref sa) rfl
    (g := { method := m, pc := pc + 7, locals := ls, stack := .ref sa :: .ref T.heap.size :: .ref T.heap.size :: rest, locked := none }) rfl hsize rfl rfl (rest := rest) rfl
    (by rw [hb]; exact d7) (by rw [hb]; exact d10) hout hRframes (by simp only [List.map_cons, List.sum_cons, hcat]; omega) hlocks
  obtain ⟨f1, f2⟩ := vx_frame hsame
  rw [hhp] at f1 f2
  have hWs : s.WarmedH U.vm := State.WarmedH.trans hW0 hW
  have hcl : s.vm.findClass cls = some ce.cls := by
    have h9 := hO.cls
    rw [hvm] at h9
    exact h9
  have hall : s.sameButNew ({ U with vm := s.vm } : State) locs mc ms := by
    subst hA
    obtain ⟨e1, e2⟩ := hsame
    rw [State.setFrames_setFrames] at e1
    have h2 : (T.setVm s.vm).sameButNew ({ U with vm := s.vm } : State) [] (0 + 1) (0 + 6) := ⟨e1, e2⟩
    have h3 := X.same.trans h2
    rw [List.append_nil] at h3
    exact h3.mono hc hs
  refine ⟨U, ?_, .threw T.heap.size, hrun, hend, Or.inr ⟨T.heap.size, rfl, cls, ce, locs, hx U hWs.alike f1 (fun q hq => f2 q hq (fun z hz => nomatch hz)), hce, hO.vm, hcl, hWs, hall, hf⟩⟩
  refine st1 _ ?_
  show Steps p.tables e below (T1.setTop { method := m, pc := pc + 3, locals := ls, stack := .ref T.heap.size :: rest, locked := none }) _
  jvm_step X₁.here [X₁.here.top, hexec, d3', Value.category]
  exact X₁.ldcStringW hexec (own := own) (text := text) (index := is) (a := sa) hown' hstr'.1 hstr'.2
    (g := { method := m, pc := pc + 4, locals := ls, stack := .ref T.heap.size :: .ref T.heap.size :: rest, locked := none }) rfl d4' _ hsteps
end Ends
section Bodies
variable {l : Launch}
theorem vx_ofW {y : MethodName} {ws ws' : List Cond} {rm : Room} {Pc : Array Value → State → Prop} {Qc : Array Value → State → Outcome → State → Prop} {XC : String → State → State → Prop} {mc ms : Nat} {free : Addr → Prop} {cc : ByteArray} {maxL : Nat} {ret : Option FieldType}
    (hy : plainName y.cls = true) (hw : ws = Cond.code y cc maxL ret :: ws')
    (body : ∀ p e s m args below meth c s₁, BodyLoose p l y (headSpec ws rm) cc maxL ret e s m args below meth c s₁ → c.maxLocals = maxL → (∀ x ∈ c.exceptionTable.toList, False) → Pc args s →
      W p l e (headSpec ws rm).room s m args below meth c s.heap [] 0 0 (vx_MQ below Qc XC args s mc ms free) (entryFrame m args maxL)) : vx_Met l y ws rm Pc Qc XC mc ms free := by
  refine MetFree.of_bodyS (code := cc) (maxLocals := maxL) (ret := ret) hy ?_ ?_
  · intro args s m h hn
    obtain ⟨meth, c, h1, h2, h3, h4, h5, h6, -, -⟩ := Cond.code_spec hn (atoms_spec (ws := ws) h _ (by rw [hw]; exact List.mem_cons_self))
    exact ⟨meth, c, h1, h2, h3, h4, h5, h6⟩
  · intro p e s m args below meth c s₁ B hml hP _
    have hh0 : s₁.heap = s.heap := by rw [B.state]; rfl
    have ht : ∀ x ∈ c.exceptionTable.toList, False := by
      obtain ⟨meth9, c9, h1, h2, -, -, -, -, h7, -⟩ := Cond.code_spec B.named (atoms_spec (ws := ws) B.pre _ (by rw [hw]; exact List.mem_cons_self))
      cases Option.some.inj (h1.symm.trans B.method)
      cases Option.some.inj (h2.symm.trans (Stand.of_body B).code)
      intro x hx
      rw [Array.isEmpty_iff.mp h7] at hx
      cases hx
    obtain ⟨t, a1, o, b1, b2, b3⟩ := body p e s m args below meth c s₁ B hml ht hP s₁ hh0 (Stand.of_body B)
    exact ⟨t, o, a1, b1, b2, b3⟩
/-- the table of a body with handlers -/
theorem vx_table {p : Program} {x y : MethodName} {S : Spec} {cc bytes : ByteArray} {maxL maxL' : Nat} {ret ret' : Option FieldType} {e : Env} {s s₁ : State} {m : MethodId} {args : Array Value} {below : List Frame} {meth : Method} {c : Code} {hh : List (Nat × Nat × Nat × Nat)}
    (B : BodyLoose p l y S cc maxL ret e s m args below meth c s₁) (h : (Cond.codeWith y bytes maxL' ret' hh).before args s = true) : c.exceptionTable.toList = tableOf hh := by
  obtain ⟨m9, meth9, c9, hn9, h1, h2, -, -, h6, -⟩ := Cond.codeWith_spec h
  cases Option.some.inj (hn9.symm.trans B.named)
  cases Option.some.inj (h1.symm.trans B.method)
  cases Option.some.inj (h2.symm.trans (Stand.of_body B).code)
  rw [← h6, table_eq]
end Bodies
end VXA
/-! ===== END ===== -/
/-! ===== BEGIN a static call of a method with an exception table ===== -/
section VXS
variable {p : Program} {l : Launch} {e : Env} {R : Room} {s : State} {m : MethodId} {args : Array Value} {below : List Frame} {meth : Method} {c : Code} {T : State} {H : Heap} {locs : List Loc} {cells slots : Nat}
abbrev vx_CSW (R : Room) (s : State) (args : Array Value) (own : String) (index : Nat) (y : MethodName) (bytes : ByteArray) (maxL : Nat) (ret : Option FieldType) (hh : List (Nat × Nat × Nat × Nat)) (ws : List Cond) (rm : Room) (mc ms n : Nat) : Prop :=
  (rm.cells = mc ∧ rm.slots = ms ∧ rm.frames + 1 ≤ R.frames ∧ 8 + (maxL + 11) + rm.locals ≤ R.locals ∧ (∀ w ∈ ws, ∀ (a' : Array Value) (U : State), s.WarmedH U.vm → w.before a' U = true) ∧ Cond.codeWith y bytes maxL ret hh ∈ ws) ∧
  (Cond.codeWith y bytes maxL ret hh).before args s = true ∧ (Cond.initialized y.cls).before args s = true ∧ (y.cls ≠ "java/lang/invoke/MethodHandle" ∧ y.cls ≠ "java/lang/invoke/VarHandle") ∧
  (∀ sig, parseMethodDescriptor y.desc = some sig → n = sig.parameters.length) ∧ (Cond.methodLink own index y).before args s = true ∧ (Cond.static y).before args s = true
theorem vx_cwSW {own : String} {index maxL mc ms : Nat} {y : MethodName} {bytes : ByteArray} {ret : Option FieldType} {hh : List (Nat × Nat × Nat × Nat)} {Ts ws ws' : List Cond} {rm : Room} (n : Nat) (ht : ∀ w ∈ Ts, w.before args s = true) (hT : GoodIn Ts (va_wsS own index y ws)) (hw : ws = Cond.codeWith y bytes maxL ret hh :: ws') (hrc : rm.cells = mc) (hrs : rm.slots = ms)
    (hd : y.cls ≠ "java/lang/invoke/MethodHandle" ∧ y.cls ≠ "java/lang/invoke/VarHandle" ∧ (parseMethodDescriptor y.desc).map (fun d => d.parameters.length) = some n) (hR : rm.frames + 1 ≤ R.frames ∧ 8 + (maxL + 11) + rm.locals ≤ R.locals) :
    vx_CSW R s args own index y bytes maxL ret hh ws rm mc ms n := by
  have ok : ∀ w ∈ va_wsS own index y ws, w.before args s = true := fun w h => ht w (hT w h).1
  have hG : GoodIn Ts ws := fun w h => hT w (by unfold va_wsS; exact List.mem_append_right _ h)
  have hc : Cond.codeWith y bytes maxL ret hh ∈ ws := by rw [hw]; exact List.mem_cons_self
  refine ⟨⟨hrc, hrs, hR.1, hR.2, pay_in ht hG, hc⟩, ht _ (hG _ hc).1, ok _ (by simp [va_wsS]), ⟨hd.1, hd.2.1⟩, fun sig h => ?_, ok _ (by simp [va_wsS]), ok _ (by simp [va_wsS])⟩
  have h2 := hd.2.2
  rw [h] at h2
  exact (Option.some.inj h2).symm
theorem vx_callSW (X : Stand p l e R s m args below meth c T locs cells slots) (hexec : p.tables.exec = Jvm.exec) {own : String} {index : Nat} {y : MethodName} {bytes : ByteArray} {maxL : Nat} {ret : Option FieldType} {hh : List (Nat × Nat × Nat × Nat)}
    (hown : s.vm.findClass own = some m.cls) (hlink : (Cond.methodLink own index y).before args s = true) (hstat : (Cond.static y).before args s = true) (hinit : (Cond.initialized y.cls).before args s = true)
    (hcode : (Cond.codeWith y bytes maxL ret hh).before args s = true) (hy : y.cls ≠ "java/lang/invoke/MethodHandle" ∧ y.cls ≠ "java/lang/invoke/VarHandle")
    {W9 : Nat} {Pre : Pt → Array Value → Prop} {Post : Pt → Array Value → Option Value → Pt → Prop} (hK : Back l R p e below s args y 3 W9 Pre Post)
    {g : JFrame} (hg : g.method = m) (hsize : g.locals.size = c.maxLocals) {argsL rest : List Value} (hlen : ∀ sig, parseMethodDescriptor y.desc = some sig → argsL.length = sig.parameters.length)
    (hstack : g.stack = argsL.reverse ++ rest) (hW : 2 * g.monitorRoom + (rest.map fun v => v.category).sum ≤ W9) (hdg : decode c.code g.pc = .ok (.invokestatic index, 3))
    (hpre : ∀ vm₁, s.WarmedH vm₁ → Pre ⟨T.setVm vm₁, locs, cells, slots⟩ argsL.toArray) :
    ∃ (v : Option Value) (vm₁ : Vm) (B : Pt), s.WarmedH vm₁ ∧ Stand p l e R s m args below meth c B.U B.locs B.cells B.slots ∧ Post ⟨T.setVm vm₁, locs, cells, slots⟩ argsL.toArray v B ∧
      ∀ target, Steps p.tables e below (B.U.setTop { g with pc := g.pc + 3, stack := v.toList ++ rest }) target → Steps p.tables e below (T.setTop g) target := by
  obtain ⟨mk, methM, cM, hnamed, hmethM, -, -, -, -, -, -, hsigM⟩ := Cond.codeWith_spec hcode
  have hstatic : methM.isStatic = true := Cond.static_spec hnamed hmethM hstat
  obtain ⟨kP, hkP, -⟩ := className_of_methodNamed hnamed
  have hinitP : kP.init = .initialized := Cond.initialized_spec (findClass_of_methodNamed hnamed) hkP hinit
  obtain ⟨vm₁, X₁, hstep₁⟩ := X.invokestatic hexec hown hlink hnamed hmethM hstatic hkP hinitP hy (g := g) hg (argsL := argsL) (rest := rest) (hlen _ hsigM) hstack hdg
  obtain ⟨v, B, X', hpost, hsteps⟩ := hK m meth c ⟨T.setVm vm₁, locs, cells, slots⟩ { g with stack := rest } (.invokestatic index) mk argsL.toArray X₁ hg hsize hdg hW (X₁.named hnamed) (hpre vm₁ X₁.warmed)
  exact ⟨v, vm₁, B, X₁.warmed, X', hpost, fun target h => hstep₁ _ fun acts => by rw [doInvoke_state]; exact hsteps.trans h⟩
theorem vx_runSW {y : MethodName} {bytes cc : ByteArray} {maxL nL mc ms n index : Nat} {ret : Option FieldType} {hh : List (Nat × Nat × Nat × Nat)} {ws : List Cond} {rm : Room} {Pc : Array Value → State → Prop} {Qc : Array Value → State → Outcome → State → Prop} {free : Addr → Prop} {Ts : List Cond} {own : String} {As rest : List Value} {g : JFrame}
    (S : CallFix p m c cc nL s args Ts own) (hM : Met l y ws rm Pc Qc mc ms free) (cw : vx_CSW R s args own index y bytes maxL ret hh ws rm mc ms n) (hp : PreS s H Pc As)
    (hg : g.method = m) (hn : As.length = n) (hsize : g.locals.size = nL) (hstack : g.stack = As.reverse ++ rest) (hW : 2 * g.monitorRoom + (rest.map fun v => v.category).sum ≤ 8) (hdg : decode cc g.pc = .ok (.invokestatic index, 3)) (hf : cells + mc ≤ R.cells ∧ slots + ms ≤ R.slots) :
    va_Run p l e R s m args below meth c H locs cells slots mc ms g rest (Qc As.toArray) (free) := by
  obtain ⟨⟨hrc, hrs, hfr, hlo, hws, hcw⟩, hcode, hini, hy, hlen, hl, hstt⟩ := cw
  have hK : Back l R p e below s args y 3 8 (PreOf R mc ms Pc) (PostOf Qc mc ms free) := va_backW (hh := hh) (bytes := bytes) (maxL := maxL) (ret := ret) hM hp.1 hrc hrs hfr hlo hws hcw (fun a' U hW => word_at hW (Or.inl (by first | rfl | simp [Cond.onTables, Cond.keeps, Cond.steady])) hini)
  obtain ⟨hx, hb, hml, ho, -⟩ := S
  intro T hT X
  obtain ⟨v, vm₁, ⟨U', l2, c2, s2⟩, hW₁, X', ⟨g', mk, t, L, e1, e2, hq, h1, hL, h2, h3⟩, st⟩ := vx_callSW X hx (hh := hh) (bytes := bytes) (maxL := maxL) (ret := ret) ho hl hstt hini hcode hy hK hg (hsize.trans hml.symm) (argsL := As) (rest := rest) (fun sig h => hn.trans (hlen sig h)) hstack hW (by rw [hb]; exact hdg)
    (fun vm₁ hW₁ => ⟨hf.1, hf.2, hp.2 (T.setVm vm₁) hT hW₁⟩)
  dsimp only [Pt.U, Pt.locs, Pt.cells, Pt.slots] at X' e1 e2 h1 h2 h3 st
  subst h1; subst h2; subst h3
  exact ⟨v, (T.setVm vm₁).calling g' mk As.toArray, t, U', L, hT, X', hL, e1, e2, hq, st⟩
/-- not caught here, past rows that name other classes: it goes on to the caller -/
theorem vx_outP {p : Program} {l : Launch} {e : Env} {R : Room} {s : State} {m : MethodId} {args : Array Value} {below : List Frame} {meth : Method} {c : Code} {H : Heap} {locs : List Loc} {cells slots : Nat} {free : Addr → Prop} {ls : Array Slot} {rest : List Value} {Qc : Array Value → State → Outcome → State → Prop} {XC : String → State → State → Prop}
    {pc : Nat} {own E : String} {ce : Cell} {q : Addr} {mc ms : Nat} (hown : s.vm.findClass own = some m.cls) (hlocks : meth.locks = false)
    (hpass : ∀ z ∈ c.exceptionTable.toList, covers z pc = false ∨ (z.catchType ≠ 0 ∧ ∃ nm : String, (Cond.classLink own z.catchType nm).before args s = true ∧ va_Nc E nm s)) (hcell : H[q]? = some ce) (hv : ce.vm = .none) (hcl : s.vm.findClass E = some ce.cls)
    (hx : ∀ t : State, t.heap = H → s.vm.Alike t.vm → XC E s t) (hf : ∀ z ∈ locs, free z.base) (hc : cells ≤ mc) (hs : slots ≤ ms) :
    vx_W p l e R s m args below meth c H locs cells slots (vx_MQ below Qc XC args s mc ms free) (F0 m pc ls rest) q := by
  intro T hT X
  have hpl : e.platform.magicAccessors = ({} : Platform).magicAccessors := by rw [X.admits.platform]
  obtain ⟨vm', hW', X', st⟩ := Stand.outThrough X hlocks q (g := F0 m pc ls rest) rfl rfl rfl (cell := ce) (by rw [hT]; exact hcell) (by rw [hv]; rfl)
    (by obtain ⟨k9, h9, -⟩ := Vm.findClass_spec hcl; exact ⟨k9, h9⟩) (fun z hz => by
      rcases hpass z hz with h | ⟨hz0, nm, hl1, hn1⟩
      · exact Or.inl h
      · obtain ⟨c6, hc6, hcl6⟩ := Cond.classLink_spec hown hl1 e.platform hpl
        obtain ⟨a8, b8, h1, h2, h3⟩ := hn1
        cases Option.some.inj (h1.symm.trans hcl)
        cases Option.some.inj (h2.symm.trans hc6)
        exact Or.inr ⟨hz0, _, hcl6, h3⟩)
  obtain ⟨g₀, hfr⟩ := X'.frames_eq
  have hcell9 : ((T.setVm vm').setFrames (.throwing q :: below)).heap[q]? = some ce := by
    show T.heap[q]? = some ce
    rw [hT]; exact hcell
  have hend : Ended ((T.setVm vm').setFrames (.throwing q :: below)) below (.threw q) := State.frames_setFrames _ (State.cur_lt_of_frames hfr)
  refine ⟨(T.setVm vm').setFrames (.throwing q :: below), ?_, .threw q, X'.here.running, hend, Or.inr ⟨q, rfl, E, ce, locs, hx _ hT (X'.ends _).1.alike, hcell9, hv, hcl, (X'.ends _).1, (X'.ends _).2.mono hc hs, hf⟩⟩
  rw [X.pushThrowing_eq]
  exact st
/-- a thing of a world lies in the heap -/
theorem vx_lt {D : va_G} {cl : List vw_C} {ws : va_W} {H1 : Heap} (h : va_P D cl ws H1) {k : Nat} {q : Nat × va_E} (hk : ws[k]? = some q) : q.1 < H1.size := (h k q hk).lt
end VXS
/-! ===== END ===== -/
/-! ===== BEGIN methods with a table of their own: called by a name, returning or throwing ===== -/
section VXH
/-! vx_backW, vx_callVX, vx_callSX, vx_callVW, vx_runVW, vx_runVX, vx_runSX, vx_ofWH follow the same proofs as their sisters above (Free/Laws.lean, Shelf42/LK1.lean); vx_outP calls Shelf42/NT130.lean (outThrough). -/
section
variable {l : Launch} {R : Room} {p : Program} {e : Env} {below : List Frame} {s : State} {sargs : Array Value} {y : MethodName} {len W9 : Nat}
theorem vx_backW {ws : List Cond} {rm : Room} {Pc : Array Value → State → Prop} {Qc : Array Value → State → Outcome → State → Prop} {XC : String → State → State → Prop} {mc ms : Nat} {free : Addr → Prop} {bytes : ByteArray} {maxL : Nat} {ret : Option FieldType} {hh : List (Nat × Nat × Nat × Nat)}
    (hM : vx_Met l y ws rm Pc Qc XC mc ms free) (hblind : FrameBlind Pc) (hrc : rm.cells = mc) (hrs : rm.slots = ms)
    (hframes : rm.frames + 1 ≤ R.frames) (hlocals : W9 + (maxL + 11) + rm.locals ≤ R.locals)
    (hws : ∀ w ∈ ws, ∀ a' U, s.WarmedH U.vm → w.before a' U = true) (hcode : Cond.codeWith y bytes maxL ret hh ∈ ws) (hinit : ∀ a' U, s.WarmedH U.vm → (Cond.initialized y.cls).before a' U = true) :
    vx_Back l R p e below s sargs y len W9 (PreOf R mc ms Pc) (PostOf Qc mc ms free) (vx_Post XC mc ms free) := by
  intro m meth c A g ig mk a X hg hsize hdg hW hn hp
  have h1 : (headSpec ws rm).pre.before a A.U = true := atoms_intro fun w hw => hws w hw _ _ X.warmed
  have h2 : (Cond.codeWith y bytes maxL ret hh).before a A.U = true := hws _ hcode _ _ X.warmed
  have h3 : (Cond.initialized y.cls).before a A.U = true := hinit _ _ X.warmed
  have h4 : A.cells + (headSpec ws rm).room.cells ≤ R.cells := by rw [show (headSpec ws rm).room.cells = mc from hrc]; exact hp.1
  have h5 : A.slots + (headSpec ws rm).room.slots ≤ R.slots := by rw [show (headSpec ws rm).room.slots = ms from hrs]; exact hp.2.1
  have hPc : Pc a (A.U.calling g mk a) := hblind _ _ _ _ hp.2.2
  obtain ⟨U, Ls, c0, s0⟩ := A
  dsimp only [Pt.U, Pt.locs, Pt.cells, Pt.slots] at h1 h2 h3 h4 h5 X hn hPc ⊢
  obtain ⟨m9, methY, cY, hn9, hmY, hcY, -, hlY, -⟩ := Cond.codeWith_spec h2
  cases Option.some.inj (hn9.symm.trans hn)
  obtain ⟨kY, hkY, -⟩ := className_of_methodNamed hn
  have hinitY : kY.init = .initialized := Cond.initialized_spec (findClass_of_methodNamed hn) hkY h3
  have h : At U g.method c below := by rw [hg]; exact X.here
  have hlocals9 : W9 + (maxL + 11) + (headSpec ws rm).room.locals ≤ R.locals := hlocals
  have happ : (headSpec ws rm).appliesLoose y e.platform (U.calling g mk a) = true :=
    Spec.appliesLoose_calling (g := g) h hdg hn hkY hinitY
      (X.room_calling (g := g) (R' := (headSpec ws rm).room) hsize hmY hcY hframes (by rw [hlY]; omega) h4 h5) h1
  obtain ⟨mid, hmid⟩ := h.above
  have hfr : (U.setTop g).frames = (.java g :: mid) ++ below := by rw [State.frames_setTop' g h.top, hmid]; rfl
  obtain ⟨o, s₂, hsteps, -, hend, hq⟩ := Steps.callFree hM p X.admits X.cas X.clock (acts := []) hfr happ hPc trivial
  have hq' : vx_Q Qc XC mc ms free a (U.calling g mk a) o s₂ := hq
  rw [State.frames_setTop' g h.top] at hend
  obtain ⟨g₀, hg0⟩ := Option.isSome_iff_exists.mp h.top
  obtain ⟨r, hr⟩ := State.topJava?_eq_some.mp hg0
  have hr' : (({ U with heap := s₂.heap, slotsUsed := s₂.slotsUsed } : State).setVm s₂.vm).frames = .java g₀ :: r := hr
  rcases hq' with ⟨hqc, L, hfe, hL⟩ | ⟨q, rfl, E, ce, L, hx, hce, hcv, hcl, hW₂, hsm, hL⟩
  · obtain ⟨⟨v, rfl⟩, hW₂, e2, q2, q3, q4, q5, q6⟩ := id hfe
    have e3 : s₂ = ({ (U.calling g mk a).setFrames s₂.frames with heap := s₂.heap, slotsUsed := s₂.slotsUsed } : State).setVm s₂.vm := by
      have : s₂ = ({ s₂ with vm := (U.calling g mk a).vm } : State).setVm s₂.vm := rfl
      rw [e2] at this
      exact this
    obtain ⟨c₂, i₂, len₂, hc₂, hd₂, hf₂⟩ := hend
    have hW' : U.WarmedH s₂.vm := hW₂
    have hcc : c₂ = c := by
      have h1 : s₂.code? g.method = U.code? g.method := by
        rw [State.code?_eq, State.code?_eq, hW'.alike.method?]
      exact Option.some.inj (hc₂.symm.trans (h1.trans h.code))
    subst hcc
    have hlen : len₂ = len := by rw [hdg] at hd₂; cases hd₂; rfl
    subst hlen
    have hs₂ : s₂ = (({ U with heap := s₂.heap, slotsUsed := s₂.slotsUsed } : State).setVm s₂.vm).setTop { g with pc := g.pc + len₂, stack := v.toList ++ g.stack } := by
      refine e3.trans ?_
      rw [hf₂, State.calling_eq h.top, State.setFrames_setFrames, State.setTop_of_frames _ hr', hr]
      rfl
    have hsame : U.sameButNew ({ U with heap := s₂.heap, slotsUsed := s₂.slotsUsed } : State) L mc ms := by
      refine ⟨?_, q2, q3, q4, q5, q6⟩
      obtain ⟨t, ht, -⟩ := State.frames_cons hr
      show ({ U with heap := s₂.heap, slotsUsed := s₂.slotsUsed } : State) = { U.setFrames U.frames with heap := s₂.heap, slotsUsed := s₂.slotsUsed }
      rw [State.setFrames_self ht]
    subst hg
    refine Or.inl ⟨v, ⟨(({ U with heap := s₂.heap, slotsUsed := s₂.slotsUsed } : State).setVm s₂.vm), Ls ++ L, c0 + mc, s0 + ms⟩,
      ⟨X.admits, X.cas, X.clock, X.frames, X.room, X.hears, X.method, X.code, (X.here.setHeapUsed s₂.heap s₂.slotsUsed).setVm hW'.alike, X.tail, State.WarmedH.trans X.warmed hW', X.limits, X.bytes, X.same.trans (hsame.setVm s.vm)⟩,
      ⟨g, mk, s₂, L, rfl, rfl, hqc, rfl, hL, rfl, rfl⟩, ?_⟩
    show Steps p.tables e below _ ((({ U with heap := s₂.heap, slotsUsed := s₂.slotsUsed } : State).setVm s₂.vm).setTop { g with pc := g.pc + len₂, stack := v.toList ++ g.stack })
    rw [← hs₂]
    exact hsteps
  · obtain ⟨e2, q2, q3, q4, q5, q6⟩ := id hsm
    have e3 : s₂ = ({ (U.calling g mk a).setFrames s₂.frames with heap := s₂.heap, slotsUsed := s₂.slotsUsed } : State).setVm s₂.vm := by
      have : s₂ = ({ s₂ with vm := (U.calling g mk a).vm } : State).setVm s₂.vm := rfl
      rw [e2] at this
      exact this
    have hf₂ : s₂.frames = .throwing q :: .java g :: U.frames.tail := hend
    have hW' : U.WarmedH s₂.vm := hW₂
    have hs₂ : s₂ = ((({ U with heap := s₂.heap, slotsUsed := s₂.slotsUsed } : State).setVm s₂.vm).setTop g).pushFrame (.throwing q) := by
      refine e3.trans ?_
      rw [hf₂, State.calling_eq h.top, State.setFrames_setFrames, State.pushFrame, State.frames_setTop _ hr', State.setTop_of_frames _ hr', State.setFrames_setFrames, hr]
      rfl
    have hsame : U.sameButNew ({ U with heap := s₂.heap, slotsUsed := s₂.slotsUsed } : State) L mc ms := by
      refine ⟨?_, q2, q3, q4, q5, q6⟩
      obtain ⟨t, ht, -⟩ := State.frames_cons hr
      show ({ U with heap := s₂.heap, slotsUsed := s₂.slotsUsed } : State) = { U.setFrames U.frames with heap := s₂.heap, slotsUsed := s₂.slotsUsed }
      rw [State.setFrames_self ht]
    subst hg
    refine Or.inr ⟨q, ⟨(({ U with heap := s₂.heap, slotsUsed := s₂.slotsUsed } : State).setVm s₂.vm), Ls ++ L, c0 + mc, s0 + ms⟩,
      ⟨X.admits, X.cas, X.clock, X.frames, X.room, X.hears, X.method, X.code, (X.here.setHeapUsed s₂.heap s₂.slotsUsed).setVm hW'.alike, X.tail, State.WarmedH.trans X.warmed hW', X.limits, X.bytes, X.same.trans (hsame.setVm s.vm)⟩,
      ⟨g, mk, s₂, L, E, ce, rfl, rfl, hx, hce, hcv, hcl, rfl, hL, rfl, rfl⟩, ?_⟩
    show Steps p.tables e below _ (((({ U with heap := s₂.heap, slotsUsed := s₂.slotsUsed } : State).setVm s₂.vm).setTop g).pushFrame (.throwing q))
    rw [← hs₂]
    exact hsteps
end
variable {p : Program} {l : Launch} {e : Env} {R : Room} {s : State} {m : MethodId} {args : Array Value} {below : List Frame} {meth : Method} {c : Code} {T : State} {H : Heap} {locs : List Loc} {cells slots : Nat}
theorem vx_callVX (X : Stand p l e R s m args below meth c T locs cells slots) (hexec : p.tables.exec = Jvm.exec) {own C : String} {index : Nat} {y : MethodName} {bytes : ByteArray} {maxL : Nat} {ret : Option FieldType} {hh : List (Nat × Nat × Nat × Nat)}
    (hown : s.vm.findClass own = some m.cls) (hlink : (Cond.methodLink own index y).before args s = true) (hinst : (Cond.instanceMethod y).before args s = true) (hsel : (Cond.selects C y y).before args s = true)
    (hcode : (Cond.codeWith y bytes maxL ret hh).before args s = true) (hy : y.cls ≠ "java/lang/invoke/MethodHandle" ∧ y.cls ≠ "java/lang/invoke/VarHandle")
    {W9 : Nat} {Pre : Pt → Array Value → Prop} {Post : Pt → Array Value → Option Value → Pt → Prop} {PostX : Pt → Array Value → Addr → Pt → Prop} (hK : vx_Back l R p e below s args y 3 W9 Pre Post PostX)
    {b : Addr} {cellB : Cell} (hcell : T.heap[b]? = some cellB) (hobj : cellB.vm.isStatics = false) (hcls : s.vm.findClass C = some cellB.cls)
    {g : JFrame} (hg : g.method = m) (hsize : g.locals.size = c.maxLocals) {argsL rest : List Value} (hlen : ∀ sig, parseMethodDescriptor y.desc = some sig → argsL.length = sig.parameters.length)
    (hstack : g.stack = argsL.reverse ++ .ref b :: rest) (hW : 2 * g.monitorRoom + (rest.map fun v => v.category).sum ≤ W9) (hdg : decode c.code g.pc = .ok (.invokevirtual index, 3))
    (hpre : ∀ vm₁, s.WarmedH vm₁ → Pre ⟨T.setVm vm₁, locs, cells, slots⟩ (Value.ref b :: argsL).toArray) :
    (∃ (v : Option Value) (vm₁ : Vm) (B : Pt), s.WarmedH vm₁ ∧ Stand p l e R s m args below meth c B.U B.locs B.cells B.slots ∧ Post ⟨T.setVm vm₁, locs, cells, slots⟩ (Value.ref b :: argsL).toArray v B ∧
      ∀ target, Steps p.tables e below (B.U.setTop { g with pc := g.pc + 3, stack := v.toList ++ rest }) target → Steps p.tables e below (T.setTop g) target) ∨
    (∃ (q : Addr) (vm₁ : Vm) (B : Pt), s.WarmedH vm₁ ∧ Stand p l e R s m args below meth c B.U B.locs B.cells B.slots ∧ PostX ⟨T.setVm vm₁, locs, cells, slots⟩ (Value.ref b :: argsL).toArray q B ∧
      Steps p.tables e below (T.setTop g) ((B.U.setTop { g with stack := rest }).pushFrame (.throwing q))) := by
  obtain ⟨mk, methM, hnamed, hmethM, hstM, habM⟩ := Cond.instanceMethod_spec hinst
  obtain ⟨m8, methM', cM, hn8, hmethM', -, -, -, -, -, -, hsigM⟩ := Cond.codeWith_spec hcode
  cases Option.some.inj (hn8.symm.trans hnamed)
  cases hmethM.symm.trans hmethM'
  obtain ⟨c2, r2, m2, q1, q2, q3, q4, kP, hkP, hkPi⟩ := Cond.selects_spec hsel
  cases hcls.symm.trans q1
  cases (State.methodFound?_of_named hnamed hy).symm.trans q2
  cases hnamed.symm.trans q3
  have hselP : selectMethod e.platform s.vm cellB.cls mk = .method mk := by rw [Launch.admits_selectMethod X.admits]; exact q4
  obtain ⟨vm₁, X₁, hstep₁⟩ := X.invokevirtual hexec hown hlink hnamed hmethM hstM hkP hkPi hy (a := b) (cell := cellB) hcell
    (fun z h => by rw [h] at hobj; cases hobj) hselP hmethM habM hkP hkPi (g := g) hg (argsL := argsL) (rest := rest) (hlen _ hsigM) hstack hdg
  rcases hK m meth c ⟨T.setVm vm₁, locs, cells, slots⟩ { g with stack := rest } (.invokevirtual index) mk (Value.ref b :: argsL).toArray X₁ hg hsize hdg hW (X₁.named hnamed) (hpre vm₁ X₁.warmed) with ⟨v, B, X', hpost, hsteps⟩ | ⟨q, B, X', hpost, hsteps⟩
  · exact Or.inl ⟨v, vm₁, B, X₁.warmed, X', hpost, fun target h => hstep₁ _ fun acts => by rw [doInvoke_state]; exact hsteps.trans h⟩
  · exact Or.inr ⟨q, vm₁, B, X₁.warmed, X', hpost, hstep₁ _ fun acts => by rw [doInvoke_state]; exact hsteps⟩
theorem vx_callSX (X : Stand p l e R s m args below meth c T locs cells slots) (hexec : p.tables.exec = Jvm.exec) {own : String} {index : Nat} {y : MethodName} {bytes : ByteArray} {maxL : Nat} {ret : Option FieldType} {hh : List (Nat × Nat × Nat × Nat)}
    (hown : s.vm.findClass own = some m.cls) (hlink : (Cond.methodLink own index y).before args s = true) (hstat : (Cond.static y).before args s = true) (hinit : (Cond.initialized y.cls).before args s = true)
    (hcode : (Cond.codeWith y bytes maxL ret hh).before args s = true) (hy : y.cls ≠ "java/lang/invoke/MethodHandle" ∧ y.cls ≠ "java/lang/invoke/VarHandle")
    {W9 : Nat} {Pre : Pt → Array Value → Prop} {Post : Pt → Array Value → Option Value → Pt → Prop} {PostX : Pt → Array Value → Addr → Pt → Prop} (hK : vx_Back l R p e below s args y 3 W9 Pre Post PostX)
    {g : JFrame} (hg : g.method = m) (hsize : g.locals.size = c.maxLocals) {argsL rest : List Value} (hlen : ∀ sig, parseMethodDescriptor y.desc = some sig → argsL.length = sig.parameters.length)
    (hstack : g.stack = argsL.reverse ++ rest) (hW : 2 * g.monitorRoom + (rest.map fun v => v.category).sum ≤ W9) (hdg : decode c.code g.pc = .ok (.invokestatic index, 3))
    (hpre : ∀ vm₁, s.WarmedH vm₁ → Pre ⟨T.setVm vm₁, locs, cells, slots⟩ argsL.toArray) :
    (∃ (v : Option Value) (vm₁ : Vm) (B : Pt), s.WarmedH vm₁ ∧ Stand p l e R s m args below meth c B.U B.locs B.cells B.slots ∧ Post ⟨T.setVm vm₁, locs, cells, slots⟩ argsL.toArray v B ∧
      ∀ target, Steps p.tables e below (B.U.setTop { g with pc := g.pc + 3, stack := v.toList ++ rest }) target → Steps p.tables e below (T.setTop g) target) ∨
    (∃ (q : Addr) (vm₁ : Vm) (B : Pt), s.WarmedH vm₁ ∧ Stand p l e R s m args below meth c B.U B.locs B.cells B.slots ∧ PostX ⟨T.setVm vm₁, locs, cells, slots⟩ argsL.toArray q B ∧
      Steps p.tables e below (T.setTop g) ((B.U.setTop { g with stack := rest }).pushFrame (.throwing q))) := by
  obtain ⟨mk, methM, cM, hnamed, hmethM, -, -, -, -, -, -, hsigM⟩ := Cond.codeWith_spec hcode
  have hstatic : methM.isStatic = true := Cond.static_spec hnamed hmethM hstat
  obtain ⟨kP, hkP, -⟩ := className_of_methodNamed hnamed
  have hinitP : kP.init = .initialized := Cond.initialized_spec (findClass_of_methodNamed hnamed) hkP hinit
  obtain ⟨vm₁, X₁, hstep₁⟩ := X.invokestatic hexec hown hlink hnamed hmethM hstatic hkP hinitP hy (g := g) hg (argsL := argsL) (rest := rest) (hlen _ hsigM) hstack hdg
  rcases hK m meth c ⟨T.setVm vm₁, locs, cells, slots⟩ { g with stack := rest } (.invokestatic index) mk argsL.toArray X₁ hg hsize hdg hW (X₁.named hnamed) (hpre vm₁ X₁.warmed) with ⟨v, B, X', hpost, hsteps⟩ | ⟨q, B, X', hpost, hsteps⟩
  · exact Or.inl ⟨v, vm₁, B, X₁.warmed, X', hpost, fun target h => hstep₁ _ fun acts => by rw [doInvoke_state]; exact hsteps.trans h⟩
  · exact Or.inr ⟨q, vm₁, B, X₁.warmed, X', hpost, hstep₁ _ fun acts => by rw [doInvoke_state]; exact hsteps⟩
theorem vx_callVW (X : Stand p l e R s m args below meth c T locs cells slots) (hexec : p.tables.exec = Jvm.exec) {own C : String} {index : Nat} {y : MethodName} {bytes : ByteArray} {maxL : Nat} {ret : Option FieldType} {hh : List (Nat × Nat × Nat × Nat)}
    (hown : s.vm.findClass own = some m.cls) (hlink : (Cond.methodLink own index y).before args s = true) (hinst : (Cond.instanceMethod y).before args s = true) (hsel : (Cond.selects C y y).before args s = true)
    (hcode : (Cond.codeWith y bytes maxL ret hh).before args s = true) (hy : y.cls ≠ "java/lang/invoke/MethodHandle" ∧ y.cls ≠ "java/lang/invoke/VarHandle")
    {W9 : Nat} {Pre : Pt → Array Value → Prop} {Post : Pt → Array Value → Option Value → Pt → Prop} (hK : Back l R p e below s args y 3 W9 Pre Post)
    {b : Addr} {cellB : Cell} (hcell : T.heap[b]? = some cellB) (hobj : cellB.vm.isStatics = false) (hcls : s.vm.findClass C = some cellB.cls)
    {g : JFrame} (hg : g.method = m) (hsize : g.locals.size = c.maxLocals) {argsL rest : List Value} (hlen : ∀ sig, parseMethodDescriptor y.desc = some sig → argsL.length = sig.parameters.length)
    (hstack : g.stack = argsL.reverse ++ .ref b :: rest) (hW : 2 * g.monitorRoom + (rest.map fun v => v.category).sum ≤ W9) (hdg : decode c.code g.pc = .ok (.invokevirtual index, 3))
    (hpre : ∀ vm₁, s.WarmedH vm₁ → Pre ⟨T.setVm vm₁, locs, cells, slots⟩ (Value.ref b :: argsL).toArray) :
    ∃ (v : Option Value) (vm₁ : Vm) (B : Pt), s.WarmedH vm₁ ∧ Stand p l e R s m args below meth c B.U B.locs B.cells B.slots ∧ Post ⟨T.setVm vm₁, locs, cells, slots⟩ (Value.ref b :: argsL).toArray v B ∧
      ∀ target, Steps p.tables e below (B.U.setTop { g with pc := g.pc + 3, stack := v.toList ++ rest }) target → Steps p.tables e below (T.setTop g) target := by
  obtain ⟨mk, methM, hnamed, hmethM, hstM, habM⟩ := Cond.instanceMethod_spec hinst
  obtain ⟨m8, methM', cM, hn8, hmethM', -, -, -, -, -, -, hsigM⟩ := Cond.codeWith_spec hcode
  cases Option.some.inj (hn8.symm.trans hnamed)
  cases hmethM.symm.trans hmethM'
  obtain ⟨c2, r2, m2, q1, q2, q3, q4, kP, hkP, hkPi⟩ := Cond.selects_spec hsel
  cases hcls.symm.trans q1
  cases (State.methodFound?_of_named hnamed hy).symm.trans q2
  cases hnamed.symm.trans q3
  have hselP : selectMethod e.platform s.vm cellB.cls mk = .method mk := by rw [Launch.admits_selectMethod X.admits]; exact q4
  obtain ⟨vm₁, X₁, hstep₁⟩ := X.invokevirtual hexec hown hlink hnamed hmethM hstM hkP hkPi hy (a := b) (cell := cellB) hcell
    (fun z h => by rw [h] at hobj; cases hobj) hselP hmethM habM hkP hkPi (g := g) hg (argsL := argsL) (rest := rest) (hlen _ hsigM) hstack hdg
  obtain ⟨v, B, X', hpost, hsteps⟩ := hK m meth c ⟨T.setVm vm₁, locs, cells, slots⟩ { g with stack := rest } (.invokevirtual index) mk (Value.ref b :: argsL).toArray X₁ hg hsize hdg hW (X₁.named hnamed) (hpre vm₁ X₁.warmed)
  exact ⟨v, vm₁, B, X₁.warmed, X', hpost, fun target h => hstep₁ _ fun acts => by rw [doInvoke_state]; exact hsteps.trans h⟩
abbrev vx_CVW (R : Room) (s : State) (args : Array Value) (own C : String) (index : Nat) (y : MethodName) (bytes : ByteArray) (maxL : Nat) (ret : Option FieldType) (hh : List (Nat × Nat × Nat × Nat)) (ws : List Cond) (rm : Room) (mc ms n : Nat) : Prop :=
  (rm.cells = mc ∧ rm.slots = ms ∧ rm.frames + 1 ≤ R.frames ∧ 8 + (maxL + 11) + rm.locals ≤ R.locals ∧ (∀ w ∈ ws, ∀ (a' : Array Value) (U : State), s.WarmedH U.vm → w.before a' U = true) ∧ Cond.codeWith y bytes maxL ret hh ∈ ws) ∧
  (Cond.codeWith y bytes maxL ret hh).before args s = true ∧ (Cond.initialized y.cls).before args s = true ∧ (y.cls ≠ "java/lang/invoke/MethodHandle" ∧ y.cls ≠ "java/lang/invoke/VarHandle") ∧
  (∀ sig, parseMethodDescriptor y.desc = some sig → n = sig.parameters.length) ∧ (Cond.methodLink own index y).before args s = true ∧ (Cond.instanceMethod y).before args s = true ∧ (Cond.selects C y y).before args s = true
theorem vx_cwVW {own C : String} {index maxL mc ms : Nat} {y : MethodName} {bytes : ByteArray} {ret : Option FieldType} {hh : List (Nat × Nat × Nat × Nat)} {Ts ws ws' : List Cond} {rm : Room} (n : Nat) (ht : ∀ w ∈ Ts, w.before args s = true) (hT : GoodIn Ts (wsV own index C y ws)) (hw : ws = Cond.codeWith y bytes maxL ret hh :: ws') (hrc : rm.cells = mc) (hrs : rm.slots = ms)
    (hd : y.cls = C ∧ y.cls ≠ "java/lang/invoke/MethodHandle" ∧ y.cls ≠ "java/lang/invoke/VarHandle" ∧ (parseMethodDescriptor y.desc).map (fun d => d.parameters.length) = some n) (hR : rm.frames + 1 ≤ R.frames ∧ 8 + (maxL + 11) + rm.locals ≤ R.locals) :
    vx_CVW R s args own C index y bytes maxL ret hh ws rm mc ms n := by
  obtain ⟨hC, hd⟩ := hd
  subst hC
  have ok : ∀ w ∈ wsV own index y.cls y ws, w.before args s = true := fun w h => ht w (hT w h).1
  have hG : GoodIn Ts ws := fun w h => hT w (by unfold wsV; exact List.mem_append_right _ h)
  have hc : Cond.codeWith y bytes maxL ret hh ∈ ws := by rw [hw]; exact List.mem_cons_self
  refine ⟨⟨hrc, hrs, hR.1, hR.2, pay_in ht hG, hc⟩, ht _ (hG _ hc).1, ok _ (by simp [wsV]), ⟨hd.1, hd.2.1⟩, fun sig h => ?_, ok _ (by simp [wsV]), ok _ (by simp [wsV]), ok _ (by simp [wsV])⟩
  have h2 := hd.2.2
  rw [h] at h2
  exact (Option.some.inj h2).symm
theorem vx_runVW {y : MethodName} {bytes cc : ByteArray} {maxL nL mc ms n index : Nat} {ret : Option FieldType} {hh : List (Nat × Nat × Nat × Nat)} {ws : List Cond} {rm : Room} {Pc : Array Value → State → Prop} {Qc : Array Value → State → Outcome → State → Prop} {free : Addr → Prop} {Ts : List Cond} {own C : String} {b : Addr} {As rest : List Value} {g : JFrame}
    (S : CallFix p m c cc nL s args Ts own) (hM : Met l y ws rm Pc Qc mc ms free) (cw : vx_CVW R s args own C index y bytes maxL ret hh ws rm mc ms n) (hp : PreV s H C b Pc As)
    (hg : g.method = m) (hn : As.length = n) (hsize : g.locals.size = nL) (hstack : g.stack = As.reverse ++ .ref b :: rest) (hW : 2 * g.monitorRoom + (rest.map fun v => v.category).sum ≤ 8) (hdg : decode cc g.pc = .ok (.invokevirtual index, 3)) (hf : cells + mc ≤ R.cells ∧ slots + ms ≤ R.slots) :
    va_Run p l e R s m args below meth c H locs cells slots mc ms g rest (Qc (Value.ref b :: As).toArray) free := by
  obtain ⟨⟨hrc, hrs, hfr, hlo, hws, hcw⟩, hcode, hini, hy, hlen, hl, hin, hse⟩ := cw
  have hK : Back l R p e below s args y 3 8 (PreOf R mc ms Pc) (PostOf Qc mc ms free) := va_backW (hh := hh) (bytes := bytes) (maxL := maxL) (ret := ret) hM hp.1 hrc hrs hfr hlo hws hcw (fun a' U hW => word_at hW (Or.inl (by first | rfl | simp [Cond.onTables, Cond.keeps, Cond.steady])) hini)
  obtain ⟨hx, hb, hml, ho, -⟩ := S
  obtain ⟨-, ⟨cellB, hcB, hoB, hclB⟩, hPc⟩ := hp
  intro T hT X
  obtain ⟨v, vm₁, ⟨U', l2, c2, s2⟩, hW₁, X', ⟨g', mk, t, L, e1, e2, hq, h1, hL, h2, h3⟩, st⟩ := vx_callVW X hx (C := C) (hh := hh) (bytes := bytes) (maxL := maxL) (ret := ret) ho hl hin hse hcode hy hK (by rw [hT]; exact hcB) hoB hclB hg (hsize.trans hml.symm) (argsL := As) (rest := rest) (fun sig h => hn.trans (hlen sig h)) hstack hW (by rw [hb]; exact hdg)
    (fun vm₁ hW₁ => ⟨hf.1, hf.2, hPc (T.setVm vm₁) hT hW₁⟩)
  dsimp only [Pt.U, Pt.locs, Pt.cells, Pt.slots] at X' e1 e2 h1 h2 h3 st
  subst h1; subst h2; subst h3
  exact ⟨v, (T.setVm vm₁).calling g' mk (Value.ref b :: As).toArray, t, U', L, hT, X', hL, e1, e2, hq, st⟩
section
variable {y : MethodName} {bytes cc : ByteArray} {maxL nL mc ms n index : Nat} {ret : Option FieldType} {ws : List Cond} {rm : Room} {Pc : Array Value → State → Prop} {Qc : Array Value → State → Outcome → State → Prop} {XC : String → State → State → Prop} {free : Addr → Prop} {Ts : List Cond} {own C : String} {b : Addr} {As rest : List Value} {g : JFrame}
theorem vx_runVX {hh : List (Nat × Nat × Nat × Nat)} (S : CallFix p m c cc nL s args Ts own) (hM : vx_Met l y ws rm Pc Qc XC mc ms free) (cw : vx_CVW R s args own C index y bytes maxL ret hh ws rm mc ms n) (hp : PreV s H C b Pc As)
    (hg : g.method = m) (hn : As.length = n) (hsize : g.locals.size = nL) (hstack : g.stack = As.reverse ++ .ref b :: rest) (hW : 2 * g.monitorRoom + (rest.map fun v => v.category).sum ≤ 8) (hdg : decode cc g.pc = .ok (.invokevirtual index, 3)) (hf : cells + mc ≤ R.cells ∧ slots + ms ≤ R.slots) :
    vx_Run p l e R s m args below meth c H locs cells slots mc ms g rest (Qc (Value.ref b :: As).toArray) XC free := by
  obtain ⟨⟨hrc, hrs, hfr, hlo, hws, hcw⟩, hcode, hini, hy, hlen, hl, hin, hse⟩ := cw
  have hK : vx_Back l R p e below s args y 3 8 (PreOf R mc ms Pc) (PostOf Qc mc ms free) (vx_Post XC mc ms free) := vx_backW (hh := hh) (bytes := bytes) (maxL := maxL) (ret := ret) hM hp.1 hrc hrs hfr hlo hws hcw (fun a' U hW => word_at hW (Or.inl (by first | rfl | simp [Cond.onTables, Cond.keeps, Cond.steady])) hini)
  obtain ⟨hx, hb, hml, ho, -⟩ := S
  obtain ⟨-, ⟨cellB, hcB, hoB, hclB⟩, hPc⟩ := hp
  intro T hT X
  rcases vx_callVX X hx (C := C) (hh := hh) (bytes := bytes) (maxL := maxL) (ret := ret) ho hl hin hse hcode hy hK (by rw [hT]; exact hcB) hoB hclB hg (hsize.trans hml.symm) (argsL := As) (rest := rest) (fun sig h => hn.trans (hlen sig h)) hstack hW (by rw [hb]; exact hdg)
    (fun vm₁ hW₁ => ⟨hf.1, hf.2, hPc (T.setVm vm₁) hT hW₁⟩) with ⟨v, vm₁, ⟨U', l2, c2, s2⟩, hW₁, X', ⟨g', mk, t, L, e1, e2, hq, h1, hL, h2, h3⟩, st⟩ | ⟨q, vm₁, ⟨U', l2, c2, s2⟩, hW₁, X', ⟨g', mk, t, L, E, ce, e1, e2, hq, hce, hcv, hcl, h1, hL, h2, h3⟩, st⟩
  · dsimp only [Pt.U, Pt.locs, Pt.cells, Pt.slots] at X' e1 e2 h1 h2 h3 st
    subst h1; subst h2; subst h3
    exact Or.inl ⟨v, (T.setVm vm₁).calling g' mk (Value.ref b :: As).toArray, t, U', L, hT, X', hL, e1, e2, hq, st⟩
  · dsimp only [Pt.U, Pt.locs, Pt.cells, Pt.slots] at X' e1 e2 h1 h2 h3 st hcl
    subst h1; subst h2; subst h3
    exact Or.inr ⟨q, (T.setVm vm₁).calling g' mk (Value.ref b :: As).toArray, t, U', L, E, ce, hT, X', hL, e1, e2, hq, hce, hcv, vx_cls hW₁ hcl, st⟩
theorem vx_runSX {hh : List (Nat × Nat × Nat × Nat)} (S : CallFix p m c cc nL s args Ts own) (hM : vx_Met l y ws rm Pc Qc XC mc ms free) (cw : vx_CSW R s args own index y bytes maxL ret hh ws rm mc ms n) (hp : PreS s H Pc As)
    (hg : g.method = m) (hn : As.length = n) (hsize : g.locals.size = nL) (hstack : g.stack = As.reverse ++ rest) (hW : 2 * g.monitorRoom + (rest.map fun v => v.category).sum ≤ 8) (hdg : decode cc g.pc = .ok (.invokestatic index, 3)) (hf : cells + mc ≤ R.cells ∧ slots + ms ≤ R.slots) :
    vx_Run p l e R s m args below meth c H locs cells slots mc ms g rest (Qc As.toArray) XC free := by
  obtain ⟨⟨hrc, hrs, hfr, hlo, hws, hcw⟩, hcode, hini, hy, hlen, hl, hstt⟩ := cw
  have hK : vx_Back l R p e below s args y 3 8 (PreOf R mc ms Pc) (PostOf Qc mc ms free) (vx_Post XC mc ms free) := vx_backW (hh := hh) (bytes := bytes) (maxL := maxL) (ret := ret) hM hp.1 hrc hrs hfr hlo hws hcw (fun a' U hW => word_at hW (Or.inl (by first | rfl | simp [Cond.onTables, Cond.keeps, Cond.steady])) hini)
  obtain ⟨hx, hb, hml, ho, -⟩ := S
  intro T hT X
  rcases vx_callSX X hx (hh := hh) (bytes := bytes) (maxL := maxL) (ret := ret) ho hl hstt hini hcode hy hK hg (hsize.trans hml.symm) (argsL := As) (rest := rest) (fun sig h => hn.trans (hlen sig h)) hstack hW (by rw [hb]; exact hdg)
    (fun vm₁ hW₁ => ⟨hf.1, hf.2, hp.2 (T.setVm vm₁) hT hW₁⟩) with ⟨v, vm₁, ⟨U', l2, c2, s2⟩, hW₁, X', ⟨g', mk, t, L, e1, e2, hq, h1, hL, h2, h3⟩, st⟩ | ⟨q, vm₁, ⟨U', l2, c2, s2⟩, hW₁, X', ⟨g', mk, t, L, E, ce, e1, e2, hq, hce, hcv, hcl, h1, hL, h2, h3⟩, st⟩
  · dsimp only [Pt.U, Pt.locs, Pt.cells, Pt.slots] at X' e1 e2 h1 h2 h3 st
    subst h1; subst h2; subst h3
    exact Or.inl ⟨v, (T.setVm vm₁).calling g' mk As.toArray, t, U', L, hT, X', hL, e1, e2, hq, st⟩
  · dsimp only [Pt.U, Pt.locs, Pt.cells, Pt.slots] at X' e1 e2 h1 h2 h3 st hcl
    subst h1; subst h2; subst h3
    exact Or.inr ⟨q, (T.setVm vm₁).calling g' mk As.toArray, t, U', L, E, ce, hT, X', hL, e1, e2, hq, hce, hcv, vx_cls hW₁ hcl, st⟩
end
end VXH
theorem vx_ofWH {l : Launch} {y : MethodName} {ws ws' : List Cond} {rm : Room} {Pc : Array Value → State → Prop} {Qc : Array Value → State → Outcome → State → Prop} {XC : String → State → State → Prop} {mc ms : Nat} {free : Addr → Prop} {cc : ByteArray} {maxL : Nat} {ret : Option FieldType} {hh : List (Nat × Nat × Nat × Nat)}
    (hy : plainName y.cls = true) (hw : ws = Cond.codeWith y cc maxL ret hh :: ws')
    (body : ∀ p e s m args below meth c s₁, BodyLoose p l y (headSpec ws rm) cc maxL ret e s m args below meth c s₁ → c.maxLocals = maxL → Pc args s →
      W p l e (headSpec ws rm).room s m args below meth c s.heap [] 0 0 (vx_MQ below Qc XC args s mc ms free) (entryFrame m args maxL)) : vx_Met l y ws rm Pc Qc XC mc ms free := by
  refine MetFree.of_bodyS (code := cc) (maxLocals := maxL) (ret := ret) hy ?_ ?_
  · intro args s m h hn
    obtain ⟨m9, meth, c, hn9, h1, h2, h3, h4, -, h5, h6, -⟩ := Cond.codeWith_spec (atoms_spec (ws := ws) h _ (by rw [hw]; exact List.mem_cons_self))
    cases hn.symm.trans hn9
    exact ⟨meth, c, h1, h2, h3, h4, h5, h6⟩
  · intro p e s m args below meth c s₁ B hml hP _
    have hh0 : s₁.heap = s.heap := by rw [B.state]; rfl
    obtain ⟨t, a1, o, b1, b2, b3⟩ := body p e s m args below meth c s₁ B hml hP s₁ hh0 (Stand.of_body B)
    exact ⟨t, o, a1, b1, b2, b3⟩
/-! ===== END ===== -/
end
section
-- ===== PART A: goes FIRST, ahead of the names: the tables' words, and 'selects' of the private methods out of them =====
/-- a private method of a class that the tables say can be made, by its rows of tables_1 -/
def lw_okq (q : MethodName × Nat) : Prop := (q.1.cls ≠ "java/lang/invoke/MethodHandle" ∧ q.1.cls ≠ "java/lang/invoke/VarHandle") ∧ Cond.instantiable q.1.cls q.2 ∈ tables_1 ∧ Cond.privateMethod q.1 ∈ tables_1 ∧ Cond.instanceMethod q.1 ∈ tables_1
theorem lw_p0 : lw_okq (⟨"java/lang/Throwable", "fillInStackTrace", "(I)Ljava/lang/Throwable;"⟩, 6) := ⟨⟨by decide +kernel, by decide +kernel⟩, List.mem_of_getElem? (i := 343) (by decide +kernel), List.mem_of_getElem? (i := 341) (by decide +kernel), List.mem_of_getElem? (i := 342) (by decide +kernel)⟩
theorem lw_p1 : lw_okq (⟨"ListDesk$Reader", "expression", "(I)V"⟩, 6) := ⟨⟨by decide +kernel, by decide +kernel⟩, List.mem_of_getElem? (i := 154) (by decide +kernel), List.mem_of_getElem? (i := 439) (by decide +kernel), List.mem_of_getElem? (i := 440) (by decide +kernel)⟩
theorem lw_p2 : lw_okq (⟨"ListDesk$Reader", "list", "(II)V"⟩, 6) := ⟨⟨by decide +kernel, by decide +kernel⟩, List.mem_of_getElem? (i := 154) (by decide +kernel), List.mem_of_getElem? (i := 456) (by decide +kernel), List.mem_of_getElem? (i := 457) (by decide +kernel)⟩
theorem lw_p3 : lw_okq (⟨"ListDesk$Reader", "refuse", "(I)V"⟩, 6) := ⟨⟨by decide +kernel, by decide +kernel⟩, List.mem_of_getElem? (i := 154) (by decide +kernel), List.mem_of_getElem? (i := 460) (by decide +kernel), List.mem_of_getElem? (i := 461) (by decide +kernel)⟩
theorem lw_p4 : lw_okq (⟨"ListDesk$Reader", "headWord", "()LListDesk$Word;"⟩, 6) := ⟨⟨by decide +kernel, by decide +kernel⟩, List.mem_of_getElem? (i := 154) (by decide +kernel), List.mem_of_getElem? (i := 467) (by decide +kernel), List.mem_of_getElem? (i := 468) (by decide +kernel)⟩
theorem lw_p5 : lw_okq (⟨"ListDesk$Reader", "call", "(II)V"⟩, 6) := ⟨⟨by decide +kernel, by decide +kernel⟩, List.mem_of_getElem? (i := 154) (by decide +kernel), List.mem_of_getElem? (i := 528) (by decide +kernel), List.mem_of_getElem? (i := 529) (by decide +kernel)⟩
theorem lw_p6 : lw_okq (⟨"ListDesk$Reader", "variableValue", "()V"⟩, 6) := ⟨⟨by decide +kernel, by decide +kernel⟩, List.mem_of_getElem? (i := 154) (by decide +kernel), List.mem_of_getElem? (i := 537) (by decide +kernel), List.mem_of_getElem? (i := 538) (by decide +kernel)⟩
theorem lw_p7 : lw_okq (⟨"ListDesk$Reader", "boundVariable", "()I"⟩, 6) := ⟨⟨by decide +kernel, by decide +kernel⟩, List.mem_of_getElem? (i := 154) (by decide +kernel), List.mem_of_getElem? (i := 541) (by decide +kernel), List.mem_of_getElem? (i := 542) (by decide +kernel)⟩
theorem lw_p8 : lw_okq (⟨"ListDesk$Functions", "take", "(III)I"⟩, 10) := ⟨⟨by decide +kernel, by decide +kernel⟩, List.mem_of_getElem? (i := 95) (by decide +kernel), List.mem_of_getElem? (i := 569) (by decide +kernel), List.mem_of_getElem? (i := 570) (by decide +kernel)⟩
theorem lw_p9 : lw_okq (⟨"ListDesk$Reader", "value", "(III)V"⟩, 6) := ⟨⟨by decide +kernel, by decide +kernel⟩, List.mem_of_getElem? (i := 154) (by decide +kernel), List.mem_of_getElem? (i := 574) (by decide +kernel), List.mem_of_getElem? (i := 575) (by decide +kernel)⟩
theorem lw_p10 : lw_okq (⟨"ListDesk$Reader", "form", "(LListDesk$Word;II)V"⟩, 6) := ⟨⟨by decide +kernel, by decide +kernel⟩, List.mem_of_getElem? (i := 154) (by decide +kernel), List.mem_of_getElem? (i := 579) (by decide +kernel), List.mem_of_getElem? (i := 580) (by decide +kernel)⟩
theorem lw_p11 : lw_okq (⟨"ListDesk$Reader", "lambda", "(II)V"⟩, 6) := ⟨⟨by decide +kernel, by decide +kernel⟩, List.mem_of_getElem? (i := 154) (by decide +kernel), List.mem_of_getElem? (i := 591) (by decide +kernel), List.mem_of_getElem? (i := 592) (by decide +kernel)⟩
theorem lw_p12 : lw_okq (⟨"ListDesk$Reader", "bracket", "(I)V"⟩, 6) := ⟨⟨by decide +kernel, by decide +kernel⟩, List.mem_of_getElem? (i := 154) (by decide +kernel), List.mem_of_getElem? (i := 595) (by decide +kernel), List.mem_of_getElem? (i := 596) (by decide +kernel)⟩
theorem lw_p13 : lw_okq (⟨"ListDesk$Reader", "newLetter", "(I)V"⟩, 6) := ⟨⟨by decide +kernel, by decide +kernel⟩, List.mem_of_getElem? (i := 154) (by decide +kernel), List.mem_of_getElem? (i := 599) (by decide +kernel), List.mem_of_getElem? (i := 600) (by decide +kernel)⟩
theorem lw_p14 : lw_okq (⟨"ListDesk$Reader", "body", "(I)V"⟩, 6) := ⟨⟨by decide +kernel, by decide +kernel⟩, List.mem_of_getElem? (i := 154) (by decide +kernel), List.mem_of_getElem? (i := 624) (by decide +kernel), List.mem_of_getElem? (i := 625) (by decide +kernel)⟩
theorem lw_p15 : lw_okq (⟨"ListDesk$Reader", "forget", "()V"⟩, 6) := ⟨⟨by decide +kernel, by decide +kernel⟩, List.mem_of_getElem? (i := 154) (by decide +kernel), List.mem_of_getElem? (i := 628) (by decide +kernel), List.mem_of_getElem? (i := 629) (by decide +kernel)⟩
def lw_privs_1 : List (MethodName × Nat) := [(⟨"java/lang/Throwable", "fillInStackTrace", "(I)Ljava/lang/Throwable;"⟩, 6), (⟨"ListDesk$Reader", "expression", "(I)V"⟩, 6), (⟨"ListDesk$Reader", "list", "(II)V"⟩, 6), (⟨"ListDesk$Reader", "refuse", "(I)V"⟩, 6), (⟨"ListDesk$Reader", "headWord", "()LListDesk$Word;"⟩, 6), (⟨"ListDesk$Reader", "call", "(II)V"⟩, 6), (⟨"ListDesk$Reader", "variableValue", "()V"⟩, 6), (⟨"ListDesk$Reader", "boundVariable", "()I"⟩, 6), (⟨"ListDesk$Functions", "take", "(III)I"⟩, 10), (⟨"ListDesk$Reader", "value", "(III)V"⟩, 6), (⟨"ListDesk$Reader", "form", "(LListDesk$Word;II)V"⟩, 6), (⟨"ListDesk$Reader", "lambda", "(II)V"⟩, 6), (⟨"ListDesk$Reader", "bracket", "(I)V"⟩, 6), (⟨"ListDesk$Reader", "newLetter", "(I)V"⟩, 6), (⟨"ListDesk$Reader", "body", "(I)V"⟩, 6), (⟨"ListDesk$Reader", "forget", "()V"⟩, 6)]
theorem lw_r1 : ∀ q ∈ lw_privs_1, lw_okq q := List.forall_mem_cons.mpr ⟨lw_p0, List.forall_mem_cons.mpr ⟨lw_p1, List.forall_mem_cons.mpr ⟨lw_p2, List.forall_mem_cons.mpr ⟨lw_p3, List.forall_mem_cons.mpr ⟨lw_p4, List.forall_mem_cons.mpr ⟨lw_p5, List.forall_mem_cons.mpr ⟨lw_p6, List.forall_mem_cons.mpr ⟨lw_p7, List.forall_mem_cons.mpr ⟨lw_p8, List.forall_mem_cons.mpr ⟨lw_p9, List.forall_mem_cons.mpr ⟨lw_p10, List.forall_mem_cons.mpr ⟨lw_p11, List.forall_mem_cons.mpr ⟨lw_p12, List.forall_mem_cons.mpr ⟨lw_p13, List.forall_mem_cons.mpr ⟨lw_p14, List.forall_mem_cons.mpr ⟨lw_p15, fun _ h => absurd h List.not_mem_nil⟩⟩⟩⟩⟩⟩⟩⟩⟩⟩⟩⟩⟩⟩⟩⟩
theorem lw_p16 : lw_okq (⟨"ListDesk$Reader", "choice", "(II)V"⟩, 6) := ⟨⟨by decide +kernel, by decide +kernel⟩, List.mem_of_getElem? (i := 154) (by decide +kernel), List.mem_of_getElem? (i := 640) (by decide +kernel), List.mem_of_getElem? (i := 641) (by decide +kernel)⟩
theorem lw_p17 : lw_okq (⟨"ListDesk$Reader", "let", "(II)V"⟩, 6) := ⟨⟨by decide +kernel, by decide +kernel⟩, List.mem_of_getElem? (i := 154) (by decide +kernel), List.mem_of_getElem? (i := 648) (by decide +kernel), List.mem_of_getElem? (i := 649) (by decide +kernel)⟩
theorem lw_p18 : lw_okq (⟨"ListDesk$Reader", "newVariable", "(II)V"⟩, 6) := ⟨⟨by decide +kernel, by decide +kernel⟩, List.mem_of_getElem? (i := 154) (by decide +kernel), List.mem_of_getElem? (i := 652) (by decide +kernel), List.mem_of_getElem? (i := 653) (by decide +kernel)⟩
theorem lw_p19 : lw_okq (⟨"ListDesk$Reader", "leave", "(I)V"⟩, 6) := ⟨⟨by decide +kernel, by decide +kernel⟩, List.mem_of_getElem? (i := 154) (by decide +kernel), List.mem_of_getElem? (i := 656) (by decide +kernel), List.mem_of_getElem? (i := 657) (by decide +kernel)⟩
theorem lw_p20 : lw_okq (⟨"ListDesk$Reader", "letrec", "(II)V"⟩, 6) := ⟨⟨by decide +kernel, by decide +kernel⟩, List.mem_of_getElem? (i := 154) (by decide +kernel), List.mem_of_getElem? (i := 660) (by decide +kernel), List.mem_of_getElem? (i := 661) (by decide +kernel)⟩
theorem lw_p21 : lw_okq (⟨"ListDesk$Reader", "change", "(II)V"⟩, 6) := ⟨⟨by decide +kernel, by decide +kernel⟩, List.mem_of_getElem? (i := 154) (by decide +kernel), List.mem_of_getElem? (i := 670) (by decide +kernel), List.mem_of_getElem? (i := 671) (by decide +kernel)⟩
theorem lw_p22 : lw_okq (⟨"ListDesk$Reader", "primitive", "(LListDesk$Word;II)V"⟩, 6) := ⟨⟨by decide +kernel, by decide +kernel⟩, List.mem_of_getElem? (i := 154) (by decide +kernel), List.mem_of_getElem? (i := 674) (by decide +kernel), List.mem_of_getElem? (i := 675) (by decide +kernel)⟩
theorem lw_p23 : lw_okq (⟨"ListDesk$Reader", "readNumber", "()I"⟩, 6) := ⟨⟨by decide +kernel, by decide +kernel⟩, List.mem_of_getElem? (i := 154) (by decide +kernel), List.mem_of_getElem? (i := 685) (by decide +kernel), List.mem_of_getElem? (i := 686) (by decide +kernel)⟩
theorem lw_p24 : lw_okq (⟨"ListDesk$Code", "leadsToReturn", "(I)Z"⟩, 4) := ⟨⟨by decide +kernel, by decide +kernel⟩, List.mem_of_getElem? (i := 35) (by decide +kernel), List.mem_of_getElem? (i := 703) (by decide +kernel), List.mem_of_getElem? (i := 704) (by decide +kernel)⟩
theorem lw_p25 : lw_okq (⟨"ListDesk$Machine", "beginExpression", "(III)V"⟩, 15) := ⟨⟨by decide +kernel, by decide +kernel⟩, List.mem_of_getElem? (i := 180) (by decide +kernel), List.mem_of_getElem? (i := 727) (by decide +kernel), List.mem_of_getElem? (i := 728) (by decide +kernel)⟩
theorem lw_p26 : lw_okq (⟨"ListDesk$Machine", "push", "(J)V"⟩, 15) := ⟨⟨by decide +kernel, by decide +kernel⟩, List.mem_of_getElem? (i := 180) (by decide +kernel), List.mem_of_getElem? (i := 735) (by decide +kernel), List.mem_of_getElem? (i := 736) (by decide +kernel)⟩
theorem lw_p27 : lw_okq (⟨"ListDesk$Machine", "find", "(I)J"⟩, 15) := ⟨⟨by decide +kernel, by decide +kernel⟩, List.mem_of_getElem? (i := 180) (by decide +kernel), List.mem_of_getElem? (i := 743) (by decide +kernel), List.mem_of_getElem? (i := 744) (by decide +kernel)⟩
theorem lw_p28 : lw_okq (⟨"ListDesk$Machine", "inStack", "(I)J"⟩, 15) := ⟨⟨by decide +kernel, by decide +kernel⟩, List.mem_of_getElem? (i := 180) (by decide +kernel), List.mem_of_getElem? (i := 747) (by decide +kernel), List.mem_of_getElem? (i := 748) (by decide +kernel)⟩
theorem lw_p29 : lw_okq (⟨"ListDesk$Machine", "makeFunction", "(II)V"⟩, 15) := ⟨⟨by decide +kernel, by decide +kernel⟩, List.mem_of_getElem? (i := 180) (by decide +kernel), List.mem_of_getElem? (i := 769) (by decide +kernel), List.mem_of_getElem? (i := 770) (by decide +kernel)⟩
theorem lw_p30 : lw_okq (⟨"ListDesk$Machine", "stop", "(II)V"⟩, 15) := ⟨⟨by decide +kernel, by decide +kernel⟩, List.mem_of_getElem? (i := 180) (by decide +kernel), List.mem_of_getElem? (i := 781) (by decide +kernel), List.mem_of_getElem? (i := 782) (by decide +kernel)⟩
theorem lw_p31 : lw_okq (⟨"ListDesk$Machine", "pushObject", "(JI)V"⟩, 15) := ⟨⟨by decide +kernel, by decide +kernel⟩, List.mem_of_getElem? (i := 180) (by decide +kernel), List.mem_of_getElem? (i := 801) (by decide +kernel), List.mem_of_getElem? (i := 802) (by decide +kernel)⟩
def lw_privs_2 : List (MethodName × Nat) := [(⟨"ListDesk$Reader", "choice", "(II)V"⟩, 6), (⟨"ListDesk$Reader", "let", "(II)V"⟩, 6), (⟨"ListDesk$Reader", "newVariable", "(II)V"⟩, 6), (⟨"ListDesk$Reader", "leave", "(I)V"⟩, 6), (⟨"ListDesk$Reader", "letrec", "(II)V"⟩, 6), (⟨"ListDesk$Reader", "change", "(II)V"⟩, 6), (⟨"ListDesk$Reader", "primitive", "(LListDesk$Word;II)V"⟩, 6), (⟨"ListDesk$Reader", "readNumber", "()I"⟩, 6), (⟨"ListDesk$Code", "leadsToReturn", "(I)Z"⟩, 4), (⟨"ListDesk$Machine", "beginExpression", "(III)V"⟩, 15), (⟨"ListDesk$Machine", "push", "(J)V"⟩, 15), (⟨"ListDesk$Machine", "find", "(I)J"⟩, 15), (⟨"ListDesk$Machine", "inStack", "(I)J"⟩, 15), (⟨"ListDesk$Machine", "makeFunction", "(II)V"⟩, 15), (⟨"ListDesk$Machine", "stop", "(II)V"⟩, 15), (⟨"ListDesk$Machine", "pushObject", "(JI)V"⟩, 15)]
theorem lw_r2 : ∀ q ∈ lw_privs_2, lw_okq q := List.forall_mem_cons.mpr ⟨lw_p16, List.forall_mem_cons.mpr ⟨lw_p17, List.forall_mem_cons.mpr ⟨lw_p18, List.forall_mem_cons.mpr ⟨lw_p19, List.forall_mem_cons.mpr ⟨lw_p20, List.forall_mem_cons.mpr ⟨lw_p21, List.forall_mem_cons.mpr ⟨lw_p22, List.forall_mem_cons.mpr ⟨lw_p23, List.forall_mem_cons.mpr ⟨lw_p24, List.forall_mem_cons.mpr ⟨lw_p25, List.forall_mem_cons.mpr ⟨lw_p26, List.forall_mem_cons.mpr ⟨lw_p27, List.forall_mem_cons.mpr ⟨lw_p28, List.forall_mem_cons.mpr ⟨lw_p29, List.forall_mem_cons.mpr ⟨lw_p30, List.forall_mem_cons.mpr ⟨lw_p31, fun _ h => absurd h List.not_mem_nil⟩⟩⟩⟩⟩⟩⟩⟩⟩⟩⟩⟩⟩⟩⟩⟩
theorem lw_p32 : lw_okq (⟨"ListDesk$Machine", "obey", "(III)V"⟩, 15) := ⟨⟨by decide +kernel, by decide +kernel⟩, List.mem_of_getElem? (i := 180) (by decide +kernel), List.mem_of_getElem? (i := 805) (by decide +kernel), List.mem_of_getElem? (i := 806) (by decide +kernel)⟩
theorem lw_p33 : lw_okq (⟨"ListDesk$Machine", "pop", "()J"⟩, 15) := ⟨⟨by decide +kernel, by decide +kernel⟩, List.mem_of_getElem? (i := 180) (by decide +kernel), List.mem_of_getElem? (i := 809) (by decide +kernel), List.mem_of_getElem? (i := 810) (by decide +kernel)⟩
theorem lw_p34 : lw_okq (⟨"ListDesk$Machine", "bind", "(II)V"⟩, 15) := ⟨⟨by decide +kernel, by decide +kernel⟩, List.mem_of_getElem? (i := 180) (by decide +kernel), List.mem_of_getElem? (i := 813) (by decide +kernel), List.mem_of_getElem? (i := 814) (by decide +kernel)⟩
theorem lw_p35 : lw_okq (⟨"ListDesk$Machine", "dropTo", "(I)V"⟩, 15) := ⟨⟨by decide +kernel, by decide +kernel⟩, List.mem_of_getElem? (i := 180) (by decide +kernel), List.mem_of_getElem? (i := 826) (by decide +kernel), List.mem_of_getElem? (i := 827) (by decide +kernel)⟩
theorem lw_p36 : lw_okq (⟨"ListDesk$Machine", "call", "(IZI)V"⟩, 15) := ⟨⟨by decide +kernel, by decide +kernel⟩, List.mem_of_getElem? (i := 180) (by decide +kernel), List.mem_of_getElem? (i := 830) (by decide +kernel), List.mem_of_getElem? (i := 831) (by decide +kernel)⟩
theorem lw_p37 : lw_okq (⟨"ListDesk$Machine", "replaceFrame", "(I)V"⟩, 15) := ⟨⟨by decide +kernel, by decide +kernel⟩, List.mem_of_getElem? (i := 180) (by decide +kernel), List.mem_of_getElem? (i := 843) (by decide +kernel), List.mem_of_getElem? (i := 844) (by decide +kernel)⟩
theorem lw_p38 : lw_okq (⟨"ListDesk$Machine", "addFrame", "(I)V"⟩, 15) := ⟨⟨by decide +kernel, by decide +kernel⟩, List.mem_of_getElem? (i := 180) (by decide +kernel), List.mem_of_getElem? (i := 847) (by decide +kernel), List.mem_of_getElem? (i := 848) (by decide +kernel)⟩
theorem lw_p39 : lw_okq (⟨"ListDesk$Machine", "goBack", "()V"⟩, 15) := ⟨⟨by decide +kernel, by decide +kernel⟩, List.mem_of_getElem? (i := 180) (by decide +kernel), List.mem_of_getElem? (i := 860) (by decide +kernel), List.mem_of_getElem? (i := 861) (by decide +kernel)⟩
theorem lw_p40 : lw_okq (⟨"ListDesk$Machine", "primitiveOfOne", "(II)V"⟩, 15) := ⟨⟨by decide +kernel, by decide +kernel⟩, List.mem_of_getElem? (i := 180) (by decide +kernel), List.mem_of_getElem? (i := 864) (by decide +kernel), List.mem_of_getElem? (i := 865) (by decide +kernel)⟩
theorem lw_p41 : lw_okq (⟨"ListDesk$Machine", "putOut", "(JI)V"⟩, 15) := ⟨⟨by decide +kernel, by decide +kernel⟩, List.mem_of_getElem? (i := 180) (by decide +kernel), List.mem_of_getElem? (i := 872) (by decide +kernel), List.mem_of_getElem? (i := 873) (by decide +kernel)⟩
theorem lw_p42 : lw_okq (⟨"ListDesk$Machine", "takeApart", "(IJI)V"⟩, 15) := ⟨⟨by decide +kernel, by decide +kernel⟩, List.mem_of_getElem? (i := 180) (by decide +kernel), List.mem_of_getElem? (i := 882) (by decide +kernel), List.mem_of_getElem? (i := 883) (by decide +kernel)⟩
theorem lw_p43 : lw_okq (⟨"ListDesk$Machine", "primitiveOfTwo", "(II)V"⟩, 15) := ⟨⟨by decide +kernel, by decide +kernel⟩, List.mem_of_getElem? (i := 180) (by decide +kernel), List.mem_of_getElem? (i := 894) (by decide +kernel), List.mem_of_getElem? (i := 895) (by decide +kernel)⟩
theorem lw_p44 : lw_okq (⟨"ListDesk", "checkWay", "(I)V"⟩, 3) := ⟨⟨by decide +kernel, by decide +kernel⟩, List.mem_of_getElem? (i := 27) (by decide +kernel), List.mem_of_getElem? (i := 949) (by decide +kernel), List.mem_of_getElem? (i := 950) (by decide +kernel)⟩
theorem lw_p45 : lw_okq (⟨"ListDeskModel", "throwing", "(ZZ)Z"⟩, 58) := ⟨⟨by decide +kernel, by decide +kernel⟩, List.mem_of_getElem? (i := 969) (by decide +kernel), List.mem_of_getElem? (i := 1162) (by decide +kernel), List.mem_of_getElem? (i := 1163) (by decide +kernel)⟩
theorem lw_p46 : lw_okq (⟨"ListDeskModel", "readProgram", "()V"⟩, 58) := ⟨⟨by decide +kernel, by decide +kernel⟩, List.mem_of_getElem? (i := 969) (by decide +kernel), List.mem_of_getElem? (i := 1170) (by decide +kernel), List.mem_of_getElem? (i := 1171) (by decide +kernel)⟩
theorem lw_p47 : lw_okq (⟨"ListDeskModel", "node", "(III)I"⟩, 58) := ⟨⟨by decide +kernel, by decide +kernel⟩, List.mem_of_getElem? (i := 969) (by decide +kernel), List.mem_of_getElem? (i := 1174) (by decide +kernel), List.mem_of_getElem? (i := 1175) (by decide +kernel)⟩
def lw_privs_3 : List (MethodName × Nat) := [(⟨"ListDesk$Machine", "obey", "(III)V"⟩, 15), (⟨"ListDesk$Machine", "pop", "()J"⟩, 15), (⟨"ListDesk$Machine", "bind", "(II)V"⟩, 15), (⟨"ListDesk$Machine", "dropTo", "(I)V"⟩, 15), (⟨"ListDesk$Machine", "call", "(IZI)V"⟩, 15), (⟨"ListDesk$Machine", "replaceFrame", "(I)V"⟩, 15), (⟨"ListDesk$Machine", "addFrame", "(I)V"⟩, 15), (⟨"ListDesk$Machine", "goBack", "()V"⟩, 15), (⟨"ListDesk$Machine", "primitiveOfOne", "(II)V"⟩, 15), (⟨"ListDesk$Machine", "putOut", "(JI)V"⟩, 15), (⟨"ListDesk$Machine", "takeApart", "(IJI)V"⟩, 15), (⟨"ListDesk$Machine", "primitiveOfTwo", "(II)V"⟩, 15), (⟨"ListDesk", "checkWay", "(I)V"⟩, 3), (⟨"ListDeskModel", "throwing", "(ZZ)Z"⟩, 58), (⟨"ListDeskModel", "readProgram", "()V"⟩, 58), (⟨"ListDeskModel", "node", "(III)I"⟩, 58)]
theorem lw_r3 : ∀ q ∈ lw_privs_3, lw_okq q := List.forall_mem_cons.mpr ⟨lw_p32, List.forall_mem_cons.mpr ⟨lw_p33, List.forall_mem_cons.mpr ⟨lw_p34, List.forall_mem_cons.mpr ⟨lw_p35, List.forall_mem_cons.mpr ⟨lw_p36, List.forall_mem_cons.mpr ⟨lw_p37, List.forall_mem_cons.mpr ⟨lw_p38, List.forall_mem_cons.mpr ⟨lw_p39, List.forall_mem_cons.mpr ⟨lw_p40, List.forall_mem_cons.mpr ⟨lw_p41, List.forall_mem_cons.mpr ⟨lw_p42, List.forall_mem_cons.mpr ⟨lw_p43, List.forall_mem_cons.mpr ⟨lw_p44, List.forall_mem_cons.mpr ⟨lw_p45, List.forall_mem_cons.mpr ⟨lw_p46, List.forall_mem_cons.mpr ⟨lw_p47, fun _ h => absurd h List.not_mem_nil⟩⟩⟩⟩⟩⟩⟩⟩⟩⟩⟩⟩⟩⟩⟩⟩
theorem lw_p48 : lw_okq (⟨"ListDeskModel", "see", "()I"⟩, 58) := ⟨⟨by decide +kernel, by decide +kernel⟩, List.mem_of_getElem? (i := 969) (by decide +kernel), List.mem_of_getElem? (i := 1178) (by decide +kernel), List.mem_of_getElem? (i := 1179) (by decide +kernel)⟩
theorem lw_p49 : lw_okq (⟨"ListDeskModel", "behindVariables", "(I)I"⟩, 58) := ⟨⟨by decide +kernel, by decide +kernel⟩, List.mem_of_getElem? (i := 969) (by decide +kernel), List.mem_of_getElem? (i := 1182) (by decide +kernel), List.mem_of_getElem? (i := 1183) (by decide +kernel)⟩
theorem lw_p50 : lw_okq (⟨"ListDeskModel", "fail", "(I)V"⟩, 58) := ⟨⟨by decide +kernel, by decide +kernel⟩, List.mem_of_getElem? (i := 969) (by decide +kernel), List.mem_of_getElem? (i := 1192) (by decide +kernel), List.mem_of_getElem? (i := 1193) (by decide +kernel)⟩
theorem lw_p51 : lw_okq (⟨"ListDeskModel", "complete", "(I)V"⟩, 58) := ⟨⟨by decide +kernel, by decide +kernel⟩, List.mem_of_getElem? (i := 969) (by decide +kernel), List.mem_of_getElem? (i := 1196) (by decide +kernel), List.mem_of_getElem? (i := 1197) (by decide +kernel)⟩
theorem lw_p52 : lw_okq (⟨"ListDeskModel", "hang", "(II)V"⟩, 58) := ⟨⟨by decide +kernel, by decide +kernel⟩, List.mem_of_getElem? (i := 969) (by decide +kernel), List.mem_of_getElem? (i := 1200) (by decide +kernel), List.mem_of_getElem? (i := 1201) (by decide +kernel)⟩
theorem lw_p53 : lw_okq (⟨"ListDeskModel", "sign", "(I)V"⟩, 58) := ⟨⟨by decide +kernel, by decide +kernel⟩, List.mem_of_getElem? (i := 969) (by decide +kernel), List.mem_of_getElem? (i := 1204) (by decide +kernel), List.mem_of_getElem? (i := 1205) (by decide +kernel)⟩
theorem lw_p54 : lw_okq (⟨"ListDeskModel", "recall", "(I)V"⟩, 58) := ⟨⟨by decide +kernel, by decide +kernel⟩, List.mem_of_getElem? (i := 969) (by decide +kernel), List.mem_of_getElem? (i := 1208) (by decide +kernel), List.mem_of_getElem? (i := 1209) (by decide +kernel)⟩
theorem lw_p55 : lw_okq (⟨"ListDeskModel", "tell", "(I)V"⟩, 58) := ⟨⟨by decide +kernel, by decide +kernel⟩, List.mem_of_getElem? (i := 969) (by decide +kernel), List.mem_of_getElem? (i := 1212) (by decide +kernel), List.mem_of_getElem? (i := 1213) (by decide +kernel)⟩
theorem lw_p56 : lw_okq (⟨"ListDeskModel", "word", "()V"⟩, 58) := ⟨⟨by decide +kernel, by decide +kernel⟩, List.mem_of_getElem? (i := 969) (by decide +kernel), List.mem_of_getElem? (i := 1216) (by decide +kernel), List.mem_of_getElem? (i := 1217) (by decide +kernel)⟩
theorem lw_p57 : lw_okq (⟨"ListDeskModel", "isLetter", "()Z"⟩, 58) := ⟨⟨by decide +kernel, by decide +kernel⟩, List.mem_of_getElem? (i := 969) (by decide +kernel), List.mem_of_getElem? (i := 1220) (by decide +kernel), List.mem_of_getElem? (i := 1221) (by decide +kernel)⟩
theorem lw_p58 : lw_okq (⟨"ListDeskModel", "bindAll", "(I)V"⟩, 58) := ⟨⟨by decide +kernel, by decide +kernel⟩, List.mem_of_getElem? (i := 969) (by decide +kernel), List.mem_of_getElem? (i := 1224) (by decide +kernel), List.mem_of_getElem? (i := 1225) (by decide +kernel)⟩
theorem lw_p59 : lw_okq (⟨"ListDeskModel", "list", "()V"⟩, 58) := ⟨⟨by decide +kernel, by decide +kernel⟩, List.mem_of_getElem? (i := 969) (by decide +kernel), List.mem_of_getElem? (i := 1228) (by decide +kernel), List.mem_of_getElem? (i := 1229) (by decide +kernel)⟩
theorem lw_p60 : lw_okq (⟨"ListDeskModel", "push", "(I)V"⟩, 58) := ⟨⟨by decide +kernel, by decide +kernel⟩, List.mem_of_getElem? (i := 969) (by decide +kernel), List.mem_of_getElem? (i := 1232) (by decide +kernel), List.mem_of_getElem? (i := 1233) (by decide +kernel)⟩
theorem lw_p61 : lw_okq (⟨"ListDeskModel", "keyword", "()I"⟩, 58) := ⟨⟨by decide +kernel, by decide +kernel⟩, List.mem_of_getElem? (i := 969) (by decide +kernel), List.mem_of_getElem? (i := 1236) (by decide +kernel), List.mem_of_getElem? (i := 1237) (by decide +kernel)⟩
theorem lw_p62 : lw_okq (⟨"ListDeskModel", "isWord", "(IIIIII)Z"⟩, 58) := ⟨⟨by decide +kernel, by decide +kernel⟩, List.mem_of_getElem? (i := 969) (by decide +kernel), List.mem_of_getElem? (i := 1240) (by decide +kernel), List.mem_of_getElem? (i := 1241) (by decide +kernel)⟩
theorem lw_p63 : lw_okq (⟨"ListDeskModel", "primitive", "()I"⟩, 58) := ⟨⟨by decide +kernel, by decide +kernel⟩, List.mem_of_getElem? (i := 969) (by decide +kernel), List.mem_of_getElem? (i := 1244) (by decide +kernel), List.mem_of_getElem? (i := 1245) (by decide +kernel)⟩
def lw_privs_4 : List (MethodName × Nat) := [(⟨"ListDeskModel", "see", "()I"⟩, 58), (⟨"ListDeskModel", "behindVariables", "(I)I"⟩, 58), (⟨"ListDeskModel", "fail", "(I)V"⟩, 58), (⟨"ListDeskModel", "complete", "(I)V"⟩, 58), (⟨"ListDeskModel", "hang", "(II)V"⟩, 58), (⟨"ListDeskModel", "sign", "(I)V"⟩, 58), (⟨"ListDeskModel", "recall", "(I)V"⟩, 58), (⟨"ListDeskModel", "tell", "(I)V"⟩, 58), (⟨"ListDeskModel", "word", "()V"⟩, 58), (⟨"ListDeskModel", "isLetter", "()Z"⟩, 58), (⟨"ListDeskModel", "bindAll", "(I)V"⟩, 58), (⟨"ListDeskModel", "list", "()V"⟩, 58), (⟨"ListDeskModel", "push", "(I)V"⟩, 58), (⟨"ListDeskModel", "keyword", "()I"⟩, 58), (⟨"ListDeskModel", "isWord", "(IIIIII)Z"⟩, 58), (⟨"ListDeskModel", "primitive", "()I"⟩, 58)]
theorem lw_r4 : ∀ q ∈ lw_privs_4, lw_okq q := List.forall_mem_cons.mpr ⟨lw_p48, List.forall_mem_cons.mpr ⟨lw_p49, List.forall_mem_cons.mpr ⟨lw_p50, List.forall_mem_cons.mpr ⟨lw_p51, List.forall_mem_cons.mpr ⟨lw_p52, List.forall_mem_cons.mpr ⟨lw_p53, List.forall_mem_cons.mpr ⟨lw_p54, List.forall_mem_cons.mpr ⟨lw_p55, List.forall_mem_cons.mpr ⟨lw_p56, List.forall_mem_cons.mpr ⟨lw_p57, List.forall_mem_cons.mpr ⟨lw_p58, List.forall_mem_cons.mpr ⟨lw_p59, List.forall_mem_cons.mpr ⟨lw_p60, List.forall_mem_cons.mpr ⟨lw_p61, List.forall_mem_cons.mpr ⟨lw_p62, List.forall_mem_cons.mpr ⟨lw_p63, fun _ h => absurd h List.not_mem_nil⟩⟩⟩⟩⟩⟩⟩⟩⟩⟩⟩⟩⟩⟩⟩⟩
theorem lw_p64 : lw_okq (⟨"ListDeskModel", "lookUp", "(I)I"⟩, 58) := ⟨⟨by decide +kernel, by decide +kernel⟩, List.mem_of_getElem? (i := 969) (by decide +kernel), List.mem_of_getElem? (i := 1248) (by decide +kernel), List.mem_of_getElem? (i := 1249) (by decide +kernel)⟩
theorem lw_p65 : lw_okq (⟨"ListDeskModel", "expression", "()V"⟩, 58) := ⟨⟨by decide +kernel, by decide +kernel⟩, List.mem_of_getElem? (i := 969) (by decide +kernel), List.mem_of_getElem? (i := 1252) (by decide +kernel), List.mem_of_getElem? (i := 1253) (by decide +kernel)⟩
theorem lw_p66 : lw_okq (⟨"ListDeskModel", "markEnds", "()V"⟩, 58) := ⟨⟨by decide +kernel, by decide +kernel⟩, List.mem_of_getElem? (i := 969) (by decide +kernel), List.mem_of_getElem? (i := 1256) (by decide +kernel), List.mem_of_getElem? (i := 1257) (by decide +kernel)⟩
theorem lw_p67 : lw_okq (⟨"ListDeskModel", "sequence", "(I)V"⟩, 58) := ⟨⟨by decide +kernel, by decide +kernel⟩, List.mem_of_getElem? (i := 969) (by decide +kernel), List.mem_of_getElem? (i := 1260) (by decide +kernel), List.mem_of_getElem? (i := 1261) (by decide +kernel)⟩
theorem lw_p68 : lw_okq (⟨"ListDeskModel", "waitFor", "(II)V"⟩, 58) := ⟨⟨by decide +kernel, by decide +kernel⟩, List.mem_of_getElem? (i := 969) (by decide +kernel), List.mem_of_getElem? (i := 1264) (by decide +kernel), List.mem_of_getElem? (i := 1265) (by decide +kernel)⟩
theorem lw_p69 : lw_okq (⟨"ListDeskModel", "begin", "()V"⟩, 58) := ⟨⟨by decide +kernel, by decide +kernel⟩, List.mem_of_getElem? (i := 969) (by decide +kernel), List.mem_of_getElem? (i := 1272) (by decide +kernel), List.mem_of_getElem? (i := 1273) (by decide +kernel)⟩
theorem lw_p70 : lw_okq (⟨"ListDeskModel", "find", "(I)I"⟩, 58) := ⟨⟨by decide +kernel, by decide +kernel⟩, List.mem_of_getElem? (i := 969) (by decide +kernel), List.mem_of_getElem? (i := 1283) (by decide +kernel), List.mem_of_getElem? (i := 1284) (by decide +kernel)⟩
theorem lw_p71 : lw_okq (⟨"ListDeskModel", "objects", "(II)Z"⟩, 58) := ⟨⟨by decide +kernel, by decide +kernel⟩, List.mem_of_getElem? (i := 969) (by decide +kernel), List.mem_of_getElem? (i := 1287) (by decide +kernel), List.mem_of_getElem? (i := 1288) (by decide +kernel)⟩
theorem lw_p72 : lw_okq (⟨"ListDeskModel", "stop", "(II)V"⟩, 58) := ⟨⟨by decide +kernel, by decide +kernel⟩, List.mem_of_getElem? (i := 969) (by decide +kernel), List.mem_of_getElem? (i := 1291) (by decide +kernel), List.mem_of_getElem? (i := 1292) (by decide +kernel)⟩
theorem lw_p73 : lw_okq (⟨"ListDeskModel", "bind", "(IJI)I"⟩, 58) := ⟨⟨by decide +kernel, by decide +kernel⟩, List.mem_of_getElem? (i := 969) (by decide +kernel), List.mem_of_getElem? (i := 1295) (by decide +kernel), List.mem_of_getElem? (i := 1296) (by decide +kernel)⟩
theorem lw_p74 : lw_okq (⟨"ListDeskModel", "gather", "(I)V"⟩, 58) := ⟨⟨by decide +kernel, by decide +kernel⟩, List.mem_of_getElem? (i := 969) (by decide +kernel), List.mem_of_getElem? (i := 1299) (by decide +kernel), List.mem_of_getElem? (i := 1300) (by decide +kernel)⟩
theorem lw_p75 : lw_okq (⟨"ListDeskModel", "see", "(I)V"⟩, 58) := ⟨⟨by decide +kernel, by decide +kernel⟩, List.mem_of_getElem? (i := 969) (by decide +kernel), List.mem_of_getElem? (i := 1303) (by decide +kernel), List.mem_of_getElem? (i := 1304) (by decide +kernel)⟩
theorem lw_p76 : lw_okq (⟨"ListDeskModel", "give", "()V"⟩, 58) := ⟨⟨by decide +kernel, by decide +kernel⟩, List.mem_of_getElem? (i := 969) (by decide +kernel), List.mem_of_getElem? (i := 1308) (by decide +kernel), List.mem_of_getElem? (i := 1309) (by decide +kernel)⟩
theorem lw_p77 : lw_okq (⟨"ListDeskModel", "bindLet", "(I)V"⟩, 58) := ⟨⟨by decide +kernel, by decide +kernel⟩, List.mem_of_getElem? (i := 969) (by decide +kernel), List.mem_of_getElem? (i := 1312) (by decide +kernel), List.mem_of_getElem? (i := 1313) (by decide +kernel)⟩
theorem lw_p78 : lw_okq (⟨"ListDeskModel", "countsOf", "(I)I"⟩, 58) := ⟨⟨by decide +kernel, by decide +kernel⟩, List.mem_of_getElem? (i := 969) (by decide +kernel), List.mem_of_getElem? (i := 1316) (by decide +kernel), List.mem_of_getElem? (i := 1317) (by decide +kernel)⟩
theorem lw_p79 : lw_okq (⟨"ListDeskModel", "bodyOf", "(I)I"⟩, 58) := ⟨⟨by decide +kernel, by decide +kernel⟩, List.mem_of_getElem? (i := 969) (by decide +kernel), List.mem_of_getElem? (i := 1320) (by decide +kernel), List.mem_of_getElem? (i := 1321) (by decide +kernel)⟩
def lw_privs_5 : List (MethodName × Nat) := [(⟨"ListDeskModel", "lookUp", "(I)I"⟩, 58), (⟨"ListDeskModel", "expression", "()V"⟩, 58), (⟨"ListDeskModel", "markEnds", "()V"⟩, 58), (⟨"ListDeskModel", "sequence", "(I)V"⟩, 58), (⟨"ListDeskModel", "waitFor", "(II)V"⟩, 58), (⟨"ListDeskModel", "begin", "()V"⟩, 58), (⟨"ListDeskModel", "find", "(I)I"⟩, 58), (⟨"ListDeskModel", "objects", "(II)Z"⟩, 58), (⟨"ListDeskModel", "stop", "(II)V"⟩, 58), (⟨"ListDeskModel", "bind", "(IJI)I"⟩, 58), (⟨"ListDeskModel", "gather", "(I)V"⟩, 58), (⟨"ListDeskModel", "see", "(I)V"⟩, 58), (⟨"ListDeskModel", "give", "()V"⟩, 58), (⟨"ListDeskModel", "bindLet", "(I)V"⟩, 58), (⟨"ListDeskModel", "countsOf", "(I)I"⟩, 58), (⟨"ListDeskModel", "bodyOf", "(I)I"⟩, 58)]
theorem lw_r5 : ∀ q ∈ lw_privs_5, lw_okq q := List.forall_mem_cons.mpr ⟨lw_p64, List.forall_mem_cons.mpr ⟨lw_p65, List.forall_mem_cons.mpr ⟨lw_p66, List.forall_mem_cons.mpr ⟨lw_p67, List.forall_mem_cons.mpr ⟨lw_p68, List.forall_mem_cons.mpr ⟨lw_p69, List.forall_mem_cons.mpr ⟨lw_p70, List.forall_mem_cons.mpr ⟨lw_p71, List.forall_mem_cons.mpr ⟨lw_p72, List.forall_mem_cons.mpr ⟨lw_p73, List.forall_mem_cons.mpr ⟨lw_p74, List.forall_mem_cons.mpr ⟨lw_p75, List.forall_mem_cons.mpr ⟨lw_p76, List.forall_mem_cons.mpr ⟨lw_p77, List.forall_mem_cons.mpr ⟨lw_p78, List.forall_mem_cons.mpr ⟨lw_p79, fun _ h => absurd h List.not_mem_nil⟩⟩⟩⟩⟩⟩⟩⟩⟩⟩⟩⟩⟩⟩⟩⟩
theorem lw_p80 : lw_okq (⟨"ListDeskModel", "call", "(I)V"⟩, 58) := ⟨⟨by decide +kernel, by decide +kernel⟩, List.mem_of_getElem? (i := 969) (by decide +kernel), List.mem_of_getElem? (i := 1324) (by decide +kernel), List.mem_of_getElem? (i := 1325) (by decide +kernel)⟩
theorem lw_p81 : lw_okq (⟨"ListDeskModel", "primitive", "(I)V"⟩, 58) := ⟨⟨by decide +kernel, by decide +kernel⟩, List.mem_of_getElem? (i := 969) (by decide +kernel), List.mem_of_getElem? (i := 1331) (by decide +kernel), List.mem_of_getElem? (i := 1332) (by decide +kernel)⟩
theorem lw_p82 : lw_okq (⟨"ListDeskModel", "at", "(I)J"⟩, 58) := ⟨⟨by decide +kernel, by decide +kernel⟩, List.mem_of_getElem? (i := 969) (by decide +kernel), List.mem_of_getElem? (i := 1355) (by decide +kernel), List.mem_of_getElem? (i := 1356) (by decide +kernel)⟩
def lw_privs_6 : List (MethodName × Nat) := [(⟨"ListDeskModel", "call", "(I)V"⟩, 58), (⟨"ListDeskModel", "primitive", "(I)V"⟩, 58), (⟨"ListDeskModel", "at", "(I)J"⟩, 58)]
theorem lw_r6 : ∀ q ∈ lw_privs_6, lw_okq q := List.forall_mem_cons.mpr ⟨lw_p80, List.forall_mem_cons.mpr ⟨lw_p81, List.forall_mem_cons.mpr ⟨lw_p82, fun _ h => absurd h List.not_mem_nil⟩⟩⟩
def lw_privs : List (MethodName × Nat) := lw_privs_1 ++ (lw_privs_2 ++ (lw_privs_3 ++ (lw_privs_4 ++ (lw_privs_5 ++ (lw_privs_6)))))
def lw_tbl : List Cond := k2_sels lw_privs ++ tables_1
theorem lw_privs_ok : ∀ q ∈ lw_privs, lw_okq q := by
  show ∀ q ∈ lw_privs_1 ++ (lw_privs_2 ++ (lw_privs_3 ++ (lw_privs_4 ++ (lw_privs_5 ++ (lw_privs_6))))), lw_okq q
  exact List.forall_mem_append.mpr ⟨lw_r1, List.forall_mem_append.mpr ⟨lw_r2, List.forall_mem_append.mpr ⟨lw_r3, List.forall_mem_append.mpr ⟨lw_r4, List.forall_mem_append.mpr ⟨lw_r5, lw_r6⟩⟩⟩⟩⟩
end
section
def RX1 : String := "ListDesk$Code"
def TX1 : u_T := fun k => match k with
  | 0 => ("ListDesk$Code", "order", "[I", true)
  | 1 => ("ListDesk$Code", "operand", "[I", true)
  | 2 => ("ListDesk$Code", "place", "[I", true)
  | _ => ("ListDesk$Code", "size", "I", false)
def tyX1 : Nat → FieldType := fun k => match k with
  | 0 => .array .int
  | 1 => .array .int
  | 2 => .array .int
  | _ => .int
abbrev wsX10 : List Cond := u_ws RX1 TX1 4
theorem nmX1 : ∀ a, a < 4 → ∀ b, b < 4 → a ≠ b → (TX1 a).2.1 ≠ (TX1 b).2.1 := by decide +kernel
theorem tyX1_ok : ∀ k, k < 4 → parseFieldDescriptor (TX1 k).2.2.1 = some (tyX1 k) := by decide +kernel
def RX2 : String := "ListDesk$Functions"
def TX2 : u_T := fun k => match k with
  | 0 => ("ListDesk$Functions", "entry", "[I", true)
  | 1 => ("ListDesk$Functions", "after", "[I", true)
  | 2 => ("ListDesk$Functions", "parameters", "[I", true)
  | 3 => ("ListDesk$Functions", "firstParameter", "[I", true)
  | 4 => ("ListDesk$Functions", "takenCount", "[I", true)
  | 5 => ("ListDesk$Functions", "taken", "[I", true)
  | 6 => ("ListDesk$Functions", "takenSource", "[I", true)
  | 7 => ("ListDesk$Functions", "count", "I", false)
  | 8 => ("ListDesk$Functions", "open", "[I", true)
  | _ => ("ListDesk$Functions", "level", "I", false)
def tyX2 : Nat → FieldType := fun k => match k with
  | 0 => .array .int
  | 1 => .array .int
  | 2 => .array .int
  | 3 => .array .int
  | 4 => .array .int
  | 5 => .array .int
  | 6 => .array .int
  | 7 => .int
  | 8 => .array .int
  | _ => .int
abbrev wsX20 : List Cond := u_ws RX2 TX2 10
theorem nmX2 : ∀ a, a < 10 → ∀ b, b < 10 → a ≠ b → (TX2 a).2.1 ≠ (TX2 b).2.1 := by decide +kernel
theorem tyX2_ok : ∀ k, k < 10 → parseFieldDescriptor (TX2 k).2.2.1 = some (tyX2 k) := by decide +kernel
def RX3 : String := "ListDesk$Heap"
def TX3 : u_T := fun k => match k with
  | 0 => ("ListDesk$Heap", "first", "[J", true)
  | 1 => ("ListDesk$Heap", "second", "[J", true)
  | 2 => ("ListDesk$Heap", "taken", "[J", true)
  | 3 => ("ListDesk$Heap", "made", "I", false)
  | _ => ("ListDesk$Heap", "takenCount", "I", false)
def tyX3 : Nat → FieldType := fun k => match k with
  | 0 => .array .long
  | 1 => .array .long
  | 2 => .array .long
  | 3 => .int
  | _ => .int
abbrev wsX30 : List Cond := u_ws RX3 TX3 5
theorem nmX3 : ∀ a, a < 5 → ∀ b, b < 5 → a ≠ b → (TX3 a).2.1 ≠ (TX3 b).2.1 := by decide +kernel
theorem tyX3_ok : ∀ k, k < 5 → parseFieldDescriptor (TX3 k).2.2.1 = some (tyX3 k) := by decide +kernel
def RX4 : String := "ListDesk$Machine"
def TX4 : u_T := fun k => match k with
  | 0 => ("ListDesk$Machine", "code", "LListDesk$Code;", true)
  | 1 => ("ListDesk$Machine", "names", "LListDesk$Names;", true)
  | 2 => ("ListDesk$Machine", "functions", "LListDesk$Functions;", true)
  | 3 => ("ListDesk$Machine", "heap", "LListDesk$Heap;", true)
  | 4 => ("ListDesk$Machine", "output", "LListDesk$Output;", true)
  | 5 => ("ListDesk$Machine", "stack", "[J", true)
  | 6 => ("ListDesk$Machine", "nextBehind", "[I", true)
  | 7 => ("ListDesk$Machine", "baseBehind", "[I", true)
  | 8 => ("ListDesk$Machine", "top", "I", false)
  | 9 => ("ListDesk$Machine", "base", "I", false)
  | 10 => ("ListDesk$Machine", "next", "I", false)
  | 11 => ("ListDesk$Machine", "waiting", "I", false)
  | 12 => ("ListDesk$Machine", "begun", "I", false)
  | 13 => ("ListDesk$Machine", "status", "I", false)
  | _ => ("ListDesk$Machine", "faultAt", "I", false)
def tyX4 : Nat → FieldType := fun k => match k with
  | 0 => .object "ListDesk$Code"
  | 1 => .object "ListDesk$Names"
  | 2 => .object "ListDesk$Functions"
  | 3 => .object "ListDesk$Heap"
  | 4 => .object "ListDesk$Output"
  | 5 => .array .long
  | 6 => .array .int
  | 7 => .array .int
  | 8 => .int
  | 9 => .int
  | 10 => .int
  | 11 => .int
  | 12 => .int
  | 13 => .int
  | _ => .int
abbrev wsX40 : List Cond := u_ws RX4 TX4 15
theorem nmX4 : ∀ a, a < 15 → ∀ b, b < 15 → a ≠ b → (TX4 a).2.1 ≠ (TX4 b).2.1 := by decide +kernel
theorem tyX4_ok : ∀ k, k < 15 → parseFieldDescriptor (TX4 k).2.2.1 = some (tyX4 k) := by decide +kernel
def RX5 : String := "ListDesk$Names"
def TX5 : u_T := fun k => match k with
  | 0 => ("ListDesk$Names", "letter", "[I", true)
  | 1 => ("ListDesk$Names", "slot", "[I", true)
  | 2 => ("ListDesk$Names", "level", "[I", true)
  | 3 => ("ListDesk$Names", "boxed", "[Z", true)
  | 4 => ("ListDesk$Names", "count", "I", false)
  | 5 => ("ListDesk$Names", "inForce", "[I", true)
  | 6 => ("ListDesk$Names", "inForceCount", "I", false)
  | 7 => ("ListDesk$Names", "pending", "[I", true)
  | _ => ("ListDesk$Names", "pendingCount", "I", false)
def tyX5 : Nat → FieldType := fun k => match k with
  | 0 => .array .int
  | 1 => .array .int
  | 2 => .array .int
  | 3 => .array .boolean
  | 4 => .int
  | 5 => .array .int
  | 6 => .int
  | 7 => .array .int
  | _ => .int
abbrev wsX50 : List Cond := u_ws RX5 TX5 9
theorem nmX5 : ∀ a, a < 9 → ∀ b, b < 9 → a ≠ b → (TX5 a).2.1 ≠ (TX5 b).2.1 := by decide +kernel
theorem tyX5_ok : ∀ k, k < 9 → parseFieldDescriptor (TX5 k).2.2.1 = some (tyX5 k) := by decide +kernel
def RX6 : String := "ListDesk$Output"
def TX6 : u_T := fun k => match k with
  | 0 => ("ListDesk$Output", "kept", "[I", true)
  | _ => ("ListDesk$Output", "total", "I", false)
def tyX6 : Nat → FieldType := fun k => match k with
  | 0 => .array .int
  | _ => .int
abbrev wsX60 : List Cond := u_ws RX6 TX6 2
theorem nmX6 : ∀ a, a < 2 → ∀ b, b < 2 → a ≠ b → (TX6 a).2.1 ≠ (TX6 b).2.1 := by decide +kernel
theorem tyX6_ok : ∀ k, k < 2 → parseFieldDescriptor (TX6 k).2.2.1 = some (tyX6 k) := by decide +kernel
def RX7 : String := "ListDesk$Reader"
def TX7 : u_T := fun k => match k with
  | 0 => ("ListDesk$Reader", "tape", "LListDesk$Tape;", true)
  | 1 => ("ListDesk$Reader", "code", "LListDesk$Code;", true)
  | 2 => ("ListDesk$Reader", "names", "LListDesk$Names;", true)
  | 3 => ("ListDesk$Reader", "functions", "LListDesk$Functions;", true)
  | 4 => ("ListDesk$Reader", "height", "I", false)
  | _ => ("ListDesk$Reader", "wrongAt", "I", false)
def tyX7 : Nat → FieldType := fun k => match k with
  | 0 => .object "ListDesk$Tape"
  | 1 => .object "ListDesk$Code"
  | 2 => .object "ListDesk$Names"
  | 3 => .object "ListDesk$Functions"
  | 4 => .int
  | _ => .int
abbrev wsX70 : List Cond := u_ws RX7 TX7 6
theorem nmX7 : ∀ a, a < 6 → ∀ b, b < 6 → a ≠ b → (TX7 a).2.1 ≠ (TX7 b).2.1 := by decide +kernel
theorem tyX7_ok : ∀ k, k < 6 → parseFieldDescriptor (TX7 k).2.2.1 = some (tyX7 k) := by decide +kernel
def RX9 : String := "ListDesk$Tape"
def TX9 : u_T := fun k => match k with
  | 0 => ("ListDesk$Tape", "bytes", "[I", true)
  | 1 => ("ListDesk$Tape", "fed", "I", false)
  | 2 => ("ListDesk$Tape", "length", "I", false)
  | _ => ("ListDesk$Tape", "at", "I", false)
def tyX9 : Nat → FieldType := fun k => match k with
  | 0 => .array .int
  | 1 => .int
  | 2 => .int
  | _ => .int
abbrev wsX90 : List Cond := u_ws RX9 TX9 4
theorem nmX9 : ∀ a, a < 4 → ∀ b, b < 4 → a ≠ b → (TX9 a).2.1 ≠ (TX9 b).2.1 := by decide +kernel
theorem tyX9_ok : ∀ k, k < 4 → parseFieldDescriptor (TX9 k).2.2.1 = some (tyX9 k) := by decide +kernel
def RX12 : String := "ListDesk"
def TX12 : u_T := fun k => match k with
  | 0 => ("ListDesk", "tape", "LListDesk$Tape;", true)
  | 1 => ("ListDesk", "reader", "LListDesk$Reader;", true)
  | _ => ("ListDesk", "machine", "LListDesk$Machine;", true)
def tyX12 : Nat → FieldType := fun k => match k with
  | 0 => .object "ListDesk$Tape"
  | 1 => .object "ListDesk$Reader"
  | _ => .object "ListDesk$Machine"
abbrev wsX120 : List Cond := u_ws RX12 TX12 3
theorem nmX12 : ∀ a, a < 3 → ∀ b, b < 3 → a ≠ b → (TX12 a).2.1 ≠ (TX12 b).2.1 := by decide +kernel
theorem tyX12_ok : ∀ k, k < 3 → parseFieldDescriptor (TX12 k).2.2.1 = some (tyX12 k) := by decide +kernel
def RX13 : String := "ListDeskModel"
def TX13 : u_T := fun k => match k with
  | 0 => ("ListDeskModel", "thrown", "I", false)
  | 1 => ("ListDeskModel", "tape", "[I", true)
  | 2 => ("ListDeskModel", "taped", "I", false)
  | 3 => ("ListDeskModel", "length", "I", false)
  | 4 => ("ListDeskModel", "at", "I", false)
  | 5 => ("ListDeskModel", "wrong", "Z", false)
  | 6 => ("ListDeskModel", "place", "I", false)
  | 7 => ("ListDeskModel", "nodes", "I", false)
  | 8 => ("ListDeskModel", "kind", "[I", true)
  | 9 => ("ListDeskModel", "where", "[I", true)
  | 10 => ("ListDeskModel", "of", "[I", true)
  | 11 => ("ListDeskModel", "firstChild", "[I", true)
  | 12 => ("ListDeskModel", "lastChild", "[I", true)
  | 13 => ("ListDeskModel", "next", "[I", true)
  | 14 => ("ListDeskModel", "children", "[I", true)
  | 15 => ("ListDeskModel", "variables", "[I", true)
  | 16 => ("ListDeskModel", "variableCount", "[I", true)
  | 17 => ("ListDeskModel", "atEnd", "[Z", true)
  | 18 => ("ListDeskModel", "counts", "[Z", true)
  | 19 => ("ListDeskModel", "numbers", "I", false)
  | 20 => ("ListDeskModel", "open", "[I", true)
  | 21 => ("ListDeskModel", "telling", "[Z", true)
  | 22 => ("ListDeskModel", "mark", "[I", true)
  | 23 => ("ListDeskModel", "depth", "I", false)
  | 24 => ("ListDeskModel", "letter", "[I", true)
  | 25 => ("ListDeskModel", "binder", "[I", true)
  | 26 => ("ListDeskModel", "bound", "I", false)
  | 27 => ("ListDeskModel", "wordFrom", "I", false)
  | 28 => ("ListDeskModel", "wordTo", "I", false)
  | 29 => ("ListDeskModel", "status", "I", false)
  | 30 => ("ListDeskModel", "steps", "I", false)
  | 31 => ("ListDeskModel", "objects", "I", false)
  | 32 => ("ListDeskModel", "waiting", "I", false)
  | 33 => ("ListDeskModel", "fuel", "I", false)
  | 34 => ("ListDeskModel", "left", "[J", true)
  | 35 => ("ListDeskModel", "right", "[J", true)
  | 36 => ("ListDeskModel", "things", "I", false)
  | 37 => ("ListDeskModel", "functionNode", "[I", true)
  | 38 => ("ListDeskModel", "functionLink", "[I", true)
  | 39 => ("ListDeskModel", "functions", "I", false)
  | 40 => ("ListDeskModel", "linkOf", "[I", true)
  | 41 => ("ListDeskModel", "linkValue", "[J", true)
  | 42 => ("ListDeskModel", "linkNext", "[I", true)
  | 43 => ("ListDeskModel", "linkSeen", "[Z", true)
  | 44 => ("ListDeskModel", "freeLink", "I", false)
  | 45 => ("ListDeskModel", "wait", "[I", true)
  | 46 => ("ListDeskModel", "waitNode", "[I", true)
  | 47 => ("ListDeskModel", "waitLink", "[I", true)
  | 48 => ("ListDeskModel", "waitCount", "[I", true)
  | 49 => ("ListDeskModel", "waits", "I", false)
  | 50 => ("ListDeskModel", "values", "[J", true)
  | 51 => ("ListDeskModel", "held", "I", false)
  | 52 => ("ListDeskModel", "link", "I", false)
  | 53 => ("ListDeskModel", "now", "I", false)
  | 54 => ("ListDeskModel", "value", "J", false)
  | 55 => ("ListDeskModel", "said", "I", false)
  | 56 => ("ListDeskModel", "out", "[I", true)
  | _ => ("ListDeskModel", "told", "[I", true)
def tyX13 : Nat → FieldType := fun k => match k with
  | 0 => .int
  | 1 => .array .int
  | 2 => .int
  | 3 => .int
  | 4 => .int
  | 5 => .boolean
  | 6 => .int
  | 7 => .int
  | 8 => .array .int
  | 9 => .array .int
  | 10 => .array .int
  | 11 => .array .int
  | 12 => .array .int
  | 13 => .array .int
  | 14 => .array .int
  | 15 => .array .int
  | 16 => .array .int
  | 17 => .array .boolean
  | 18 => .array .boolean
  | 19 => .int
  | 20 => .array .int
  | 21 => .array .boolean
  | 22 => .array .int
  | 23 => .int
  | 24 => .array .int
  | 25 => .array .int
  | 26 => .int
  | 27 => .int
  | 28 => .int
  | 29 => .int
  | 30 => .int
  | 31 => .int
  | 32 => .int
  | 33 => .int
  | 34 => .array .long
  | 35 => .array .long
  | 36 => .int
  | 37 => .array .int
  | 38 => .array .int
  | 39 => .int
  | 40 => .array .int
  | 41 => .array .long
  | 42 => .array .int
  | 43 => .array .boolean
  | 44 => .int
  | 45 => .array .int
  | 46 => .array .int
  | 47 => .array .int
  | 48 => .array .int
  | 49 => .int
  | 50 => .array .long
  | 51 => .int
  | 52 => .int
  | 53 => .int
  | 54 => .long
  | 55 => .int
  | 56 => .array .int
  | _ => .array .int
abbrev wsX130 : List Cond := u_ws RX13 TX13 58
theorem nmX13 : ∀ a, a < 58 → ∀ b, b < 58 → a ≠ b → (TX13 a).2.1 ≠ (TX13 b).2.1 := by decide +kernel
theorem tyX13_ok : ∀ k, k < 58 → parseFieldDescriptor (TX13 k).2.2.1 = some (tyX13 k) := by decide +kernel
abbrev vwCl : List vw_C := [(RX1, TX1, 4), (RX2, TX2, 10), (RX3, TX3, 5), (RX4, TX4, 15), (RX5, TX5, 9), (RX6, TX6, 2), (RX7, TX7, 6), (RX9, TX9, 4), (RX12, TX12, 3), (RX13, TX13, 58)]
/-- the words that hold in every state of a run -/
def amTb : List Cond := lw_tbl.filter goodWord
theorem amTb_in {w : Cond} (h : w ∈ lw_tbl) (hg : goodWord w = true) : w ∈ amTb := List.mem_filter.mpr ⟨h, hg⟩
theorem inX1 : ∀ w ∈ wsX10, w ∈ amTb := fun w h => List.mem_filter.mpr ⟨(show ∀ w ∈ wsX10, w ∈ lw_tbl by decide +kernel) w h, (show ∀ w ∈ wsX10, goodWord w = true by decide +kernel) w h⟩
theorem inX2 : ∀ w ∈ wsX20, w ∈ amTb := fun w h => List.mem_filter.mpr ⟨(show ∀ w ∈ wsX20, w ∈ lw_tbl by decide +kernel) w h, (show ∀ w ∈ wsX20, goodWord w = true by decide +kernel) w h⟩
theorem inX3 : ∀ w ∈ wsX30, w ∈ amTb := fun w h => List.mem_filter.mpr ⟨(show ∀ w ∈ wsX30, w ∈ lw_tbl by decide +kernel) w h, (show ∀ w ∈ wsX30, goodWord w = true by decide +kernel) w h⟩
theorem inX4 : ∀ w ∈ wsX40, w ∈ amTb := fun w h => List.mem_filter.mpr ⟨(show ∀ w ∈ wsX40, w ∈ lw_tbl by decide +kernel) w h, (show ∀ w ∈ wsX40, goodWord w = true by decide +kernel) w h⟩
theorem inX5 : ∀ w ∈ wsX50, w ∈ amTb := fun w h => List.mem_filter.mpr ⟨(show ∀ w ∈ wsX50, w ∈ lw_tbl by decide +kernel) w h, (show ∀ w ∈ wsX50, goodWord w = true by decide +kernel) w h⟩
theorem inX6 : ∀ w ∈ wsX60, w ∈ amTb := fun w h => List.mem_filter.mpr ⟨(show ∀ w ∈ wsX60, w ∈ lw_tbl by decide +kernel) w h, (show ∀ w ∈ wsX60, goodWord w = true by decide +kernel) w h⟩
theorem inX7 : ∀ w ∈ wsX70, w ∈ amTb := fun w h => List.mem_filter.mpr ⟨(show ∀ w ∈ wsX70, w ∈ lw_tbl by decide +kernel) w h, (show ∀ w ∈ wsX70, goodWord w = true by decide +kernel) w h⟩
theorem inX9 : ∀ w ∈ wsX90, w ∈ amTb := fun w h => List.mem_filter.mpr ⟨(show ∀ w ∈ wsX90, w ∈ lw_tbl by decide +kernel) w h, (show ∀ w ∈ wsX90, goodWord w = true by decide +kernel) w h⟩
theorem inX12 : ∀ w ∈ wsX120, w ∈ amTb := fun w h => List.mem_filter.mpr ⟨(show ∀ w ∈ wsX120, w ∈ lw_tbl by decide +kernel) w h, (show ∀ w ∈ wsX120, goodWord w = true by decide +kernel) w h⟩
theorem inX13 : ∀ w ∈ wsX130, w ∈ amTb := fun w h => List.mem_filter.mpr ⟨(show ∀ w ∈ wsX130, w ∈ lw_tbl by decide +kernel) w h, (show ∀ w ∈ wsX130, goodWord w = true by decide +kernel) w h⟩
end
section
/-! the program: a method: its class, its name, its code, locals, type, parameters, instructions (pc, what, length, the pool's number), handlers (from, to, at, local of the store, its length, exception) -/
abbrev amM : Type := String × MethodName × ByteArray × Nat × Option FieldType × Nat × List (Nat × Instr × Nat × Nat) × List (Nat × Nat × Nat × Nat)
def am_own (M : amM) : String := M.1
def am_y (M : amM) : MethodName := M.2.1
def am_b (M : amM) : ByteArray := M.2.2.1
def am_mL (M : amM) : Nat := M.2.2.2.1
def am_rt (M : amM) : Option FieldType := M.2.2.2.2.1
def am_np (M : amM) : Nat := M.2.2.2.2.2.1
def am_cd (M : amM) : List (Nat × Instr × Nat × Nat) := M.2.2.2.2.2.2.1
def am_hh (M : amM) : List (Nat × Nat × Nat × Nat) := M.2.2.2.2.2.2.2
/-- 0: ListDesk$Code.<init>()V -/
def am_m0 : amM := ("ListDesk$Code", ⟨"ListDesk$Code", "<init>", "()V"⟩, prog_3_method_1_code, 1, none, 0, [(0, .aload 0, 1, 0), (1, .invokespecial 903, 3, 5), (4, .aload 0, 1, 0), (5, .iconst 502, 3, 2), (8, .newarray .int, 2, 0), (10, .putfield 20000, 3, 11), (13, .aload 0, 1, 0), (14, .iconst 502, 3, 2), (17, .newarray .int, 2, 0), (19, .putfield 20001, 3, 15), (22, .aload 0, 1, 0), (23, .iconst 502, 3, 2), (26, .newarray .int, 2, 0), (28, .putfield 20002, 3, 18), (31, .return_, 1, 0)], [])
/-- 1: ListDesk$Code.clear()V -/
def am_m1 : amM := ("ListDesk$Code", ⟨"ListDesk$Code", "clear", "()V"⟩, prog_3_method_2_code, 1, none, 0, [(0, .aload 0, 1, 0), (1, .iconst 0, 1, 0), (2, .putfield 3, 3, 21), (5, .return_, 1, 0)], [])
/-- 2: ListDesk$Code.add(III)I -/
def am_m2 : amM := ("ListDesk$Code", ⟨"ListDesk$Code", "add", "(III)I"⟩, prog_3_method_3_code, 5, (some .int), 3, [(0, .aload 0, 1, 0), (1, .getfield 3, 3, 21), (4, .istore 4, 2, 0), (6, .aload 0, 1, 0), (7, .getfield 0, 3, 11), (10, .iload 4, 2, 0), (12, .iload 1, 1, 0), (13, .invokestatic 95, 3, 25), (16, .aload 0, 1, 0), (17, .getfield 1, 3, 15), (20, .iload 4, 2, 0), (22, .iload 2, 1, 0), (23, .invokestatic 95, 3, 25), (26, .aload 0, 1, 0), (27, .getfield 2, 3, 18), (30, .iload 4, 2, 0), (32, .iload 3, 1, 0), (33, .invokestatic 95, 3, 25), (36, .aload 0, 1, 0), (37, .dup, 1, 0), (38, .getfield 3, 3, 21), (41, .iconst 1, 1, 0), (42, .iadd, 1, 0), (43, .putfield 3, 3, 21), (46, .iload 4, 2, 0), (48, .ireturn, 1, 0)], [])
/-- 3: ListDesk$Code.jumpToHere(I)V -/
def am_m3 : amM := ("ListDesk$Code", ⟨"ListDesk$Code", "jumpToHere", "(I)V"⟩, prog_3_method_4_code, 2, none, 1, [(0, .aload 0, 1, 0), (1, .getfield 1, 3, 15), (4, .iload 1, 1, 0), (5, .aload 0, 1, 0), (6, .getfield 3, 3, 21), (9, .invokestatic 95, 3, 25), (12, .return_, 1, 0)], [])
/-- 4: ListDesk$Code.orderAt(I)I -/
def am_m4 : amM := ("ListDesk$Code", ⟨"ListDesk$Code", "orderAt", "(I)I"⟩, prog_3_method_5_code, 2, (some .int), 1, [(0, .aload 0, 1, 0), (1, .getfield 0, 3, 11), (4, .iload 1, 1, 0), (5, .invokestatic 94, 3, 31), (8, .ireturn, 1, 0)], [])
/-- 5: ListDesk$Code.markCallsAtEnd()V -/
def am_m5 : amM := ("ListDesk$Code", ⟨"ListDesk$Code", "markCallsAtEnd", "()V"⟩, prog_3_method_6_code, 2, none, 0, [(0, .iconst 0, 1, 0), (1, .istore 1, 1, 0), (2, .iload 1, 1, 0), (3, .aload 0, 1, 0), (4, .getfield 3, 3, 21), (7, .if_icmp .ge 46, 3, 0), (10, .aload 0, 1, 0), (11, .iload 1, 1, 0), (12, .invokevirtual 4, 3, 35), (15, .iconst 14, 2, 1), (17, .if_icmp .ne 40, 3, 0), (20, .aload 0, 1, 0), (21, .iload 1, 1, 0), (22, .iconst 1, 1, 0), (23, .iadd, 1, 0), (24, .invokevirtual 6, 3, 39), (27, .ifCond .eq 40, 3, 0), (30, .aload 0, 1, 0), (31, .getfield 0, 3, 11), (34, .iload 1, 1, 0), (35, .iconst 15, 2, 1), (37, .invokestatic 95, 3, 25), (40, .iinc 1 1, 3, 0), (43, .goto 2, 3, 0), (46, .return_, 1, 0)], [])
/-- 6: ListDesk$Code.leadsToReturn(I)Z -/
def am_m6 : amM := ("ListDesk$Code", ⟨"ListDesk$Code", "leadsToReturn", "(I)Z"⟩, prog_3_method_7_code, 5, (some .boolean), 1, [(0, .iload 1, 1, 0), (1, .istore 2, 1, 0), (2, .iconst 0, 1, 0), (3, .istore 3, 1, 0), (4, .iload 3, 1, 0), (5, .aload 0, 1, 0), (6, .getfield 3, 3, 21), (9, .if_icmp .ge 70, 3, 0), (12, .aload 0, 1, 0), (13, .iload 2, 1, 0), (14, .invokevirtual 4, 3, 35), (17, .istore 4, 2, 0), (19, .iload 4, 2, 0), (21, .iconst 9, 2, 1), (23, .if_icmp .ne 38, 3, 0), (26, .aload 0, 1, 0), (27, .getfield 1, 3, 15), (30, .iload 2, 1, 0), (31, .invokestatic 94, 3, 31), (34, .istore 2, 1, 0), (35, .goto 64, 3, 0), (38, .iload 4, 2, 0), (40, .iconst 13, 2, 1), (42, .if_icmp .ne 51, 3, 0), (45, .iinc 2 1, 3, 0), (48, .goto 64, 3, 0), (51, .iload 4, 2, 0), (53, .iconst 16, 2, 1), (55, .if_icmp .ne 62, 3, 0), (58, .iconst 1, 1, 0), (59, .goto 63, 3, 0), (62, .iconst 0, 1, 0), (63, .ireturn, 1, 0), (64, .iinc 3 1, 3, 0), (67, .goto 4, 3, 0), (70, .iconst 0, 1, 0), (71, .ireturn, 1, 0)], [])
/-- 7: ListDesk$Functions.<init>()V -/
def am_m7 : amM := ("ListDesk$Functions", ⟨"ListDesk$Functions", "<init>", "()V"⟩, prog_4_method_1_code, 1, none, 0, [(0, .aload 0, 1, 0), (1, .invokespecial 903, 3, 3), (4, .aload 0, 1, 0), (5, .iconst 28, 2, 1), (7, .newarray .int, 2, 0), (9, .putfield 20100, 3, 9), (12, .aload 0, 1, 0), (13, .iconst 28, 2, 1), (15, .newarray .int, 2, 0), (17, .putfield 20101, 3, 15), (20, .aload 0, 1, 0), (21, .iconst 28, 2, 1), (23, .newarray .int, 2, 0), (25, .putfield 20102, 3, 18), (28, .aload 0, 1, 0), (29, .iconst 28, 2, 1), (31, .newarray .int, 2, 0), (33, .putfield 20103, 3, 21), (36, .aload 0, 1, 0), (37, .iconst 28, 2, 1), (39, .newarray .int, 2, 0), (41, .putfield 20104, 3, 24), (44, .aload 0, 1, 0), (45, .iconst 728, 3, 2), (48, .newarray .int, 2, 0), (50, .putfield 20105, 3, 27), (53, .aload 0, 1, 0), (54, .iconst 728, 3, 2), (57, .newarray .int, 2, 0), (59, .putfield 20106, 3, 30), (62, .aload 0, 1, 0), (63, .iconst 21, 2, 1), (65, .newarray .int, 2, 0), (67, .putfield 20108, 3, 33), (70, .return_, 1, 0)], [])
/-- 8: ListDesk$Functions.clear()V -/
def am_m8 : amM := ("ListDesk$Functions", ⟨"ListDesk$Functions", "clear", "()V"⟩, prog_4_method_2_code, 1, none, 0, [(0, .aload 0, 1, 0), (1, .iconst 0, 1, 0), (2, .putfield 107, 3, 36), (5, .aload 0, 1, 0), (6, .iconst 0, 1, 0), (7, .putfield 109, 3, 40), (10, .return_, 1, 0)], [])
/-- 9: ListDesk$Functions.enter(III)V -/
def am_m9 : amM := ("ListDesk$Functions", ⟨"ListDesk$Functions", "enter", "(III)V"⟩, prog_4_method_3_code, 4, none, 3, [(0, .aload 0, 1, 0), (1, .getfield 100, 3, 9), (4, .aload 0, 1, 0), (5, .getfield 107, 3, 36), (8, .iload 1, 1, 0), (9, .invokestatic 95, 3, 43), (12, .aload 0, 1, 0), (13, .getfield 102, 3, 18), (16, .aload 0, 1, 0), (17, .getfield 107, 3, 36), (20, .iload 2, 1, 0), (21, .invokestatic 95, 3, 43), (24, .aload 0, 1, 0), (25, .getfield 103, 3, 21), (28, .aload 0, 1, 0), (29, .getfield 107, 3, 36), (32, .iload 3, 1, 0), (33, .invokestatic 95, 3, 43), (36, .aload 0, 1, 0), (37, .getfield 104, 3, 24), (40, .aload 0, 1, 0), (41, .getfield 107, 3, 36), (44, .iconst 0, 1, 0), (45, .invokestatic 95, 3, 43), (48, .aload 0, 1, 0), (49, .dup, 1, 0), (50, .getfield 109, 3, 40), (53, .iconst 1, 1, 0), (54, .iadd, 1, 0), (55, .putfield 109, 3, 40), (58, .aload 0, 1, 0), (59, .getfield 108, 3, 33), (62, .aload 0, 1, 0), (63, .getfield 109, 3, 40), (66, .aload 0, 1, 0), (67, .getfield 107, 3, 36), (70, .invokestatic 95, 3, 43), (73, .aload 0, 1, 0), (74, .dup, 1, 0), (75, .getfield 107, 3, 36), (78, .iconst 1, 1, 0), (79, .iadd, 1, 0), (80, .putfield 107, 3, 36), (83, .return_, 1, 0)], [])
/-- 10: ListDesk$Functions.leave(I)V -/
def am_m10 : amM := ("ListDesk$Functions", ⟨"ListDesk$Functions", "leave", "(I)V"⟩, prog_4_method_4_code, 2, none, 1, [(0, .aload 0, 1, 0), (1, .getfield 101, 3, 15), (4, .aload 0, 1, 0), (5, .getfield 108, 3, 33), (8, .aload 0, 1, 0), (9, .getfield 109, 3, 40), (12, .invokestatic 94, 3, 49), (15, .iload 1, 1, 0), (16, .invokestatic 95, 3, 43), (19, .aload 0, 1, 0), (20, .dup, 1, 0), (21, .getfield 109, 3, 40), (24, .iconst 1, 1, 0), (25, .isub, 1, 0), (26, .putfield 109, 3, 40), (29, .return_, 1, 0)], [])
/-- 11: ListDesk$Functions.reach(III)I -/
def am_m11 : amM := ("ListDesk$Functions", ⟨"ListDesk$Functions", "reach", "(III)I"⟩, prog_4_method_5_code, 6, (some .int), 3, [(0, .iload 3, 1, 0), (1, .istore 4, 2, 0), (3, .iload 2, 1, 0), (4, .iconst 1, 1, 0), (5, .iadd, 1, 0), (6, .istore 5, 2, 0), (8, .iload 5, 2, 0), (10, .aload 0, 1, 0), (11, .getfield 109, 3, 40), (14, .if_icmp .gt 43, 3, 0), (17, .iconst (-1), 1, 0), (18, .aload 0, 1, 0), (19, .aload 0, 1, 0), (20, .getfield 108, 3, 33), (23, .iload 5, 2, 0), (25, .invokestatic 94, 3, 49), (28, .iload 1, 1, 0), (29, .iload 4, 2, 0), (31, .invokevirtual 12, 3, 53), (34, .isub, 1, 0), (35, .istore 4, 2, 0), (37, .iinc 5 1, 3, 0), (40, .goto 8, 3, 0), (43, .iload 4, 2, 0), (45, .ireturn, 1, 0)], [])
/-- 12: ListDesk$Functions.take(III)I -/
def am_m12 : amM := ("ListDesk$Functions", ⟨"ListDesk$Functions", "take", "(III)I"⟩, prog_4_method_6_code, 7, (some .int), 3, [(0, .iload 1, 1, 0), (1, .iconst 26, 2, 1), (3, .imul, 1, 0), (4, .istore 4, 2, 0), (6, .aload 0, 1, 0), (7, .getfield 104, 3, 24), (10, .iload 1, 1, 0), (11, .invokestatic 94, 3, 49), (14, .istore 5, 2, 0), (16, .iconst 0, 1, 0), (17, .istore 6, 2, 0), (19, .iload 6, 2, 0), (21, .iload 5, 2, 0), (23, .if_icmp .ge 51, 3, 0), (26, .aload 0, 1, 0), (27, .getfield 105, 3, 27), (30, .iload 4, 2, 0), (32, .iload 6, 2, 0), (34, .iadd, 1, 0), (35, .invokestatic 94, 3, 49), (38, .iload 2, 1, 0), (39, .if_icmp .ne 45, 3, 0), (42, .iload 6, 2, 0), (44, .ireturn, 1, 0), (45, .iinc 6 1, 3, 0), (48, .goto 19, 3, 0), (51, .aload 0, 1, 0), (52, .getfield 105, 3, 27), (55, .iload 4, 2, 0), (57, .iload 5, 2, 0), (59, .iadd, 1, 0), (60, .iload 2, 1, 0), (61, .invokestatic 95, 3, 43), (64, .aload 0, 1, 0), (65, .getfield 106, 3, 30), (68, .iload 4, 2, 0), (70, .iload 5, 2, 0), (72, .iadd, 1, 0), (73, .iload 3, 1, 0), (74, .invokestatic 95, 3, 43), (77, .aload 0, 1, 0), (78, .getfield 104, 3, 24), (81, .iload 1, 1, 0), (82, .iload 5, 2, 0), (84, .iconst 1, 1, 0), (85, .iadd, 1, 0), (86, .invokestatic 95, 3, 43), (89, .iload 5, 2, 0), (91, .ireturn, 1, 0)], [])
/-- 13: ListDesk$Functions.entryOf(I)I -/
def am_m13 : amM := ("ListDesk$Functions", ⟨"ListDesk$Functions", "entryOf", "(I)I"⟩, prog_4_method_7_code, 2, (some .int), 1, [(0, .aload 0, 1, 0), (1, .getfield 100, 3, 9), (4, .iload 1, 1, 0), (5, .invokestatic 94, 3, 49), (8, .ireturn, 1, 0)], [])
/-- 14: ListDesk$Functions.afterOf(I)I -/
def am_m14 : amM := ("ListDesk$Functions", ⟨"ListDesk$Functions", "afterOf", "(I)I"⟩, prog_4_method_8_code, 2, (some .int), 1, [(0, .aload 0, 1, 0), (1, .getfield 101, 3, 15), (4, .iload 1, 1, 0), (5, .invokestatic 94, 3, 49), (8, .ireturn, 1, 0)], [])
/-- 15: ListDesk$Functions.parametersOf(I)I -/
def am_m15 : amM := ("ListDesk$Functions", ⟨"ListDesk$Functions", "parametersOf", "(I)I"⟩, prog_4_method_9_code, 2, (some .int), 1, [(0, .aload 0, 1, 0), (1, .getfield 102, 3, 18), (4, .iload 1, 1, 0), (5, .invokestatic 94, 3, 49), (8, .ireturn, 1, 0)], [])
/-- 16: ListDesk$Functions.firstParameterOf(I)I -/
def am_m16 : amM := ("ListDesk$Functions", ⟨"ListDesk$Functions", "firstParameterOf", "(I)I"⟩, prog_4_method_10_code, 2, (some .int), 1, [(0, .aload 0, 1, 0), (1, .getfield 103, 3, 21), (4, .iload 1, 1, 0), (5, .invokestatic 94, 3, 49), (8, .ireturn, 1, 0)], [])
/-- 17: ListDesk$Functions.takenBy(I)I -/
def am_m17 : amM := ("ListDesk$Functions", ⟨"ListDesk$Functions", "takenBy", "(I)I"⟩, prog_4_method_11_code, 2, (some .int), 1, [(0, .aload 0, 1, 0), (1, .getfield 104, 3, 24), (4, .iload 1, 1, 0), (5, .invokestatic 94, 3, 49), (8, .ireturn, 1, 0)], [])
/-- 18: ListDesk$Functions.sourceOf(II)I -/
def am_m18 : amM := ("ListDesk$Functions", ⟨"ListDesk$Functions", "sourceOf", "(II)I"⟩, prog_4_method_12_code, 3, (some .int), 2, [(0, .aload 0, 1, 0), (1, .getfield 106, 3, 30), (4, .iload 1, 1, 0), (5, .iconst 26, 2, 1), (7, .imul, 1, 0), (8, .iload 2, 1, 0), (9, .iadd, 1, 0), (10, .invokestatic 94, 3, 49), (13, .ireturn, 1, 0)], [])
/-- 19: ListDesk$Heap.<init>()V -/
def am_m19 : amM := ("ListDesk$Heap", ⟨"ListDesk$Heap", "<init>", "()V"⟩, prog_5_method_1_code, 1, none, 0, [(0, .aload 0, 1, 0), (1, .invokespecial 903, 3, 3), (4, .aload 0, 1, 0), (5, .iconst 2000, 3, 2), (8, .newarray .long, 2, 0), (10, .putfield 20200, 3, 9), (13, .aload 0, 1, 0), (14, .iconst 2000, 3, 2), (17, .newarray .long, 2, 0), (19, .putfield 20201, 3, 15), (22, .aload 0, 1, 0), (23, .iconst 52000, 2, 28), (25, .newarray .long, 2, 0), (27, .putfield 20202, 3, 19), (30, .return_, 1, 0)], [])
/-- 20: ListDesk$Heap.clear()V -/
def am_m20 : amM := ("ListDesk$Heap", ⟨"ListDesk$Heap", "clear", "()V"⟩, prog_5_method_2_code, 1, none, 0, [(0, .aload 0, 1, 0), (1, .iconst 0, 1, 0), (2, .putfield 203, 3, 22), (5, .aload 0, 1, 0), (6, .iconst 0, 1, 0), (7, .putfield 204, 3, 26), (10, .return_, 1, 0)], [])
/-- 21: ListDesk$Heap.make(IJJ)J -/
def am_m21 : amM := ("ListDesk$Heap", ⟨"ListDesk$Heap", "make", "(IJJ)J"⟩, prog_5_method_3_code, 7, (some .long), 3, [(0, .aload 0, 1, 0), (1, .getfield 203, 3, 22), (4, .iconst 2000, 3, 2), (7, .if_icmp .lt 14, 3, 0), (10, .jsr_w 21474836480, 3, 31), (13, .lreturn, 1, 0), (14, .aload 0, 1, 0), (15, .getfield 203, 3, 22), (18, .istore 6, 2, 0), (20, .aload 0, 1, 0), (21, .getfield 200, 3, 9), (24, .iload 6, 2, 0), (26, .lload 2, 1, 0), (27, .invokestatic 97, 3, 33), (30, .aload 0, 1, 0), (31, .getfield 201, 3, 15), (34, .iload 6, 2, 0), (36, .lload 4, 2, 0), (38, .invokestatic 97, 3, 33), (41, .aload 0, 1, 0), (42, .dup, 1, 0), (43, .getfield 203, 3, 22), (46, .iconst 1, 1, 0), (47, .iadd, 1, 0), (48, .putfield 203, 3, 22), (51, .iload 1, 1, 0), (52, .iload 6, 2, 0), (54, .invokestatic 111, 3, 39), (57, .lreturn, 1, 0)], [])
/-- 22: ListDesk$Heap.take(J)V -/
def am_m22 : amM := ("ListDesk$Heap", ⟨"ListDesk$Heap", "take", "(J)V"⟩, prog_5_method_4_code, 3, none, 1, [(0, .aload 0, 1, 0), (1, .getfield 202, 3, 19), (4, .aload 0, 1, 0), (5, .getfield 204, 3, 26), (8, .lload 1, 1, 0), (9, .invokestatic 97, 3, 33), (12, .aload 0, 1, 0), (13, .dup, 1, 0), (14, .getfield 204, 3, 26), (17, .iconst 1, 1, 0), (18, .iadd, 1, 0), (19, .putfield 204, 3, 26), (22, .return_, 1, 0)], [])
/-- 23: ListDesk$Heap.car(J)J -/
def am_m23 : amM := ("ListDesk$Heap", ⟨"ListDesk$Heap", "car", "(J)J"⟩, prog_5_method_5_code, 3, (some .long), 1, [(0, .aload 0, 1, 0), (1, .getfield 200, 3, 9), (4, .lload 1, 1, 0), (5, .invokestatic 113, 3, 43), (8, .invokestatic 96, 3, 47), (11, .lreturn, 1, 0)], [])
/-- 24: ListDesk$Heap.cdr(J)J -/
def am_m24 : amM := ("ListDesk$Heap", ⟨"ListDesk$Heap", "cdr", "(J)J"⟩, prog_5_method_6_code, 3, (some .long), 1, [(0, .aload 0, 1, 0), (1, .getfield 201, 3, 15), (4, .lload 1, 1, 0), (5, .invokestatic 113, 3, 43), (8, .invokestatic 96, 3, 47), (11, .lreturn, 1, 0)], [])
/-- 25: ListDesk$Heap.lambdaOf(J)I -/
def am_m25 : amM := ("ListDesk$Heap", ⟨"ListDesk$Heap", "lambdaOf", "(J)I"⟩, prog_5_method_7_code, 3, (some .int), 1, [(0, .aload 0, 1, 0), (1, .getfield 200, 3, 9), (4, .lload 1, 1, 0), (5, .invokestatic 113, 3, 43), (8, .invokestatic 96, 3, 47), (11, .l2i, 1, 0), (12, .ireturn, 1, 0)], [])
/-- 26: ListDesk$Heap.takenBy(JI)J -/
def am_m26 : amM := ("ListDesk$Heap", ⟨"ListDesk$Heap", "takenBy", "(JI)J"⟩, prog_5_method_8_code, 4, (some .long), 2, [(0, .aload 0, 1, 0), (1, .getfield 202, 3, 19), (4, .aload 0, 1, 0), (5, .getfield 201, 3, 15), (8, .lload 1, 1, 0), (9, .invokestatic 113, 3, 43), (12, .invokestatic 96, 3, 47), (15, .l2i, 1, 0), (16, .iload 3, 1, 0), (17, .iadd, 1, 0), (18, .invokestatic 96, 3, 47), (21, .lreturn, 1, 0)], [])
/-- 27: ListDesk$Heap.unboxed(J)J -/
def am_m27 : amM := ("ListDesk$Heap", ⟨"ListDesk$Heap", "unboxed", "(J)J"⟩, prog_5_method_9_code, 3, (some .long), 1, [(0, .lload 1, 1, 0), (1, .invokestatic 112, 3, 51), (4, .iconst 4, 1, 0), (5, .if_icmp .ne 22, 3, 0), (8, .aload 0, 1, 0), (9, .getfield 200, 3, 9), (12, .lload 1, 1, 0), (13, .invokestatic 113, 3, 43), (16, .invokestatic 96, 3, 47), (19, .goto 23, 3, 0), (22, .lload 1, 1, 0), (23, .lreturn, 1, 0)], [])
/-- 28: ListDesk$Heap.store(JJ)V -/
def am_m28 : amM := ("ListDesk$Heap", ⟨"ListDesk$Heap", "store", "(JJ)V"⟩, prog_5_method_10_code, 5, none, 2, [(0, .lload 1, 1, 0), (1, .invokestatic 112, 3, 51), (4, .iconst 4, 1, 0), (5, .if_icmp .ne 20, 3, 0), (8, .aload 0, 1, 0), (9, .getfield 200, 3, 9), (12, .lload 1, 1, 0), (13, .invokestatic 113, 3, 43), (16, .lload 3, 1, 0), (17, .invokestatic 97, 3, 33), (20, .return_, 1, 0)], [])
/-- 29: ListDesk$Machine.<init>(LListDesk$Code;LListDesk$Names;LListDesk$Functions;)V -/
def am_m29 : amM := ("ListDesk$Machine", ⟨"ListDesk$Machine", "<init>", "(LListDesk$Code;LListDesk$Names;LListDesk$Functions;)V"⟩, prog_6_method_1_code, 4, none, 3, [(0, .aload 0, 1, 0), (1, .invokespecial 903, 3, 3), (4, .aload 0, 1, 0), (5, .aload 1, 1, 0), (6, .putfield 20300, 3, 9), (9, .aload 0, 1, 0), (10, .aload 2, 1, 0), (11, .putfield 20301, 3, 15), (14, .aload 0, 1, 0), (15, .aload 3, 1, 0), (16, .putfield 20302, 3, 19), (19, .aload 0, 1, 0), (20, .new 2, 3, 23), (23, .dup, 1, 0), (24, .invokespecial 19, 3, 25), (27, .putfield 20303, 3, 26), (30, .aload 0, 1, 0), (31, .new 5, 3, 30), (34, .dup, 1, 0), (35, .invokespecial 65, 3, 32), (38, .putfield 20304, 3, 33), (41, .aload 0, 1, 0), (42, .iconst 6405, 3, 2), (45, .newarray .long, 2, 0), (47, .putfield 20305, 3, 37), (50, .aload 0, 1, 0), (51, .iconst 60, 2, 1), (53, .newarray .int, 2, 0), (55, .putfield 20306, 3, 41), (58, .aload 0, 1, 0), (59, .iconst 60, 2, 1), (61, .newarray .int, 2, 0), (63, .putfield 20307, 3, 45), (66, .aload 0, 1, 0), (67, .iconst 0, 1, 0), (68, .putfield 313, 3, 48), (71, .aload 0, 1, 0), (72, .iconst (-1), 1, 0), (73, .putfield 314, 3, 52), (76, .return_, 1, 0)], [])
/-- 30: ListDesk$Machine.clear()V -/
def am_m30 : amM := ("ListDesk$Machine", ⟨"ListDesk$Machine", "clear", "()V"⟩, prog_6_method_2_code, 1, none, 0, [(0, .aload 0, 1, 0), (1, .getfield 303, 3, 26), (4, .invokevirtual 20, 3, 55), (7, .aload 0, 1, 0), (8, .getfield 304, 3, 33), (11, .invokevirtual 66, 3, 58), (14, .aload 0, 1, 0), (15, .iconst 0, 1, 0), (16, .putfield 308, 3, 59), (19, .aload 0, 1, 0), (20, .iconst 0, 1, 0), (21, .putfield 309, 3, 62), (24, .aload 0, 1, 0), (25, .iconst 0, 1, 0), (26, .putfield 310, 3, 65), (29, .aload 0, 1, 0), (30, .iconst 0, 1, 0), (31, .putfield 311, 3, 68), (34, .aload 0, 1, 0), (35, .iconst 0, 1, 0), (36, .putfield 312, 3, 71), (39, .aload 0, 1, 0), (40, .iconst 0, 1, 0), (41, .putfield 313, 3, 48), (44, .aload 0, 1, 0), (45, .iconst (-1), 1, 0), (46, .putfield 314, 3, 52), (49, .return_, 1, 0)], [])
/-- 31: ListDesk$Machine.begin()V -/
def am_m31 : amM := ("ListDesk$Machine", ⟨"ListDesk$Machine", "begin", "()V"⟩, prog_6_method_3_code, 1, none, 0, [(0, .aload 0, 1, 0), (1, .iconst 2, 1, 0), (2, .putfield 313, 3, 48), (5, .return_, 1, 0)], [])
/-- 32: ListDesk$Machine.goOn(I)I -/
def am_m32 : amM := ("ListDesk$Machine", ⟨"ListDesk$Machine", "goOn", "(I)I"⟩, prog_6_method_4_code, 7, (some .int), 1, [(0, .iload 1, 1, 0), (1, .istore 2, 1, 0), (2, .iconst 0, 1, 0), (3, .istore 3, 1, 0), (4, .iload 3, 1, 0), (5, .iconst 1000000, 2, 84), (7, .if_icmp .ge 174, 3, 0), (10, .aload 0, 1, 0), (11, .getfield 313, 3, 48), (14, .iconst 2, 1, 0), (15, .if_icmp .ne 174, 3, 0), (18, .aload 0, 1, 0), (19, .getfield 300, 3, 9), (22, .aload 0, 1, 0), (23, .getfield 310, 3, 65), (26, .invokevirtual 4, 3, 75), (29, .istore 4, 2, 0), (31, .iload 4, 2, 0), (33, .iconst 6, 2, 1), (35, .if_icmp .gt 60, 3, 0), (38, .iload 2, 1, 0), (39, .ifCond .ne 47, 3, 0), (42, .aload 0, 1, 0), (43, .getfield 313, 3, 48), (46, .ireturn, 1, 0), (47, .iinc 2 (-1), 3, 0), (50, .aload 0, 1, 0), (51, .dup, 1, 0), (52, .getfield 312, 3, 71), (55, .iconst 1, 1, 0), (56, .iadd, 1, 0), (57, .putfield 312, 3, 71), (60, .aload 0, 1, 0), (61, .getfield 300, 3, 9), (64, .getfield 10001, 3, 81), (67, .aload 0, 1, 0), (68, .getfield 310, 3, 65), (71, .invokestatic 94, 3, 84), (74, .istore 5, 2, 0), (76, .aload 0, 1, 0), (77, .getfield 300, 3, 9), (80, .getfield 10002, 3, 90), (83, .aload 0, 1, 0), (84, .getfield 310, 3, 65), (87, .invokestatic 94, 3, 84), (90, .istore 6, 2, 0), (92, .aload 0, 1, 0), (93, .dup, 1, 0), (94, .getfield 310, 3, 65), (97, .iconst 1, 1, 0), (98, .iadd, 1, 0), (99, .putfield 310, 3, 65), (102, .iload 4, 2, 0), (104, .iconst 6, 2, 1), (106, .if_icmp .gt 122, 3, 0), (109, .aload 0, 1, 0), (110, .iload 4, 2, 0), (112, .iload 5, 2, 0), (114, .iload 6, 2, 0), (116, .invokevirtual 33, 3, 93), (119, .goto 168, 3, 0), (122, .iload 4, 2, 0), (124, .iconst 16, 2, 1), (126, .if_icmp .gt 142, 3, 0), (129, .aload 0, 1, 0), (130, .iload 4, 2, 0), (132, .iload 5, 2, 0), (134, .iload 6, 2, 0), (136, .invokevirtual 34, 3, 97), (139, .goto 168, 3, 0), (142, .iload 4, 2, 0), (144, .iconst 22, 2, 1), (146, .if_icmp .gt 160, 3, 0), (149, .aload 0, 1, 0), (150, .iload 4, 2, 0), (152, .iload 6, 2, 0), (154, .invokevirtual 48, 3, 100), (157, .goto 168, 3, 0), (160, .aload 0, 1, 0), (161, .iload 4, 2, 0), (163, .iload 6, 2, 0), (165, .invokevirtual 51, 3, 104), (168, .iinc 3 1, 3, 0), (171, .goto 4, 3, 0), (174, .aload 0, 1, 0), (175, .getfield 313, 3, 48), (178, .ireturn, 1, 0)], [])
/-- 33: ListDesk$Machine.beginExpression(III)V -/
def am_m33 : amM := ("ListDesk$Machine", ⟨"ListDesk$Machine", "beginExpression", "(III)V"⟩, prog_6_method_5_code, 4, none, 3, [(0, .iload 1, 1, 0), (1, .tableswitch 108 2 6 #[36, 48, 58, 77, 86], 35, 0), (36, .aload 0, 1, 0), (37, .iconst 0, 1, 0), (38, .iload 2, 1, 0), (39, .invokestatic 111, 3, 109), (42, .invokevirtual 37, 3, 113), (45, .goto 108, 3, 0), (48, .aload 0, 1, 0), (49, .jsr_w 4294967296, 3, 117), (52, .invokevirtual 37, 3, 113), (55, .goto 108, 3, 0), (58, .aload 0, 1, 0), (59, .aload 0, 1, 0), (60, .getfield 303, 3, 26), (63, .aload 0, 1, 0), (64, .iload 2, 1, 0), (65, .invokevirtual 41, 3, 119), (68, .invokevirtual 27, 3, 123), (71, .invokevirtual 37, 3, 113), (74, .goto 108, 3, 0), (77, .aload 0, 1, 0), (78, .iload 2, 1, 0), (79, .iload 3, 1, 0), (80, .invokevirtual 42, 3, 127), (83, .goto 108, 3, 0), (86, .aload 0, 1, 0), (87, .aload 0, 1, 0), (88, .getfield 303, 3, 26), (91, .iconst 4, 1, 0), (92, .jsr_w 4294967296, 3, 117), (95, .jsr_w 4294967296, 3, 117), (98, .invokevirtual 21, 3, 130), (101, .iload 3, 1, 0), (102, .invokevirtual 40, 3, 134), (105, .goto 108, 3, 0), (108, .return_, 1, 0)], [])
/-- 34: ListDesk$Machine.obey(III)V -/
def am_m34 : amM := ("ListDesk$Machine", ⟨"ListDesk$Machine", "obey", "(III)V"⟩, prog_6_method_6_code, 4, none, 3, [(0, .iload 1, 1, 0), (1, .tableswitch 180 7 16 #[56, 64, 72, 80, 104, 113, 138, 153, 163, 173], 55, 0), (56, .aload 0, 1, 0), (57, .iconst 1, 1, 0), (58, .putfield 313, 3, 48), (61, .goto 180, 3, 0), (64, .aload 0, 1, 0), (65, .invokevirtual 38, 3, 138), (68, .pop2, 1, 0), (69, .goto 180, 3, 0), (72, .aload 0, 1, 0), (73, .iload 2, 1, 0), (74, .putfield 310, 3, 65), (77, .goto 180, 3, 0), (80, .aload 0, 1, 0), (81, .aload 0, 1, 0), (82, .invokevirtual 38, 3, 138), (85, .jsr_w 0, 1, 0), (86, .lcmp, 1, 0), (87, .ifCond .ne 94, 3, 0), (90, .iload 2, 1, 0), (91, .goto 98, 3, 0), (94, .aload 0, 1, 0), (95, .getfield 310, 3, 65), (98, .putfield 310, 3, 65), (101, .goto 180, 3, 0), (104, .aload 0, 1, 0), (105, .iload 2, 1, 0), (106, .iload 3, 1, 0), (107, .invokevirtual 43, 3, 142), (110, .goto 180, 3, 0), (113, .aload 0, 1, 0), (114, .getfield 303, 3, 26), (117, .aload 0, 1, 0), (118, .iload 2, 1, 0), (119, .invokevirtual 41, 3, 119), (122, .aload 0, 1, 0), (123, .aload 0, 1, 0), (124, .getfield 308, 3, 59), (127, .iconst 1, 1, 0), (128, .isub, 1, 0), (129, .invokevirtual 36, 3, 145), (132, .invokevirtual 28, 3, 148), (135, .goto 180, 3, 0), (138, .aload 0, 1, 0), (139, .aload 0, 1, 0), (140, .getfield 308, 3, 59), (143, .iconst 1, 1, 0), (144, .isub, 1, 0), (145, .iload 2, 1, 0), (146, .isub, 1, 0), (147, .invokevirtual 39, 3, 152), (150, .goto 180, 3, 0), (153, .aload 0, 1, 0), (154, .iload 2, 1, 0), (155, .iconst 0, 1, 0), (156, .iload 3, 1, 0), (157, .invokevirtual 44, 3, 156), (160, .goto 180, 3, 0), (163, .aload 0, 1, 0), (164, .iload 2, 1, 0), (165, .iconst 1, 1, 0), (166, .iload 3, 1, 0), (167, .invokevirtual 44, 3, 156), (170, .goto 180, 3, 0), (173, .aload 0, 1, 0), (174, .invokevirtual 47, 3, 160), (177, .goto 180, 3, 0), (180, .return_, 1, 0)], [])
/-- 35: ListDesk$Machine.stop(II)V -/
def am_m35 : amM := ("ListDesk$Machine", ⟨"ListDesk$Machine", "stop", "(II)V"⟩, prog_6_method_7_code, 3, none, 2, [(0, .aload 0, 1, 0), (1, .iload 1, 1, 0), (2, .putfield 313, 3, 48), (5, .aload 0, 1, 0), (6, .iload 2, 1, 0), (7, .putfield 314, 3, 52), (10, .return_, 1, 0)], [])
/-- 36: ListDesk$Machine.inStack(I)J -/
def am_m36 : amM := ("ListDesk$Machine", ⟨"ListDesk$Machine", "inStack", "(I)J"⟩, prog_6_method_8_code, 2, (some .long), 1, [(0, .aload 0, 1, 0), (1, .getfield 305, 3, 37), (4, .iload 1, 1, 0), (5, .invokestatic 96, 3, 163), (8, .lreturn, 1, 0)], [])
/-- 37: ListDesk$Machine.push(J)V -/
def am_m37 : amM := ("ListDesk$Machine", ⟨"ListDesk$Machine", "push", "(J)V"⟩, prog_6_method_9_code, 3, none, 1, [(0, .aload 0, 1, 0), (1, .getfield 305, 3, 37), (4, .aload 0, 1, 0), (5, .getfield 308, 3, 59), (8, .lload 1, 1, 0), (9, .invokestatic 97, 3, 166), (12, .aload 0, 1, 0), (13, .dup, 1, 0), (14, .getfield 308, 3, 59), (17, .iconst 1, 1, 0), (18, .iadd, 1, 0), (19, .putfield 308, 3, 59), (22, .return_, 1, 0)], [])
/-- 38: ListDesk$Machine.pop()J -/
def am_m38 : amM := ("ListDesk$Machine", ⟨"ListDesk$Machine", "pop", "()J"⟩, prog_6_method_10_code, 1, (some .long), 0, [(0, .aload 0, 1, 0), (1, .dup, 1, 0), (2, .getfield 308, 3, 59), (5, .iconst 1, 1, 0), (6, .isub, 1, 0), (7, .putfield 308, 3, 59), (10, .aload 0, 1, 0), (11, .aload 0, 1, 0), (12, .getfield 308, 3, 59), (15, .invokevirtual 36, 3, 145), (18, .lreturn, 1, 0)], [])
/-- 39: ListDesk$Machine.dropTo(I)V -/
def am_m39 : amM := ("ListDesk$Machine", ⟨"ListDesk$Machine", "dropTo", "(I)V"⟩, prog_6_method_11_code, 4, none, 1, [(0, .aload 0, 1, 0), (1, .aload 0, 1, 0), (2, .getfield 308, 3, 59), (5, .iconst 1, 1, 0), (6, .isub, 1, 0), (7, .invokevirtual 36, 3, 145), (10, .lstore 2, 1, 0), (11, .aload 0, 1, 0), (12, .iload 1, 1, 0), (13, .putfield 308, 3, 59), (16, .aload 0, 1, 0), (17, .lload 2, 1, 0), (18, .invokevirtual 37, 3, 113), (21, .return_, 1, 0)], [])
/-- 40: ListDesk$Machine.pushObject(JI)V -/
def am_m40 : amM := ("ListDesk$Machine", ⟨"ListDesk$Machine", "pushObject", "(JI)V"⟩, prog_6_method_12_code, 4, none, 2, [(0, .lload 1, 1, 0), (1, .jsr_w 21474836480, 3, 170), (4, .lcmp, 1, 0), (5, .ifCond .ne 17, 3, 0), (8, .aload 0, 1, 0), (9, .iconst 5, 1, 0), (10, .iload 3, 1, 0), (11, .invokevirtual 35, 3, 172), (14, .goto 22, 3, 0), (17, .aload 0, 1, 0), (18, .lload 1, 1, 0), (19, .invokevirtual 37, 3, 113), (22, .return_, 1, 0)], [])
/-- 41: ListDesk$Machine.find(I)J -/
def am_m41 : amM := ("ListDesk$Machine", ⟨"ListDesk$Machine", "find", "(I)J"⟩, prog_6_method_13_code, 2, (some .long), 1, [(0, .iload 1, 1, 0), (1, .ifCond .lt 17, 3, 0), (4, .aload 0, 1, 0), (5, .aload 0, 1, 0), (6, .getfield 309, 3, 62), (9, .iload 1, 1, 0), (10, .iadd, 1, 0), (11, .invokevirtual 36, 3, 145), (14, .goto 37, 3, 0), (17, .aload 0, 1, 0), (18, .getfield 303, 3, 26), (21, .aload 0, 1, 0), (22, .aload 0, 1, 0), (23, .getfield 309, 3, 62), (26, .iconst 1, 1, 0), (27, .isub, 1, 0), (28, .invokevirtual 36, 3, 145), (31, .iconst (-1), 1, 0), (32, .iload 1, 1, 0), (33, .isub, 1, 0), (34, .invokevirtual 26, 3, 175), (37, .lreturn, 1, 0)], [])
/-- 42: ListDesk$Machine.makeFunction(II)V -/
def am_m42 : amM := ("ListDesk$Machine", ⟨"ListDesk$Machine", "makeFunction", "(II)V"⟩, prog_6_method_14_code, 7, none, 2, [(0, .aload 0, 1, 0), (1, .getfield 303, 3, 26), (4, .iconst 3, 1, 0), (5, .iload 1, 1, 0), (6, .i2l, 1, 0), (7, .aload 0, 1, 0), (8, .getfield 303, 3, 26), (11, .getfield 10204, 3, 179), (14, .i2l, 1, 0), (15, .invokevirtual 21, 3, 130), (18, .lstore 3, 1, 0), (19, .lload 3, 1, 0), (20, .jsr_w 21474836480, 3, 170), (23, .lcmp, 1, 0), (24, .ifCond .ne 34, 3, 0), (27, .aload 0, 1, 0), (28, .iconst 5, 1, 0), (29, .iload 2, 1, 0), (30, .invokevirtual 35, 3, 172), (33, .return_, 1, 0), (34, .aload 0, 1, 0), (35, .getfield 302, 3, 19), (38, .iload 1, 1, 0), (39, .invokevirtual 17, 3, 182), (42, .istore 5, 2, 0), (44, .iconst 0, 1, 0), (45, .istore 6, 2, 0), (47, .iload 6, 2, 0), (49, .iload 5, 2, 0), (51, .if_icmp .ge 81, 3, 0), (54, .aload 0, 1, 0), (55, .getfield 303, 3, 26), (58, .aload 0, 1, 0), (59, .aload 0, 1, 0), (60, .getfield 302, 3, 19), (63, .iload 1, 1, 0), (64, .iload 6, 2, 0), (66, .invokevirtual 18, 3, 186), (69, .invokevirtual 41, 3, 119), (72, .invokevirtual 22, 3, 190), (75, .iinc 6 1, 3, 0), (78, .goto 47, 3, 0), (81, .aload 0, 1, 0), (82, .lload 3, 1, 0), (83, .invokevirtual 37, 3, 113), (86, .aload 0, 1, 0), (87, .aload 0, 1, 0), (88, .getfield 302, 3, 19), (91, .iload 1, 1, 0), (92, .invokevirtual 14, 3, 193), (95, .putfield 310, 3, 65), (98, .return_, 1, 0)], [])
/-- 43: ListDesk$Machine.bind(II)V -/
def am_m43 : amM := ("ListDesk$Machine", ⟨"ListDesk$Machine", "bind", "(II)V"⟩, prog_6_method_15_code, 6, none, 2, [(0, .aload 0, 1, 0), (1, .getfield 301, 3, 15), (4, .iload 1, 1, 0), (5, .invokevirtual 63, 3, 196), (8, .ifCond .ne 12, 3, 0), (11, .return_, 1, 0), (12, .aload 0, 1, 0), (13, .getfield 309, 3, 62), (16, .aload 0, 1, 0), (17, .getfield 301, 3, 15), (20, .iload 1, 1, 0), (21, .invokevirtual 61, 3, 202), (24, .iadd, 1, 0), (25, .istore 3, 1, 0), (26, .aload 0, 1, 0), (27, .getfield 303, 3, 26), (30, .iconst 4, 1, 0), (31, .aload 0, 1, 0), (32, .iload 3, 1, 0), (33, .invokevirtual 36, 3, 145), (36, .jsr_w 4294967296, 3, 117), (39, .invokevirtual 21, 3, 130), (42, .lstore 4, 2, 0), (44, .lload 4, 2, 0), (46, .jsr_w 21474836480, 3, 170), (49, .lcmp, 1, 0), (50, .ifCond .ne 60, 3, 0), (53, .aload 0, 1, 0), (54, .iconst 5, 1, 0), (55, .iload 2, 1, 0), (56, .invokevirtual 35, 3, 172), (59, .return_, 1, 0), (60, .aload 0, 1, 0), (61, .getfield 305, 3, 37), (64, .iload 3, 1, 0), (65, .lload 4, 2, 0), (67, .invokestatic 97, 3, 166), (70, .return_, 1, 0)], [])
/-- 44: ListDesk$Machine.call(IZI)V -/
def am_m44 : amM := ("ListDesk$Machine", ⟨"ListDesk$Machine", "call", "(IZI)V"⟩, prog_6_method_16_code, 9, none, 3, [(0, .aload 0, 1, 0), (1, .aload 0, 1, 0), (2, .getfield 308, 3, 59), (5, .iload 1, 1, 0), (6, .isub, 1, 0), (7, .iconst 1, 1, 0), (8, .isub, 1, 0), (9, .invokevirtual 36, 3, 145), (12, .lstore 4, 2, 0), (14, .aload 0, 1, 0), (15, .getfield 303, 3, 26), (18, .lload 4, 2, 0), (20, .invokevirtual 25, 3, 205), (23, .istore 6, 2, 0), (25, .lload 4, 2, 0), (27, .invokestatic 112, 3, 209), (30, .iconst 3, 1, 0), (31, .if_icmp .ne 47, 3, 0), (34, .aload 0, 1, 0), (35, .getfield 302, 3, 19), (38, .iload 6, 2, 0), (40, .invokevirtual 15, 3, 212), (43, .iload 1, 1, 0), (44, .if_icmp .eq 54, 3, 0), (47, .aload 0, 1, 0), (48, .iconst 3, 1, 0), (49, .iload 3, 1, 0), (50, .invokevirtual 35, 3, 172), (53, .return_, 1, 0), (54, .iload 2, 1, 0), (55, .ifCond .eq 66, 3, 0), (58, .aload 0, 1, 0), (59, .iload 1, 1, 0), (60, .invokevirtual 45, 3, 215), (63, .goto 90, 3, 0), (66, .aload 0, 1, 0), (67, .getfield 311, 3, 68), (70, .iconst 60, 2, 1), (72, .if_icmp .ge 83, 3, 0), (75, .aload 0, 1, 0), (76, .iload 1, 1, 0), (77, .invokevirtual 46, 3, 218), (80, .goto 90, 3, 0), (83, .aload 0, 1, 0), (84, .iconst 4, 1, 0), (85, .iload 3, 1, 0), (86, .invokevirtual 35, 3, 172), (89, .return_, 1, 0), (90, .aload 0, 1, 0), (91, .aload 0, 1, 0), (92, .getfield 302, 3, 19), (95, .iload 6, 2, 0), (97, .invokevirtual 13, 3, 221), (100, .putfield 310, 3, 65), (103, .aload 0, 1, 0), (104, .getfield 302, 3, 19), (107, .iload 6, 2, 0), (109, .invokevirtual 16, 3, 224), (112, .istore 7, 2, 0), (114, .iconst 0, 1, 0), (115, .istore 8, 2, 0), (117, .iload 8, 2, 0), (119, .iload 1, 1, 0), (120, .if_icmp .ge 147, 3, 0), (123, .aload 0, 1, 0), (124, .getfield 313, 3, 48), (127, .iconst 2, 1, 0), (128, .if_icmp .ne 147, 3, 0), (131, .aload 0, 1, 0), (132, .iload 7, 2, 0), (134, .iload 8, 2, 0), (136, .iadd, 1, 0), (137, .iload 3, 1, 0), (138, .invokevirtual 43, 3, 142), (141, .iinc 8 1, 3, 0), (144, .goto 117, 3, 0), (147, .return_, 1, 0)], [])
/-- 45: ListDesk$Machine.replaceFrame(I)V -/
def am_m45 : amM := ("ListDesk$Machine", ⟨"ListDesk$Machine", "replaceFrame", "(I)V"⟩, prog_6_method_17_code, 4, none, 1, [(0, .aload 0, 1, 0), (1, .getfield 308, 3, 59), (4, .iload 1, 1, 0), (5, .isub, 1, 0), (6, .iconst 1, 1, 0), (7, .isub, 1, 0), (8, .istore 2, 1, 0), (9, .iconst 0, 1, 0), (10, .istore 3, 1, 0), (11, .iload 3, 1, 0), (12, .iload 1, 1, 0), (13, .if_icmp .gt 44, 3, 0), (16, .aload 0, 1, 0), (17, .getfield 305, 3, 37), (20, .aload 0, 1, 0), (21, .getfield 309, 3, 62), (24, .iconst 1, 1, 0), (25, .isub, 1, 0), (26, .iload 3, 1, 0), (27, .iadd, 1, 0), (28, .aload 0, 1, 0), (29, .iload 2, 1, 0), (30, .iload 3, 1, 0), (31, .iadd, 1, 0), (32, .invokevirtual 36, 3, 145), (35, .invokestatic 97, 3, 166), (38, .iinc 3 1, 3, 0), (41, .goto 11, 3, 0), (44, .aload 0, 1, 0), (45, .aload 0, 1, 0), (46, .getfield 309, 3, 62), (49, .iload 1, 1, 0), (50, .iadd, 1, 0), (51, .putfield 308, 3, 59), (54, .return_, 1, 0)], [])
/-- 46: ListDesk$Machine.addFrame(I)V -/
def am_m46 : amM := ("ListDesk$Machine", ⟨"ListDesk$Machine", "addFrame", "(I)V"⟩, prog_6_method_18_code, 2, none, 1, [(0, .aload 0, 1, 0), (1, .getfield 306, 3, 41), (4, .aload 0, 1, 0), (5, .getfield 311, 3, 68), (8, .aload 0, 1, 0), (9, .getfield 310, 3, 65), (12, .invokestatic 95, 3, 227), (15, .aload 0, 1, 0), (16, .getfield 307, 3, 45), (19, .aload 0, 1, 0), (20, .getfield 311, 3, 68), (23, .aload 0, 1, 0), (24, .getfield 309, 3, 62), (27, .invokestatic 95, 3, 227), (30, .aload 0, 1, 0), (31, .dup, 1, 0), (32, .getfield 311, 3, 68), (35, .iconst 1, 1, 0), (36, .iadd, 1, 0), (37, .putfield 311, 3, 68), (40, .aload 0, 1, 0), (41, .aload 0, 1, 0), (42, .getfield 308, 3, 59), (45, .iload 1, 1, 0), (46, .isub, 1, 0), (47, .putfield 309, 3, 62), (50, .return_, 1, 0)], [])
/-- 47: ListDesk$Machine.goBack()V -/
def am_m47 : amM := ("ListDesk$Machine", ⟨"ListDesk$Machine", "goBack", "()V"⟩, prog_6_method_19_code, 1, none, 0, [(0, .aload 0, 1, 0), (1, .aload 0, 1, 0), (2, .getfield 309, 3, 62), (5, .iconst 1, 1, 0), (6, .isub, 1, 0), (7, .invokevirtual 39, 3, 152), (10, .aload 0, 1, 0), (11, .dup, 1, 0), (12, .getfield 311, 3, 68), (15, .iconst 1, 1, 0), (16, .isub, 1, 0), (17, .putfield 311, 3, 68), (20, .aload 0, 1, 0), (21, .aload 0, 1, 0), (22, .getfield 306, 3, 41), (25, .aload 0, 1, 0), (26, .getfield 311, 3, 68), (29, .invokestatic 94, 3, 84), (32, .putfield 310, 3, 65), (35, .aload 0, 1, 0), (36, .aload 0, 1, 0), (37, .getfield 307, 3, 45), (40, .aload 0, 1, 0), (41, .getfield 311, 3, 68), (44, .invokestatic 94, 3, 84), (47, .putfield 309, 3, 62), (50, .return_, 1, 0)], [])
/-- 48: ListDesk$Machine.primitiveOfOne(II)V -/
def am_m48 : amM := ("ListDesk$Machine", ⟨"ListDesk$Machine", "primitiveOfOne", "(II)V"⟩, prog_6_method_20_code, 5, none, 2, [(0, .aload 0, 1, 0), (1, .invokevirtual 38, 3, 138), (4, .lstore 3, 1, 0), (5, .iload 1, 1, 0), (6, .tableswitch 112 19 22 #[36, 59, 82, 103], 30, 0), (36, .aload 0, 1, 0), (37, .lload 3, 1, 0), (38, .invokestatic 112, 3, 209), (41, .iconst 2, 1, 0), (42, .if_icmp .ne 49, 3, 0), (45, .iconst 1, 1, 0), (46, .goto 50, 3, 0), (49, .iconst 0, 1, 0), (50, .invokestatic 114, 3, 230), (53, .invokevirtual 37, 3, 113), (56, .goto 119, 3, 0), (59, .aload 0, 1, 0), (60, .lload 3, 1, 0), (61, .jsr_w 4294967296, 3, 117), (64, .lcmp, 1, 0), (65, .ifCond .ne 72, 3, 0), (68, .iconst 1, 1, 0), (69, .goto 73, 3, 0), (72, .iconst 0, 1, 0), (73, .invokestatic 114, 3, 230), (76, .invokevirtual 37, 3, 113), (79, .goto 119, 3, 0), (82, .aload 0, 1, 0), (83, .lload 3, 1, 0), (84, .jsr_w 0, 1, 0), (85, .lcmp, 1, 0), (86, .ifCond .ne 93, 3, 0), (89, .iconst 1, 1, 0), (90, .goto 94, 3, 0), (93, .iconst 0, 1, 0), (94, .invokestatic 114, 3, 230), (97, .invokevirtual 37, 3, 113), (100, .goto 119, 3, 0), (103, .aload 0, 1, 0), (104, .lload 3, 1, 0), (105, .iload 2, 1, 0), (106, .invokevirtual 49, 3, 234), (109, .goto 119, 3, 0), (112, .aload 0, 1, 0), (113, .iload 1, 1, 0), (114, .lload 3, 1, 0), (115, .iload 2, 1, 0), (116, .invokevirtual 50, 3, 237), (119, .return_, 1, 0)], [])
/-- 49: ListDesk$Machine.putOut(JI)V -/
def am_m49 : amM := ("ListDesk$Machine", ⟨"ListDesk$Machine", "putOut", "(JI)V"⟩, prog_6_method_21_code, 4, none, 2, [(0, .lload 1, 1, 0), (1, .invokestatic 112, 3, 209), (4, .ifCond .eq 14, 3, 0), (7, .aload 0, 1, 0), (8, .iconst 3, 1, 0), (9, .iload 3, 1, 0), (10, .invokevirtual 35, 3, 172), (13, .return_, 1, 0), (14, .aload 0, 1, 0), (15, .getfield 304, 3, 33), (18, .lload 1, 1, 0), (19, .invokestatic 113, 3, 241), (22, .invokevirtual 67, 3, 244), (25, .aload 0, 1, 0), (26, .jsr_w 4294967296, 3, 117), (29, .invokevirtual 37, 3, 113), (32, .return_, 1, 0)], [])
/-- 50: ListDesk$Machine.takeApart(IJI)V -/
def am_m50 : amM := ("ListDesk$Machine", ⟨"ListDesk$Machine", "takeApart", "(IJI)V"⟩, prog_6_method_22_code, 5, none, 3, [(0, .lload 2, 1, 0), (1, .invokestatic 112, 3, 209), (4, .iconst 2, 1, 0), (5, .if_icmp .eq 16, 3, 0), (8, .aload 0, 1, 0), (9, .iconst 3, 1, 0), (10, .iload 4, 2, 0), (12, .invokevirtual 35, 3, 172), (15, .return_, 1, 0), (16, .aload 0, 1, 0), (17, .iload 1, 1, 0), (18, .iconst 17, 2, 1), (20, .if_icmp .ne 34, 3, 0), (23, .aload 0, 1, 0), (24, .getfield 303, 3, 26), (27, .lload 2, 1, 0), (28, .invokevirtual 23, 3, 247), (31, .goto 42, 3, 0), (34, .aload 0, 1, 0), (35, .getfield 303, 3, 26), (38, .lload 2, 1, 0), (39, .invokevirtual 24, 3, 250), (42, .invokevirtual 37, 3, 113), (45, .return_, 1, 0)], [])
/-- 51: ListDesk$Machine.primitiveOfTwo(II)V -/
def am_m51 : amM := ("ListDesk$Machine", ⟨"ListDesk$Machine", "primitiveOfTwo", "(II)V"⟩, prog_6_method_23_code, 7, none, 2, [(0, .aload 0, 1, 0), (1, .invokevirtual 38, 3, 138), (4, .lstore 3, 1, 0), (5, .aload 0, 1, 0), (6, .invokevirtual 38, 3, 138), (9, .lstore 5, 2, 0), (11, .iload 1, 1, 0), (12, .iconst 23, 2, 1), (14, .if_icmp .ne 39, 3, 0), (17, .aload 0, 1, 0), (18, .lload 5, 2, 0), (20, .lload 3, 1, 0), (21, .lcmp, 1, 0), (22, .ifCond .ne 29, 3, 0), (25, .iconst 1, 1, 0), (26, .goto 30, 3, 0), (29, .iconst 0, 1, 0), (30, .invokestatic 114, 3, 230), (33, .invokevirtual 37, 3, 113), (36, .goto 109, 3, 0), (39, .iload 1, 1, 0), (40, .iconst 24, 2, 1), (42, .if_icmp .ne 64, 3, 0), (45, .aload 0, 1, 0), (46, .aload 0, 1, 0), (47, .getfield 303, 3, 26), (50, .iconst 2, 1, 0), (51, .lload 5, 2, 0), (53, .lload 3, 1, 0), (54, .invokevirtual 21, 3, 130), (57, .iload 2, 1, 0), (58, .invokevirtual 40, 3, 134), (61, .goto 109, 3, 0), (64, .lload 5, 2, 0), (66, .invokestatic 112, 3, 209), (69, .ifCond .ne 79, 3, 0), (72, .lload 3, 1, 0), (73, .invokestatic 112, 3, 209), (76, .ifCond .eq 88, 3, 0), (79, .aload 0, 1, 0), (80, .iconst 3, 1, 0), (81, .iload 2, 1, 0), (82, .invokevirtual 35, 3, 172), (85, .goto 109, 3, 0), (88, .aload 0, 1, 0), (89, .iconst 0, 1, 0), (90, .iload 1, 1, 0), (91, .lload 5, 2, 0), (93, .invokestatic 113, 3, 241), (96, .lload 3, 1, 0), (97, .invokestatic 113, 3, 241), (100, .invokestatic 52, 3, 253), (103, .invokestatic 111, 3, 109), (106, .invokevirtual 37, 3, 113), (109, .return_, 1, 0)], [])
/-- 52: ListDesk$Machine.reckon(III)I -/
def am_m52 : amM := ("ListDesk$Machine", ⟨"ListDesk$Machine", "reckon", "(III)I"⟩, prog_6_method_24_code, 3, (some .int), 3, [(0, .iload 0, 1, 0), (1, .tableswitch 55 25 28 #[32, 36, 40, 44], 31, 0), (32, .iload 1, 1, 0), (33, .iload 2, 1, 0), (34, .iadd, 1, 0), (35, .ireturn, 1, 0), (36, .iload 1, 1, 0), (37, .iload 2, 1, 0), (38, .isub, 1, 0), (39, .ireturn, 1, 0), (40, .iload 1, 1, 0), (41, .iload 2, 1, 0), (42, .imul, 1, 0), (43, .ireturn, 1, 0), (44, .iload 1, 1, 0), (45, .iload 2, 1, 0), (46, .if_icmp .ge 53, 3, 0), (49, .iconst 1, 1, 0), (50, .goto 54, 3, 0), (53, .iconst 0, 1, 0), (54, .ireturn, 1, 0), (55, .iload 1, 1, 0), (56, .iload 2, 1, 0), (57, .if_icmp .ne 64, 3, 0), (60, .iconst 1, 1, 0), (61, .goto 65, 3, 0), (64, .iconst 0, 1, 0), (65, .ireturn, 1, 0)], [])
/-- 53: ListDesk$Machine.part(I)J -/
def am_m53 : amM := ("ListDesk$Machine", ⟨"ListDesk$Machine", "part", "(I)J"⟩, prog_6_method_25_code, 6, (some .long), 1, [(0, .aload 0, 1, 0), (1, .aload 0, 1, 0), (2, .getfield 308, 3, 59), (5, .iconst 1, 1, 0), (6, .isub, 1, 0), (7, .invokevirtual 36, 3, 145), (10, .lstore 2, 1, 0), (11, .iconst 30, 2, 1), (13, .istore 4, 2, 0), (15, .iload 4, 2, 0), (17, .ifCond .le 33, 3, 0), (20, .iload 1, 1, 0), (21, .iload 4, 2, 0), (23, .iushr, 1, 0), (24, .ifCond .ne 33, 3, 0), (27, .iinc 4 (-1), 3, 0), (30, .goto 15, 3, 0), (33, .iload 4, 2, 0), (35, .iconst 1, 1, 0), (36, .isub, 1, 0), (37, .istore 5, 2, 0), (39, .iload 5, 2, 0), (41, .ifCond .lt 91, 3, 0), (44, .lload 2, 1, 0), (45, .invokestatic 112, 3, 209), (48, .iconst 2, 1, 0), (49, .if_icmp .eq 56, 3, 0), (52, .jsr_w 21474836480, 3, 170), (55, .lreturn, 1, 0), (56, .iload 1, 1, 0), (57, .iload 5, 2, 0), (59, .iushr, 1, 0), (60, .iconst 1, 1, 0), (61, .iand, 1, 0), (62, .ifCond .ne 76, 3, 0), (65, .aload 0, 1, 0), (66, .getfield 303, 3, 26), (69, .lload 2, 1, 0), (70, .invokevirtual 23, 3, 247), (73, .goto 84, 3, 0), (76, .aload 0, 1, 0), (77, .getfield 303, 3, 26), (80, .lload 2, 1, 0), (81, .invokevirtual 24, 3, 250), (84, .lstore 2, 1, 0), (85, .iinc 5 (-1), 3, 0), (88, .goto 39, 3, 0), (91, .lload 2, 1, 0), (92, .lreturn, 1, 0)], [])
/-- 54: ListDesk$Names.<init>()V -/
def am_m54 : amM := ("ListDesk$Names", ⟨"ListDesk$Names", "<init>", "()V"⟩, prog_7_method_1_code, 1, none, 0, [(0, .aload 0, 1, 0), (1, .invokespecial 903, 3, 3), (4, .aload 0, 1, 0), (5, .iconst 250, 3, 2), (8, .newarray .int, 2, 0), (10, .putfield 20400, 3, 9), (13, .aload 0, 1, 0), (14, .iconst 250, 3, 2), (17, .newarray .int, 2, 0), (19, .putfield 20401, 3, 15), (22, .aload 0, 1, 0), (23, .iconst 250, 3, 2), (26, .newarray .int, 2, 0), (28, .putfield 20402, 3, 18), (31, .aload 0, 1, 0), (32, .iconst 250, 3, 2), (35, .newarray .boolean, 2, 0), (37, .putfield 20403, 3, 21), (40, .aload 0, 1, 0), (41, .iconst 250, 3, 2), (44, .newarray .int, 2, 0), (46, .putfield 20405, 3, 25), (49, .aload 0, 1, 0), (50, .iconst 250, 3, 2), (53, .newarray .int, 2, 0), (55, .putfield 20407, 3, 28), (58, .return_, 1, 0)], [])
/-- 55: ListDesk$Names.clear()V -/
def am_m55 : amM := ("ListDesk$Names", ⟨"ListDesk$Names", "clear", "()V"⟩, prog_7_method_2_code, 1, none, 0, [(0, .aload 0, 1, 0), (1, .iconst 0, 1, 0), (2, .putfield 404, 3, 31), (5, .aload 0, 1, 0), (6, .iconst 0, 1, 0), (7, .putfield 406, 3, 35), (10, .aload 0, 1, 0), (11, .iconst 0, 1, 0), (12, .putfield 408, 3, 38), (15, .return_, 1, 0)], [])
/-- 56: ListDesk$Names.addPending(I)V -/
def am_m56 : amM := ("ListDesk$Names", ⟨"ListDesk$Names", "addPending", "(I)V"⟩, prog_7_method_3_code, 2, none, 1, [(0, .aload 0, 1, 0), (1, .getfield 407, 3, 28), (4, .aload 0, 1, 0), (5, .getfield 408, 3, 38), (8, .iload 1, 1, 0), (9, .invokestatic 95, 3, 41), (12, .aload 0, 1, 0), (13, .dup, 1, 0), (14, .getfield 408, 3, 38), (17, .iconst 1, 1, 0), (18, .iadd, 1, 0), (19, .putfield 408, 3, 38), (22, .return_, 1, 0)], [])
/-- 57: ListDesk$Names.isPending(II)Z -/
def am_m57 : amM := ("ListDesk$Names", ⟨"ListDesk$Names", "isPending", "(II)Z"⟩, prog_7_method_4_code, 4, (some .boolean), 2, [(0, .iload 1, 1, 0), (1, .istore 3, 1, 0), (2, .iload 3, 1, 0), (3, .aload 0, 1, 0), (4, .getfield 408, 3, 38), (7, .if_icmp .ge 30, 3, 0), (10, .aload 0, 1, 0), (11, .getfield 407, 3, 28), (14, .iload 3, 1, 0), (15, .invokestatic 94, 3, 47), (18, .iload 2, 1, 0), (19, .if_icmp .ne 24, 3, 0), (22, .iconst 1, 1, 0), (23, .ireturn, 1, 0), (24, .iinc 3 1, 3, 0), (27, .goto 2, 3, 0), (30, .iconst 0, 1, 0), (31, .ireturn, 1, 0)], [])
/-- 58: ListDesk$Names.bindPending(III)I -/
def am_m58 : amM := ("ListDesk$Names", ⟨"ListDesk$Names", "bindPending", "(III)I"⟩, prog_7_method_5_code, 6, (some .int), 3, [(0, .aload 0, 1, 0), (1, .getfield 408, 3, 38), (4, .iload 1, 1, 0), (5, .isub, 1, 0), (6, .istore 4, 2, 0), (8, .iconst 0, 1, 0), (9, .istore 5, 2, 0), (11, .iload 5, 2, 0), (13, .iload 4, 2, 0), (15, .if_icmp .ge 117, 3, 0), (18, .aload 0, 1, 0), (19, .getfield 400, 3, 9), (22, .aload 0, 1, 0), (23, .getfield 404, 3, 31), (26, .aload 0, 1, 0), (27, .getfield 407, 3, 28), (30, .iload 1, 1, 0), (31, .iload 5, 2, 0), (33, .iadd, 1, 0), (34, .invokestatic 94, 3, 47), (37, .invokestatic 95, 3, 41), (40, .aload 0, 1, 0), (41, .getfield 401, 3, 15), (44, .aload 0, 1, 0), (45, .getfield 404, 3, 31), (48, .iload 2, 1, 0), (49, .iload 5, 2, 0), (51, .iadd, 1, 0), (52, .invokestatic 95, 3, 41), (55, .aload 0, 1, 0), (56, .getfield 402, 3, 18), (59, .aload 0, 1, 0), (60, .getfield 404, 3, 31), (63, .iload 3, 1, 0), (64, .invokestatic 95, 3, 41), (67, .aload 0, 1, 0), (68, .aload 0, 1, 0), (69, .getfield 404, 3, 31), (72, .iconst 0, 1, 0), (73, .invokevirtual 64, 3, 51), (76, .aload 0, 1, 0), (77, .getfield 405, 3, 25), (80, .aload 0, 1, 0), (81, .getfield 406, 3, 35), (84, .aload 0, 1, 0), (85, .getfield 404, 3, 31), (88, .invokestatic 95, 3, 41), (91, .aload 0, 1, 0), (92, .dup, 1, 0), (93, .getfield 406, 3, 35), (96, .iconst 1, 1, 0), (97, .iadd, 1, 0), (98, .putfield 406, 3, 35), (101, .aload 0, 1, 0), (102, .dup, 1, 0), (103, .getfield 404, 3, 31), (106, .iconst 1, 1, 0), (107, .iadd, 1, 0), (108, .putfield 404, 3, 31), (111, .iinc 5 1, 3, 0), (114, .goto 11, 3, 0), (117, .aload 0, 1, 0), (118, .iload 1, 1, 0), (119, .putfield 408, 3, 38), (122, .iload 4, 2, 0), (124, .ireturn, 1, 0)], [])
/-- 59: ListDesk$Names.release(I)V -/
def am_m59 : amM := ("ListDesk$Names", ⟨"ListDesk$Names", "release", "(I)V"⟩, prog_7_method_6_code, 2, none, 1, [(0, .aload 0, 1, 0), (1, .dup, 1, 0), (2, .getfield 406, 3, 35), (5, .iload 1, 1, 0), (6, .isub, 1, 0), (7, .putfield 406, 3, 35), (10, .return_, 1, 0)], [])
/-- 60: ListDesk$Names.innermost(I)I -/
def am_m60 : amM := ("ListDesk$Names", ⟨"ListDesk$Names", "innermost", "(I)I"⟩, prog_7_method_7_code, 4, (some .int), 1, [(0, .aload 0, 1, 0), (1, .getfield 406, 3, 35), (4, .iconst 1, 1, 0), (5, .isub, 1, 0), (6, .istore 2, 1, 0), (7, .iload 2, 1, 0), (8, .ifCond .lt 40, 3, 0), (11, .aload 0, 1, 0), (12, .getfield 405, 3, 25), (15, .iload 2, 1, 0), (16, .invokestatic 94, 3, 47), (19, .istore 3, 1, 0), (20, .aload 0, 1, 0), (21, .getfield 400, 3, 9), (24, .iload 3, 1, 0), (25, .invokestatic 94, 3, 47), (28, .iload 1, 1, 0), (29, .if_icmp .ne 34, 3, 0), (32, .iload 3, 1, 0), (33, .ireturn, 1, 0), (34, .iinc 2 (-1), 3, 0), (37, .goto 7, 3, 0), (40, .iconst (-1), 1, 0), (41, .ireturn, 1, 0)], [])
/-- 61: ListDesk$Names.slotOf(I)I -/
def am_m61 : amM := ("ListDesk$Names", ⟨"ListDesk$Names", "slotOf", "(I)I"⟩, prog_7_method_8_code, 2, (some .int), 1, [(0, .aload 0, 1, 0), (1, .getfield 401, 3, 15), (4, .iload 1, 1, 0), (5, .invokestatic 94, 3, 47), (8, .ireturn, 1, 0)], [])
/-- 62: ListDesk$Names.levelOf(I)I -/
def am_m62 : amM := ("ListDesk$Names", ⟨"ListDesk$Names", "levelOf", "(I)I"⟩, prog_7_method_9_code, 2, (some .int), 1, [(0, .aload 0, 1, 0), (1, .getfield 402, 3, 18), (4, .iload 1, 1, 0), (5, .invokestatic 94, 3, 47), (8, .ireturn, 1, 0)], [])
/-- 63: ListDesk$Names.isBoxed(I)Z -/
def am_m63 : amM := ("ListDesk$Names", ⟨"ListDesk$Names", "isBoxed", "(I)Z"⟩, prog_7_method_10_code, 2, (some .boolean), 1, [(0, .iload 1, 1, 0), (1, .ifCond .lt 26, 3, 0), (4, .iload 1, 1, 0), (5, .aload 0, 1, 0), (6, .getfield 403, 3, 21), (9, .arraylength, 1, 0), (10, .if_icmp .ge 26, 3, 0), (13, .aload 0, 1, 0), (14, .getfield 403, 3, 21), (17, .iload 1, 1, 0), (18, .baload, 1, 0), (19, .ifCond .eq 26, 3, 0), (22, .iconst 1, 1, 0), (23, .goto 27, 3, 0), (26, .iconst 0, 1, 0), (27, .ireturn, 1, 0)], [])
/-- 64: ListDesk$Names.setBoxed(IZ)V -/
def am_m64 : amM := ("ListDesk$Names", ⟨"ListDesk$Names", "setBoxed", "(IZ)V"⟩, prog_7_method_11_code, 3, none, 2, [(0, .iload 1, 1, 0), (1, .ifCond .lt 20, 3, 0), (4, .iload 1, 1, 0), (5, .aload 0, 1, 0), (6, .getfield 403, 3, 21), (9, .arraylength, 1, 0), (10, .if_icmp .ge 20, 3, 0), (13, .aload 0, 1, 0), (14, .getfield 403, 3, 21), (17, .iload 1, 1, 0), (18, .iload 2, 1, 0), (19, .bastore, 1, 0), (20, .return_, 1, 0)], [])
/-- 65: ListDesk$Output.<init>()V -/
def am_m65 : amM := ("ListDesk$Output", ⟨"ListDesk$Output", "<init>", "()V"⟩, prog_8_method_1_code, 1, none, 0, [(0, .aload 0, 1, 0), (1, .invokespecial 903, 3, 3), (4, .aload 0, 1, 0), (5, .iconst 200, 3, 2), (8, .newarray .int, 2, 0), (10, .putfield 20500, 3, 9), (13, .return_, 1, 0)], [])
/-- 66: ListDesk$Output.clear()V -/
def am_m66 : amM := ("ListDesk$Output", ⟨"ListDesk$Output", "clear", "()V"⟩, prog_8_method_2_code, 1, none, 0, [(0, .aload 0, 1, 0), (1, .iconst 0, 1, 0), (2, .putfield 501, 3, 15), (5, .return_, 1, 0)], [])
/-- 67: ListDesk$Output.add(I)V -/
def am_m67 : amM := ("ListDesk$Output", ⟨"ListDesk$Output", "add", "(I)V"⟩, prog_8_method_3_code, 2, none, 1, [(0, .aload 0, 1, 0), (1, .getfield 500, 3, 9), (4, .aload 0, 1, 0), (5, .getfield 501, 3, 15), (8, .iconst 200, 3, 2), (11, .irem, 1, 0), (12, .iload 1, 1, 0), (13, .invokestatic 95, 3, 19), (16, .aload 0, 1, 0), (17, .dup, 1, 0), (18, .getfield 501, 3, 15), (21, .iconst 1, 1, 0), (22, .iadd, 1, 0), (23, .putfield 501, 3, 15), (26, .return_, 1, 0)], [])
/-- 68: ListDesk$Output.has(I)Z -/
def am_m68 : amM := ("ListDesk$Output", ⟨"ListDesk$Output", "has", "(I)Z"⟩, prog_8_method_4_code, 2, (some .boolean), 1, [(0, .iload 1, 1, 0), (1, .ifCond .lt 28, 3, 0), (4, .iload 1, 1, 0), (5, .aload 0, 1, 0), (6, .getfield 501, 3, 15), (9, .if_icmp .ge 28, 3, 0), (12, .iload 1, 1, 0), (13, .aload 0, 1, 0), (14, .getfield 501, 3, 15), (17, .iconst 200, 3, 2), (20, .isub, 1, 0), (21, .if_icmp .lt 28, 3, 0), (24, .iconst 1, 1, 0), (25, .goto 29, 3, 0), (28, .iconst 0, 1, 0), (29, .ireturn, 1, 0)], [])
/-- 69: ListDesk$Output.at(I)I -/
def am_m69 : amM := ("ListDesk$Output", ⟨"ListDesk$Output", "at", "(I)I"⟩, prog_8_method_5_code, 2, (some .int), 1, [(0, .aload 0, 1, 0), (1, .getfield 500, 3, 9), (4, .iload 1, 1, 0), (5, .iconst 200, 3, 2), (8, .irem, 1, 0), (9, .invokestatic 94, 3, 25), (12, .ireturn, 1, 0)], [])
/-- 70: ListDesk$Reader.<init>(LListDesk$Tape;LListDesk$Code;LListDesk$Names;LListDesk$Functions;)V -/
def am_m70 : amM := ("ListDesk$Reader", ⟨"ListDesk$Reader", "<init>", "(LListDesk$Tape;LListDesk$Code;LListDesk$Names;LListDesk$Functions;)V"⟩, prog_9_method_1_code, 5, none, 4, [(0, .aload 0, 1, 0), (1, .invokespecial 903, 3, 3), (4, .aload 0, 1, 0), (5, .aload 1, 1, 0), (6, .putfield 20600, 3, 9), (9, .aload 0, 1, 0), (10, .aload 2, 1, 0), (11, .putfield 20601, 3, 15), (14, .aload 0, 1, 0), (15, .aload 3, 1, 0), (16, .putfield 20602, 3, 19), (19, .aload 0, 1, 0), (20, .aload 4, 2, 0), (22, .putfield 20603, 3, 23), (25, .aload 0, 1, 0), (26, .iconst (-1), 1, 0), (27, .putfield 605, 3, 27), (30, .return_, 1, 0)], [])
/-- 71: ListDesk$Reader.readProgram()V -/
def am_m71 : amM := ("ListDesk$Reader", ⟨"ListDesk$Reader", "readProgram", "()V"⟩, prog_9_method_2_code, 2, none, 0, [(0, .aload 0, 1, 0), (1, .getfield 600, 3, 9), (4, .invokevirtual 101, 3, 31), (7, .aload 0, 1, 0), (8, .getfield 601, 3, 15), (11, .invokevirtual 1, 3, 36), (14, .aload 0, 1, 0), (15, .getfield 602, 3, 19), (18, .invokevirtual 55, 3, 41), (21, .aload 0, 1, 0), (22, .getfield 603, 3, 23), (25, .invokevirtual 8, 3, 44), (28, .aload 0, 1, 0), (29, .iconst 0, 1, 0), (30, .putfield 604, 3, 47), (33, .aload 0, 1, 0), (34, .iconst (-1), 1, 0), (35, .putfield 605, 3, 27), (38, .aload 0, 1, 0), (39, .iconst 0, 1, 0), (40, .invokevirtual 73, 3, 50), (43, .iconst 0, 1, 0), (44, .istore 1, 1, 0), (45, .iload 1, 1, 0), (46, .iconst 250, 3, 2), (49, .if_icmp .ge 77, 3, 0), (52, .aload 0, 1, 0), (53, .getfield 600, 3, 9), (56, .invokevirtual 105, 3, 54), (59, .ifCond .ne 77, 3, 0), (62, .aload 0, 1, 0), (63, .invokevirtual 83, 3, 58), (66, .aload 0, 1, 0), (67, .iconst 0, 1, 0), (68, .invokevirtual 73, 3, 50), (71, .iinc 1 1, 3, 0), (74, .goto 45, 3, 0), (77, .aload 0, 1, 0), (78, .getfield 601, 3, 15), (81, .iconst 7, 2, 1), (83, .iconst 0, 1, 0), (84, .iconst (-1), 1, 0), (85, .invokevirtual 2, 3, 61), (88, .pop, 1, 0), (89, .aload 0, 1, 0), (90, .getfield 601, 3, 15), (93, .invokevirtual 5, 3, 65), (96, .return_, 1, 0)], [])
/-- 72: ListDesk$Reader.refuse(I)V -/
def am_m72 : amM := ("ListDesk$Reader", ⟨"ListDesk$Reader", "refuse", "(I)V"⟩, prog_9_method_3_code, 2, none, 1, [(0, .aload 0, 1, 0), (1, .iload 1, 1, 0), (2, .putfield 605, 3, 27), (5, .new 1000, 3, 0)], [])
/-- 73: ListDesk$Reader.expression(I)V -/
def am_m73 : amM := ("ListDesk$Reader", ⟨"ListDesk$Reader", "expression", "(I)V"⟩, prog_9_method_4_code, 3, none, 1, [(0, .aload 0, 1, 0), (1, .getfield 600, 3, 9), (4, .invokevirtual 103, 3, 75), (7, .istore 2, 1, 0), (8, .aload 0, 1, 0), (9, .getfield 600, 3, 9), (12, .invokevirtual 104, 3, 79), (15, .iconst 40, 2, 1), (17, .if_icmp .ne 31, 3, 0), (20, .aload 0, 1, 0), (21, .iload 2, 1, 0), (22, .iload 1, 1, 0), (23, .iconst 1, 1, 0), (24, .iadd, 1, 0), (25, .invokevirtual 78, 3, 82), (28, .goto 93, 3, 0), (31, .aload 0, 1, 0), (32, .getfield 600, 3, 9), (35, .invokevirtual 106, 3, 86), (38, .ifCond .eq 54, 3, 0), (41, .aload 0, 1, 0), (42, .iconst 2, 1, 0), (43, .aload 0, 1, 0), (44, .invokevirtual 75, 3, 89), (47, .iload 2, 1, 0), (48, .invokevirtual 74, 3, 92), (51, .goto 93, 3, 0), (54, .aload 0, 1, 0), (55, .getfield 600, 3, 9), (58, .ldc 1119, 2, 96), (60, .invokevirtual 107, 3, 98), (63, .ifCond .eq 89, 3, 0), (66, .aload 0, 1, 0), (67, .getfield 600, 3, 9), (70, .dup, 1, 0), (71, .getfield 10703, 3, 102), (74, .iconst 3, 1, 0), (75, .iadd, 1, 0), (76, .putfield 10703, 3, 102), (79, .aload 0, 1, 0), (80, .iconst 3, 1, 0), (81, .iconst 0, 1, 0), (82, .iload 2, 1, 0), (83, .invokevirtual 74, 3, 92), (86, .goto 93, 3, 0), (89, .aload 0, 1, 0), (90, .invokevirtual 76, 3, 105), (93, .return_, 1, 0)], [])
/-- 74: ListDesk$Reader.value(III)V -/
def am_m74 : amM := ("ListDesk$Reader", ⟨"ListDesk$Reader", "value", "(III)V"⟩, prog_9_method_5_code, 4, none, 3, [(0, .aload 0, 1, 0), (1, .getfield 601, 3, 15), (4, .iload 1, 1, 0), (5, .iload 2, 1, 0), (6, .iload 3, 1, 0), (7, .invokevirtual 2, 3, 61), (10, .pop, 1, 0), (11, .aload 0, 1, 0), (12, .dup, 1, 0), (13, .getfield 604, 3, 47), (16, .iconst 1, 1, 0), (17, .iadd, 1, 0), (18, .putfield 604, 3, 47), (21, .return_, 1, 0)], [])
/-- 75: ListDesk$Reader.readNumber()I -/
def am_m75 : amM := ("ListDesk$Reader", ⟨"ListDesk$Reader", "readNumber", "()I"⟩, prog_9_method_6_code, 4, (some .int), 0, [(0, .iconst 1, 1, 0), (1, .istore 1, 1, 0), (2, .aload 0, 1, 0), (3, .getfield 600, 3, 9), (6, .invokevirtual 104, 3, 79), (9, .iconst 45, 2, 1), (11, .if_icmp .ne 29, 3, 0), (14, .iconst (-1), 1, 0), (15, .istore 1, 1, 0), (16, .aload 0, 1, 0), (17, .getfield 600, 3, 9), (20, .dup, 1, 0), (21, .getfield 10703, 3, 102), (24, .iconst 1, 1, 0), (25, .iadd, 1, 0), (26, .putfield 10703, 3, 102), (29, .iconst 0, 1, 0), (30, .istore 2, 1, 0), (31, .iconst 0, 1, 0), (32, .istore 3, 1, 0), (33, .iload 2, 1, 0), (34, .iconst 9, 2, 1), (36, .if_icmp .ge 101, 3, 0), (39, .aload 0, 1, 0), (40, .getfield 600, 3, 9), (43, .aload 0, 1, 0), (44, .getfield 600, 3, 9), (47, .getfield 10703, 3, 102), (50, .invokevirtual 102, 3, 108), (53, .invokestatic 110, 3, 112), (56, .ifCond .eq 101, 3, 0), (59, .iload 3, 1, 0), (60, .iconst 10, 2, 1), (62, .imul, 1, 0), (63, .aload 0, 1, 0), (64, .getfield 600, 3, 9), (67, .aload 0, 1, 0), (68, .getfield 600, 3, 9), (71, .getfield 10703, 3, 102), (74, .invokevirtual 102, 3, 108), (77, .iadd, 1, 0), (78, .iconst 48, 2, 1), (80, .isub, 1, 0), (81, .istore 3, 1, 0), (82, .iinc 2 1, 3, 0), (85, .aload 0, 1, 0), (86, .getfield 600, 3, 9), (89, .dup, 1, 0), (90, .getfield 10703, 3, 102), (93, .iconst 1, 1, 0), (94, .iadd, 1, 0), (95, .putfield 10703, 3, 102), (98, .goto 33, 3, 0), (101, .aload 0, 1, 0), (102, .getfield 600, 3, 9), (105, .aload 0, 1, 0), (106, .getfield 600, 3, 9), (109, .getfield 10703, 3, 102), (112, .invokevirtual 102, 3, 108), (115, .invokestatic 109, 3, 116), (118, .ifCond .ne 132, 3, 0), (121, .aload 0, 1, 0), (122, .aload 0, 1, 0), (123, .getfield 600, 3, 9), (126, .getfield 10703, 3, 102), (129, .invokevirtual 72, 3, 119), (132, .iload 1, 1, 0), (133, .iload 3, 1, 0), (134, .imul, 1, 0), (135, .ireturn, 1, 0)], [])
/-- 76: ListDesk$Reader.variableValue()V -/
def am_m76 : amM := ("ListDesk$Reader", ⟨"ListDesk$Reader", "variableValue", "()V"⟩, prog_9_method_7_code, 4, none, 0, [(0, .aload 0, 1, 0), (1, .getfield 600, 3, 9), (4, .invokevirtual 103, 3, 75), (7, .istore 1, 1, 0), (8, .aload 0, 1, 0), (9, .invokevirtual 77, 3, 122), (12, .istore 2, 1, 0), (13, .aload 0, 1, 0), (14, .getfield 603, 3, 23), (17, .iload 2, 1, 0), (18, .aload 0, 1, 0), (19, .getfield 602, 3, 19), (22, .iload 2, 1, 0), (23, .invokevirtual 62, 3, 125), (26, .aload 0, 1, 0), (27, .getfield 602, 3, 19), (30, .iload 2, 1, 0), (31, .invokevirtual 61, 3, 128), (34, .invokevirtual 11, 3, 131), (37, .istore 3, 1, 0), (38, .aload 0, 1, 0), (39, .iconst 4, 1, 0), (40, .iload 3, 1, 0), (41, .iload 1, 1, 0), (42, .invokevirtual 74, 3, 92), (45, .return_, 1, 0)], [])
/-- 77: ListDesk$Reader.boundVariable()I -/
def am_m77 : amM := ("ListDesk$Reader", ⟨"ListDesk$Reader", "boundVariable", "()I"⟩, prog_9_method_8_code, 4, (some .int), 0, [(0, .aload 0, 1, 0), (1, .getfield 600, 3, 9), (4, .invokevirtual 103, 3, 75), (7, .istore 1, 1, 0), (8, .aload 0, 1, 0), (9, .getfield 600, 3, 9), (12, .invokevirtual 108, 3, 134), (15, .istore 2, 1, 0), (16, .iload 2, 1, 0), (17, .ifCond .ge 24, 3, 0), (20, .iconst (-1), 1, 0), (21, .goto 32, 3, 0), (24, .aload 0, 1, 0), (25, .getfield 602, 3, 19), (28, .iload 2, 1, 0), (29, .invokevirtual 60, 3, 137), (32, .istore 3, 1, 0), (33, .iload 3, 1, 0), (34, .ifCond .ge 42, 3, 0), (37, .aload 0, 1, 0), (38, .iload 1, 1, 0), (39, .invokevirtual 72, 3, 119), (42, .aload 0, 1, 0), (43, .getfield 600, 3, 9), (46, .dup, 1, 0), (47, .getfield 10703, 3, 102), (50, .iconst 1, 1, 0), (51, .iadd, 1, 0), (52, .putfield 10703, 3, 102), (55, .iload 3, 1, 0), (56, .ireturn, 1, 0)], [])
/-- 78: ListDesk$Reader.list(II)V -/
def am_m78 : amM := ("ListDesk$Reader", ⟨"ListDesk$Reader", "list", "(II)V"⟩, prog_9_method_9_code, 4, none, 2, [(0, .iload 2, 1, 0), (1, .iconst 20, 2, 1), (3, .if_icmp .le 11, 3, 0), (6, .aload 0, 1, 0), (7, .iload 1, 1, 0), (8, .invokevirtual 72, 3, 119), (11, .aload 0, 1, 0), (12, .getfield 600, 3, 9), (15, .dup, 1, 0), (16, .getfield 10703, 3, 102), (19, .iconst 1, 1, 0), (20, .iadd, 1, 0), (21, .putfield 10703, 3, 102), (24, .aload 0, 1, 0), (25, .getfield 600, 3, 9), (28, .invokevirtual 103, 3, 75), (31, .pop, 1, 0), (32, .aload 0, 1, 0), (33, .invokevirtual 79, 3, 140), (36, .astore 3, 1, 0), (37, .aload 3, 1, 0), (38, .ifnonnull 50, 3, 0), (41, .aload 0, 1, 0), (42, .iload 1, 1, 0), (43, .iload 2, 1, 0), (44, .invokevirtual 93, 3, 144), (47, .goto 76, 3, 0), (50, .aload 0, 1, 0), (51, .getfield 600, 3, 9), (54, .dup, 1, 0), (55, .getfield 10703, 3, 102), (58, .aload 3, 1, 0), (59, .getfield 50000, 3, 147), (62, .invokevirtual 901, 3, 153), (65, .iadd, 1, 0), (66, .putfield 10703, 3, 102), (69, .aload 0, 1, 0), (70, .aload 3, 1, 0), (71, .iload 1, 1, 0), (72, .iload 2, 1, 0), (73, .invokevirtual 80, 3, 158), (76, .aload 0, 1, 0), (77, .iconst 41, 2, 1), (79, .invokevirtual 81, 3, 162), (82, .return_, 1, 0)], [])
/-- 79: ListDesk$Reader.headWord()LListDesk$Word; -/
def am_m79 : amM := ("ListDesk$Reader", ⟨"ListDesk$Reader", "headWord", "()LListDesk$Word;"⟩, prog_9_method_10_code, 2, (some (.object "ListDesk$Word")), 0, [(0, .iconst 0, 1, 0), (1, .istore 1, 1, 0), (2, .iload 1, 1, 0), (3, .getstatic 0, 3, 165), (6, .arraylength, 1, 0), (7, .if_icmp .ge 40, 3, 0), (10, .aload 0, 1, 0), (11, .getfield 600, 3, 9), (14, .getstatic 0, 3, 165), (17, .iload 1, 1, 0), (18, .aaload, 1, 0), (19, .getfield 50000, 3, 147), (22, .invokevirtual 107, 3, 98), (25, .ifCond .eq 34, 3, 0), (28, .getstatic 0, 3, 165), (31, .iload 1, 1, 0), (32, .aaload, 1, 0), (33, .areturn, 1, 0), (34, .iinc 1 1, 3, 0), (37, .goto 2, 3, 0), (40, .aconst_null, 1, 0), (41, .areturn, 1, 0)], [])
/-- 80: ListDesk$Reader.form(LListDesk$Word;II)V -/
def am_m80 : amM := ("ListDesk$Reader", ⟨"ListDesk$Reader", "form", "(LListDesk$Word;II)V"⟩, prog_9_method_11_code, 4, none, 3, [(0, .getstatic 1, 3, 169), (3, .aload 1, 1, 0), (4, .invokevirtual 900, 3, 175), (7, .iaload, 1, 0), (8, .tableswitch 112 1 6 #[48, 57, 66, 75, 84, 93], 40, 0), (48, .aload 0, 1, 0), (49, .iload 2, 1, 0), (50, .iload 3, 1, 0), (51, .invokevirtual 85, 3, 178), (54, .goto 119, 3, 0), (57, .aload 0, 1, 0), (58, .iload 2, 1, 0), (59, .iload 3, 1, 0), (60, .invokevirtual 86, 3, 181), (63, .goto 119, 3, 0), (66, .aload 0, 1, 0), (67, .iload 2, 1, 0), (68, .iload 3, 1, 0), (69, .invokevirtual 87, 3, 184), (72, .goto 119, 3, 0), (75, .aload 0, 1, 0), (76, .iload 2, 1, 0), (77, .iload 3, 1, 0), (78, .invokevirtual 89, 3, 187), (81, .goto 119, 3, 0), (84, .aload 0, 1, 0), (85, .iload 2, 1, 0), (86, .iload 3, 1, 0), (87, .invokevirtual 91, 3, 190), (90, .goto 119, 3, 0), (93, .aload 0, 1, 0), (94, .getfield 601, 3, 15), (97, .iconst 1, 1, 0), (98, .iconst 0, 1, 0), (99, .iload 2, 1, 0), (100, .invokevirtual 2, 3, 61), (103, .pop, 1, 0), (104, .aload 0, 1, 0), (105, .iload 3, 1, 0), (106, .invokevirtual 82, 3, 193), (109, .goto 119, 3, 0), (112, .aload 0, 1, 0), (113, .aload 1, 1, 0), (114, .iload 2, 1, 0), (115, .iload 3, 1, 0), (116, .invokevirtual 92, 3, 196), (119, .return_, 1, 0)], [])
/-- 81: ListDesk$Reader.bracket(I)V -/
def am_m81 : amM := ("ListDesk$Reader", ⟨"ListDesk$Reader", "bracket", "(I)V"⟩, prog_9_method_12_code, 2, none, 1, [(0, .aload 0, 1, 0), (1, .getfield 600, 3, 9), (4, .invokevirtual 104, 3, 79), (7, .iload 1, 1, 0), (8, .if_icmp .eq 22, 3, 0), (11, .aload 0, 1, 0), (12, .aload 0, 1, 0), (13, .getfield 600, 3, 9), (16, .getfield 10703, 3, 102), (19, .invokevirtual 72, 3, 119), (22, .aload 0, 1, 0), (23, .getfield 600, 3, 9), (26, .dup, 1, 0), (27, .getfield 10703, 3, 102), (30, .iconst 1, 1, 0), (31, .iadd, 1, 0), (32, .putfield 10703, 3, 102), (35, .return_, 1, 0)], [])
/-- 82: ListDesk$Reader.body(I)V -/
def am_m82 : amM := ("ListDesk$Reader", ⟨"ListDesk$Reader", "body", "(I)V"⟩, prog_9_method_13_code, 3, none, 1, [(0, .aload 0, 1, 0), (1, .iload 1, 1, 0), (2, .invokevirtual 73, 3, 50), (5, .iconst 0, 1, 0), (6, .istore 2, 1, 0), (7, .iload 2, 1, 0), (8, .iconst 250, 3, 2), (11, .if_icmp .ge 41, 3, 0), (14, .aload 0, 1, 0), (15, .getfield 600, 3, 9), (18, .invokevirtual 104, 3, 79), (21, .iconst 41, 2, 1), (23, .if_icmp .eq 41, 3, 0), (26, .aload 0, 1, 0), (27, .invokevirtual 83, 3, 58), (30, .aload 0, 1, 0), (31, .iload 1, 1, 0), (32, .invokevirtual 73, 3, 50), (35, .iinc 2 1, 3, 0), (38, .goto 7, 3, 0), (41, .return_, 1, 0)], [])
/-- 83: ListDesk$Reader.forget()V -/
def am_m83 : amM := ("ListDesk$Reader", ⟨"ListDesk$Reader", "forget", "()V"⟩, prog_9_method_14_code, 1, none, 0, [(0, .aload 0, 1, 0), (1, .getfield 601, 3, 15), (4, .iconst 8, 2, 1), (6, .iconst 0, 1, 0), (7, .iconst (-1), 1, 0), (8, .invokevirtual 2, 3, 61), (11, .pop, 1, 0), (12, .aload 0, 1, 0), (13, .dup, 1, 0), (14, .getfield 604, 3, 47), (17, .iconst 1, 1, 0), (18, .isub, 1, 0), (19, .putfield 604, 3, 47), (22, .return_, 1, 0)], [])
/-- 84: ListDesk$Reader.newLetter(I)V -/
def am_m84 : amM := ("ListDesk$Reader", ⟨"ListDesk$Reader", "newLetter", "(I)V"⟩, prog_9_method_15_code, 4, none, 1, [(0, .aload 0, 1, 0), (1, .getfield 600, 3, 9), (4, .invokevirtual 103, 3, 75), (7, .istore 2, 1, 0), (8, .aload 0, 1, 0), (9, .getfield 600, 3, 9), (12, .invokevirtual 108, 3, 134), (15, .istore 3, 1, 0), (16, .iload 3, 1, 0), (17, .ifCond .lt 32, 3, 0), (20, .aload 0, 1, 0), (21, .getfield 602, 3, 19), (24, .iload 1, 1, 0), (25, .iload 3, 1, 0), (26, .invokevirtual 57, 3, 199), (29, .ifCond .eq 37, 3, 0), (32, .aload 0, 1, 0), (33, .iload 2, 1, 0), (34, .invokevirtual 72, 3, 119), (37, .aload 0, 1, 0), (38, .getfield 600, 3, 9), (41, .dup, 1, 0), (42, .getfield 10703, 3, 102), (45, .iconst 1, 1, 0), (46, .iadd, 1, 0), (47, .putfield 10703, 3, 102), (50, .aload 0, 1, 0), (51, .getfield 602, 3, 19), (54, .iload 3, 1, 0), (55, .invokevirtual 56, 3, 203), (58, .return_, 1, 0)], [])
/-- 85: ListDesk$Reader.lambda(II)V -/
def am_m85 : amM := ("ListDesk$Reader", ⟨"ListDesk$Reader", "lambda", "(II)V"⟩, prog_9_method_16_code, 6, none, 2, [(0, .aload 0, 1, 0), (1, .getfield 602, 3, 19), (4, .getfield 10408, 3, 206), (7, .istore 3, 1, 0), (8, .aload 0, 1, 0), (9, .iconst 40, 2, 1), (11, .invokevirtual 81, 3, 162), (14, .iconst 0, 1, 0), (15, .istore 4, 2, 0), (17, .iload 4, 2, 0), (19, .iconst 4, 1, 0), (20, .if_icmp .ge 46, 3, 0), (23, .aload 0, 1, 0), (24, .getfield 600, 3, 9), (27, .invokevirtual 104, 3, 79), (30, .iconst 41, 2, 1), (32, .if_icmp .eq 46, 3, 0), (35, .aload 0, 1, 0), (36, .iload 3, 1, 0), (37, .invokevirtual 84, 3, 209), (40, .iinc 4 1, 3, 0), (43, .goto 17, 3, 0), (46, .aload 0, 1, 0), (47, .iconst 41, 2, 1), (49, .invokevirtual 81, 3, 162), (52, .aload 0, 1, 0), (53, .getfield 604, 3, 47), (56, .istore 4, 2, 0), (58, .aload 0, 1, 0), (59, .getfield 601, 3, 15), (62, .iconst 5, 1, 0), (63, .aload 0, 1, 0), (64, .getfield 603, 3, 23), (67, .getfield 10107, 3, 212), (70, .iload 1, 1, 0), (71, .invokevirtual 2, 3, 61), (74, .pop, 1, 0), (75, .aload 0, 1, 0), (76, .getfield 603, 3, 23), (79, .aload 0, 1, 0), (80, .getfield 601, 3, 15), (83, .getfield 10003, 3, 215), (86, .aload 0, 1, 0), (87, .getfield 602, 3, 19), (90, .getfield 10408, 3, 206), (93, .iload 3, 1, 0), (94, .isub, 1, 0), (95, .aload 0, 1, 0), (96, .getfield 602, 3, 19), (99, .getfield 10404, 3, 218), (102, .invokevirtual 9, 3, 219), (105, .aload 0, 1, 0), (106, .aload 0, 1, 0), (107, .getfield 602, 3, 19), (110, .iload 3, 1, 0), (111, .iconst 0, 1, 0), (112, .aload 0, 1, 0), (113, .getfield 603, 3, 23), (116, .getfield 10109, 3, 222), (119, .invokevirtual 58, 3, 225), (122, .putfield 604, 3, 47), (125, .aload 0, 1, 0), (126, .getfield 604, 3, 47), (129, .istore 5, 2, 0), (131, .aload 0, 1, 0), (132, .iload 2, 1, 0), (133, .invokevirtual 82, 3, 193), (136, .aload 0, 1, 0), (137, .getfield 601, 3, 15), (140, .iconst 16, 2, 1), (142, .iconst 0, 1, 0), (143, .iconst (-1), 1, 0), (144, .invokevirtual 2, 3, 61), (147, .pop, 1, 0), (148, .aload 0, 1, 0), (149, .getfield 602, 3, 19), (152, .iload 5, 2, 0), (154, .invokevirtual 59, 3, 228), (157, .aload 0, 1, 0), (158, .getfield 603, 3, 23), (161, .aload 0, 1, 0), (162, .getfield 601, 3, 15), (165, .getfield 10003, 3, 215), (168, .invokevirtual 10, 3, 231), (171, .aload 0, 1, 0), (172, .iload 4, 2, 0), (174, .iconst 1, 1, 0), (175, .iadd, 1, 0), (176, .putfield 604, 3, 47), (179, .return_, 1, 0)], [])
/-- 86: ListDesk$Reader.choice(II)V -/
def am_m86 : amM := ("ListDesk$Reader", ⟨"ListDesk$Reader", "choice", "(II)V"⟩, prog_9_method_17_code, 5, none, 2, [(0, .aload 0, 1, 0), (1, .getfield 601, 3, 15), (4, .iconst 1, 1, 0), (5, .iconst 0, 1, 0), (6, .iload 1, 1, 0), (7, .invokevirtual 2, 3, 61), (10, .pop, 1, 0), (11, .aload 0, 1, 0), (12, .iload 2, 1, 0), (13, .invokevirtual 73, 3, 50), (16, .aload 0, 1, 0), (17, .getfield 601, 3, 15), (20, .iconst 10, 2, 1), (22, .iconst 0, 1, 0), (23, .iload 1, 1, 0), (24, .invokevirtual 2, 3, 61), (27, .istore 3, 1, 0), (28, .aload 0, 1, 0), (29, .dup, 1, 0), (30, .getfield 604, 3, 47), (33, .iconst 1, 1, 0), (34, .isub, 1, 0), (35, .putfield 604, 3, 47), (38, .aload 0, 1, 0), (39, .iload 2, 1, 0), (40, .invokevirtual 73, 3, 50), (43, .aload 0, 1, 0), (44, .getfield 601, 3, 15), (47, .iconst 9, 2, 1), (49, .iconst 0, 1, 0), (50, .iload 1, 1, 0), (51, .invokevirtual 2, 3, 61), (54, .istore 4, 2, 0), (56, .aload 0, 1, 0), (57, .dup, 1, 0), (58, .getfield 604, 3, 47), (61, .iconst 1, 1, 0), (62, .isub, 1, 0), (63, .putfield 604, 3, 47), (66, .aload 0, 1, 0), (67, .getfield 601, 3, 15), (70, .iload 3, 1, 0), (71, .invokevirtual 3, 3, 234), (74, .aload 0, 1, 0), (75, .iload 2, 1, 0), (76, .invokevirtual 73, 3, 50), (79, .aload 0, 1, 0), (80, .getfield 601, 3, 15), (83, .iload 4, 2, 0), (85, .invokevirtual 3, 3, 234), (88, .return_, 1, 0)], [])
/-- 87: ListDesk$Reader.let(II)V -/
def am_m87 : amM := ("ListDesk$Reader", ⟨"ListDesk$Reader", "let", "(II)V"⟩, prog_9_method_18_code, 8, none, 2, [(0, .aload 0, 1, 0), (1, .getfield 601, 3, 15), (4, .iconst 1, 1, 0), (5, .iconst 0, 1, 0), (6, .iload 1, 1, 0), (7, .invokevirtual 2, 3, 61), (10, .pop, 1, 0), (11, .aload 0, 1, 0), (12, .getfield 602, 3, 19), (15, .getfield 10408, 3, 206), (18, .istore 3, 1, 0), (19, .aload 0, 1, 0), (20, .getfield 604, 3, 47), (23, .istore 4, 2, 0), (25, .aload 0, 1, 0), (26, .iconst 40, 2, 1), (28, .invokevirtual 81, 3, 162), (31, .aload 0, 1, 0), (32, .iload 3, 1, 0), (33, .iload 2, 1, 0), (34, .invokevirtual 88, 3, 237), (37, .iconst 1, 1, 0), (38, .istore 5, 2, 0), (40, .iload 5, 2, 0), (42, .iconst 4, 1, 0), (43, .if_icmp .ge 70, 3, 0), (46, .aload 0, 1, 0), (47, .getfield 600, 3, 9), (50, .invokevirtual 104, 3, 79), (53, .iconst 41, 2, 1), (55, .if_icmp .eq 70, 3, 0), (58, .aload 0, 1, 0), (59, .iload 3, 1, 0), (60, .iload 2, 1, 0), (61, .invokevirtual 88, 3, 237), (64, .iinc 5 1, 3, 0), (67, .goto 40, 3, 0), (70, .aload 0, 1, 0), (71, .iconst 41, 2, 1), (73, .invokevirtual 81, 3, 162), (76, .aload 0, 1, 0), (77, .getfield 602, 3, 19), (80, .getfield 10404, 3, 218), (83, .istore 5, 2, 0), (85, .aload 0, 1, 0), (86, .getfield 602, 3, 19), (89, .iload 3, 1, 0), (90, .iload 4, 2, 0), (92, .aload 0, 1, 0), (93, .getfield 603, 3, 23), (96, .getfield 10109, 3, 222), (99, .invokevirtual 58, 3, 225), (102, .istore 6, 2, 0), (104, .iconst 0, 1, 0), (105, .istore 7, 2, 0), (107, .iload 7, 2, 0), (109, .iload 6, 2, 0), (111, .if_icmp .ge 136, 3, 0), (114, .aload 0, 1, 0), (115, .getfield 601, 3, 15), (118, .iconst 11, 2, 1), (120, .iload 5, 2, 0), (122, .iload 7, 2, 0), (124, .iadd, 1, 0), (125, .iload 1, 1, 0), (126, .invokevirtual 2, 3, 61), (129, .pop, 1, 0), (130, .iinc 7 1, 3, 0), (133, .goto 107, 3, 0), (136, .aload 0, 1, 0), (137, .iload 2, 1, 0), (138, .invokevirtual 82, 3, 193), (141, .aload 0, 1, 0), (142, .iload 6, 2, 0), (144, .invokevirtual 90, 3, 240), (147, .return_, 1, 0)], [])
/-- 88: ListDesk$Reader.newVariable(II)V -/
def am_m88 : amM := ("ListDesk$Reader", ⟨"ListDesk$Reader", "newVariable", "(II)V"⟩, prog_9_method_19_code, 3, none, 2, [(0, .aload 0, 1, 0), (1, .iconst 40, 2, 1), (3, .invokevirtual 81, 3, 162), (6, .aload 0, 1, 0), (7, .iload 1, 1, 0), (8, .invokevirtual 84, 3, 209), (11, .aload 0, 1, 0), (12, .iload 2, 1, 0), (13, .invokevirtual 73, 3, 50), (16, .aload 0, 1, 0), (17, .iconst 41, 2, 1), (19, .invokevirtual 81, 3, 162), (22, .return_, 1, 0)], [])
/-- 89: ListDesk$Reader.letrec(II)V -/
def am_m89 : amM := ("ListDesk$Reader", ⟨"ListDesk$Reader", "letrec", "(II)V"⟩, prog_9_method_20_code, 7, none, 2, [(0, .aload 0, 1, 0), (1, .iconst 40, 2, 1), (3, .invokevirtual 81, 3, 162), (6, .aload 0, 1, 0), (7, .iconst 40, 2, 1), (9, .invokevirtual 81, 3, 162), (12, .aload 0, 1, 0), (13, .getfield 602, 3, 19), (16, .getfield 10408, 3, 206), (19, .istore 3, 1, 0), (20, .aload 0, 1, 0), (21, .iload 3, 1, 0), (22, .invokevirtual 84, 3, 209), (25, .aload 0, 1, 0), (26, .getfield 602, 3, 19), (29, .getfield 10404, 3, 218), (32, .istore 4, 2, 0), (34, .aload 0, 1, 0), (35, .getfield 602, 3, 19), (38, .iload 3, 1, 0), (39, .aload 0, 1, 0), (40, .getfield 604, 3, 47), (43, .aload 0, 1, 0), (44, .getfield 603, 3, 23), (47, .getfield 10109, 3, 222), (50, .invokevirtual 58, 3, 225), (53, .pop, 1, 0), (54, .aload 0, 1, 0), (55, .getfield 602, 3, 19), (58, .iload 4, 2, 0), (60, .iconst 1, 1, 0), (61, .invokevirtual 64, 3, 241), (64, .aload 0, 1, 0), (65, .iconst 6, 2, 1), (67, .iconst 0, 1, 0), (68, .iload 1, 1, 0), (69, .invokevirtual 74, 3, 92), (72, .aload 0, 1, 0), (73, .getfield 600, 3, 9), (76, .invokevirtual 103, 3, 75), (79, .istore 5, 2, 0), (81, .aload 0, 1, 0), (82, .getfield 601, 3, 15), (85, .getfield 10003, 3, 215), (88, .istore 6, 2, 0), (90, .aload 0, 1, 0), (91, .iload 2, 1, 0), (92, .invokevirtual 73, 3, 50), (95, .aload 0, 1, 0), (96, .getfield 601, 3, 15), (99, .iload 6, 2, 0), (101, .invokevirtual 4, 3, 245), (104, .iconst 5, 1, 0), (105, .if_icmp .eq 114, 3, 0), (108, .aload 0, 1, 0), (109, .iload 5, 2, 0), (111, .invokevirtual 72, 3, 119), (114, .aload 0, 1, 0), (115, .iconst 41, 2, 1), (117, .invokevirtual 81, 3, 162), (120, .aload 0, 1, 0), (121, .iconst 41, 2, 1), (123, .invokevirtual 81, 3, 162), (126, .aload 0, 1, 0), (127, .getfield 601, 3, 15), (130, .iconst 12, 2, 1), (132, .aload 0, 1, 0), (133, .getfield 602, 3, 19), (136, .iload 4, 2, 0), (138, .invokevirtual 61, 3, 128), (141, .iload 1, 1, 0), (142, .invokevirtual 2, 3, 61), (145, .pop, 1, 0), (146, .aload 0, 1, 0), (147, .invokevirtual 83, 3, 58), (150, .aload 0, 1, 0), (151, .iload 2, 1, 0), (152, .invokevirtual 82, 3, 193), (155, .aload 0, 1, 0), (156, .iconst 1, 1, 0), (157, .invokevirtual 90, 3, 240), (160, .return_, 1, 0)], [])
/-- 90: ListDesk$Reader.leave(I)V -/
def am_m90 : amM := ("ListDesk$Reader", ⟨"ListDesk$Reader", "leave", "(I)V"⟩, prog_9_method_21_code, 2, none, 1, [(0, .aload 0, 1, 0), (1, .getfield 602, 3, 19), (4, .iload 1, 1, 0), (5, .invokevirtual 59, 3, 228), (8, .aload 0, 1, 0), (9, .getfield 601, 3, 15), (12, .iconst 13, 2, 1), (14, .iload 1, 1, 0), (15, .iconst (-1), 1, 0), (16, .invokevirtual 2, 3, 61), (19, .pop, 1, 0), (20, .aload 0, 1, 0), (21, .dup, 1, 0), (22, .getfield 604, 3, 47), (25, .iload 1, 1, 0), (26, .isub, 1, 0), (27, .putfield 604, 3, 47), (30, .return_, 1, 0)], [])
/-- 91: ListDesk$Reader.change(II)V -/
def am_m91 : amM := ("ListDesk$Reader", ⟨"ListDesk$Reader", "change", "(II)V"⟩, prog_9_method_22_code, 5, none, 2, [(0, .aload 0, 1, 0), (1, .getfield 601, 3, 15), (4, .iconst 1, 1, 0), (5, .iconst 0, 1, 0), (6, .iload 1, 1, 0), (7, .invokevirtual 2, 3, 61), (10, .pop, 1, 0), (11, .aload 0, 1, 0), (12, .invokevirtual 77, 3, 122), (15, .istore 3, 1, 0), (16, .aload 0, 1, 0), (17, .getfield 602, 3, 19), (20, .iload 3, 1, 0), (21, .iconst 1, 1, 0), (22, .invokevirtual 64, 3, 241), (25, .aload 0, 1, 0), (26, .getfield 603, 3, 23), (29, .iload 3, 1, 0), (30, .aload 0, 1, 0), (31, .getfield 602, 3, 19), (34, .iload 3, 1, 0), (35, .invokevirtual 62, 3, 125), (38, .aload 0, 1, 0), (39, .getfield 602, 3, 19), (42, .iload 3, 1, 0), (43, .invokevirtual 61, 3, 128), (46, .invokevirtual 11, 3, 131), (49, .istore 4, 2, 0), (51, .aload 0, 1, 0), (52, .iload 2, 1, 0), (53, .invokevirtual 73, 3, 50), (56, .aload 0, 1, 0), (57, .getfield 601, 3, 15), (60, .iconst 12, 2, 1), (62, .iload 4, 2, 0), (64, .iload 1, 1, 0), (65, .invokevirtual 2, 3, 61), (68, .pop, 1, 0), (69, .return_, 1, 0)], [])
/-- 92: ListDesk$Reader.primitive(LListDesk$Word;II)V -/
def am_m92 : amM := ("ListDesk$Reader", ⟨"ListDesk$Reader", "primitive", "(LListDesk$Word;II)V"⟩, prog_9_method_23_code, 5, none, 3, [(0, .aload 0, 1, 0), (1, .getfield 601, 3, 15), (4, .iconst 1, 1, 0), (5, .iconst 0, 1, 0), (6, .iload 2, 1, 0), (7, .invokevirtual 2, 3, 61), (10, .pop, 1, 0), (11, .iconst 0, 1, 0), (12, .istore 4, 2, 0), (14, .iload 4, 2, 0), (16, .aload 1, 1, 0), (17, .getfield 50001, 3, 248), (20, .if_icmp .ge 34, 3, 0), (23, .aload 0, 1, 0), (24, .iload 3, 1, 0), (25, .invokevirtual 73, 3, 50), (28, .iinc 4 1, 3, 0), (31, .goto 14, 3, 0), (34, .aload 0, 1, 0), (35, .getfield 601, 3, 15), (38, .aload 1, 1, 0), (39, .getfield 50002, 3, 251), (42, .iconst 0, 1, 0), (43, .iload 2, 1, 0), (44, .invokevirtual 2, 3, 61), (47, .pop, 1, 0), (48, .aload 0, 1, 0), (49, .dup, 1, 0), (50, .getfield 604, 3, 47), (53, .aload 1, 1, 0), (54, .getfield 50001, 3, 248), (57, .iconst 1, 1, 0), (58, .isub, 1, 0), (59, .isub, 1, 0), (60, .putfield 604, 3, 47), (63, .return_, 1, 0)], [])
/-- 93: ListDesk$Reader.call(II)V -/
def am_m93 : amM := ("ListDesk$Reader", ⟨"ListDesk$Reader", "call", "(II)V"⟩, prog_9_method_24_code, 4, none, 2, [(0, .aload 0, 1, 0), (1, .getfield 601, 3, 15), (4, .iconst 1, 1, 0), (5, .iconst 0, 1, 0), (6, .iload 1, 1, 0), (7, .invokevirtual 2, 3, 61), (10, .pop, 1, 0), (11, .aload 0, 1, 0), (12, .getfield 600, 3, 9), (15, .invokevirtual 104, 3, 79), (18, .iconst 40, 2, 1), (20, .if_icmp .ne 31, 3, 0), (23, .aload 0, 1, 0), (24, .iload 2, 1, 0), (25, .invokevirtual 73, 3, 50), (28, .goto 35, 3, 0), (31, .aload 0, 1, 0), (32, .invokevirtual 76, 3, 105), (35, .iconst 0, 1, 0), (36, .istore 3, 1, 0), (37, .iload 3, 1, 0), (38, .iconst 4, 1, 0), (39, .if_icmp .ge 65, 3, 0), (42, .aload 0, 1, 0), (43, .getfield 600, 3, 9), (46, .invokevirtual 104, 3, 79), (49, .iconst 41, 2, 1), (51, .if_icmp .eq 65, 3, 0), (54, .aload 0, 1, 0), (55, .iload 2, 1, 0), (56, .invokevirtual 73, 3, 50), (59, .iinc 3 1, 3, 0), (62, .goto 37, 3, 0), (65, .aload 0, 1, 0), (66, .getfield 601, 3, 15), (69, .iconst 14, 2, 1), (71, .iload 3, 1, 0), (72, .iload 1, 1, 0), (73, .invokevirtual 2, 3, 61), (76, .pop, 1, 0), (77, .aload 0, 1, 0), (78, .dup, 1, 0), (79, .getfield 604, 3, 47), (82, .iload 3, 1, 0), (83, .isub, 1, 0), (84, .putfield 604, 3, 47), (87, .return_, 1, 0)], [])
/-- 94: ListDesk$Rows.get([II)I -/
def am_m94 : amM := ("ListDesk$Rows", ⟨"ListDesk$Rows", "get", "([II)I"⟩, prog_10_method_2_code, 2, (some .int), 2, [(0, .iload 1, 1, 0), (1, .ifCond .lt 16, 3, 0), (4, .iload 1, 1, 0), (5, .aload 0, 1, 0), (6, .arraylength, 1, 0), (7, .if_icmp .ge 16, 3, 0), (10, .aload 0, 1, 0), (11, .iload 1, 1, 0), (12, .iaload, 1, 0), (13, .goto 17, 3, 0), (16, .iconst 0, 1, 0), (17, .ireturn, 1, 0)], [])
/-- 95: ListDesk$Rows.set([III)V -/
def am_m95 : amM := ("ListDesk$Rows", ⟨"ListDesk$Rows", "set", "([III)V"⟩, prog_10_method_3_code, 3, none, 3, [(0, .iload 1, 1, 0), (1, .ifCond .lt 14, 3, 0), (4, .iload 1, 1, 0), (5, .aload 0, 1, 0), (6, .arraylength, 1, 0), (7, .if_icmp .ge 14, 3, 0), (10, .aload 0, 1, 0), (11, .iload 1, 1, 0), (12, .iload 2, 1, 0), (13, .iastore, 1, 0), (14, .return_, 1, 0)], [])
/-- 96: ListDesk$Rows.get([JI)J -/
def am_m96 : amM := ("ListDesk$Rows", ⟨"ListDesk$Rows", "get", "([JI)J"⟩, prog_10_method_4_code, 2, (some .long), 2, [(0, .iload 1, 1, 0), (1, .ifCond .lt 16, 3, 0), (4, .iload 1, 1, 0), (5, .aload 0, 1, 0), (6, .arraylength, 1, 0), (7, .if_icmp .ge 16, 3, 0), (10, .aload 0, 1, 0), (11, .iload 1, 1, 0), (12, .laload, 1, 0), (13, .goto 17, 3, 0), (16, .jsr_w 0, 1, 0), (17, .lreturn, 1, 0)], [])
/-- 97: ListDesk$Rows.set([JIJ)V -/
def am_m97 : amM := ("ListDesk$Rows", ⟨"ListDesk$Rows", "set", "([JIJ)V"⟩, prog_10_method_5_code, 4, none, 3, [(0, .iload 1, 1, 0), (1, .ifCond .lt 14, 3, 0), (4, .iload 1, 1, 0), (5, .aload 0, 1, 0), (6, .arraylength, 1, 0), (7, .if_icmp .ge 14, 3, 0), (10, .aload 0, 1, 0), (11, .iload 1, 1, 0), (12, .lload 2, 1, 0), (13, .lastore, 1, 0), (14, .return_, 1, 0)], [])
/-- 98: ListDesk$Tape.<init>()V -/
def am_m98 : amM := ("ListDesk$Tape", ⟨"ListDesk$Tape", "<init>", "()V"⟩, prog_11_method_1_code, 1, none, 0, [(0, .aload 0, 1, 0), (1, .invokespecial 903, 3, 3), (4, .aload 0, 1, 0), (5, .iconst 250, 3, 2), (8, .newarray .int, 2, 0), (10, .putfield 20700, 3, 9), (13, .return_, 1, 0)], [])
/-- 99: ListDesk$Tape.hasRoomFor(I)Z -/
def am_m99 : amM := ("ListDesk$Tape", ⟨"ListDesk$Tape", "hasRoomFor", "(I)Z"⟩, prog_11_method_2_code, 2, (some .boolean), 1, [(0, .aload 0, 1, 0), (1, .getfield 701, 3, 15), (4, .iload 1, 1, 0), (5, .iadd, 1, 0), (6, .iconst 250, 3, 2), (9, .if_icmp .gt 16, 3, 0), (12, .iconst 1, 1, 0), (13, .goto 17, 3, 0), (16, .iconst 0, 1, 0), (17, .ireturn, 1, 0)], [])
/-- 100: ListDesk$Tape.append(JI)I -/
def am_m100 : amM := ("ListDesk$Tape", ⟨"ListDesk$Tape", "append", "(JI)I"⟩, prog_11_method_3_code, 5, (some .int), 2, [(0, .iload 3, 1, 0), (1, .iconst 1, 1, 0), (2, .isub, 1, 0), (3, .istore 4, 2, 0), (5, .iload 4, 2, 0), (7, .ifCond .lt 49, 3, 0), (10, .aload 0, 1, 0), (11, .getfield 700, 3, 9), (14, .aload 0, 1, 0), (15, .getfield 701, 3, 15), (18, .lload 1, 1, 0), (19, .iconst 8, 2, 1), (21, .iload 4, 2, 0), (23, .imul, 1, 0), (24, .lushr, 1, 0), (25, .l2i, 1, 0), (26, .iconst 255, 3, 2), (29, .iand, 1, 0), (30, .invokestatic 95, 3, 19), (33, .aload 0, 1, 0), (34, .dup, 1, 0), (35, .getfield 701, 3, 15), (38, .iconst 1, 1, 0), (39, .iadd, 1, 0), (40, .putfield 701, 3, 15), (43, .iinc 4 (-1), 3, 0), (46, .goto 5, 3, 0), (49, .aload 0, 1, 0), (50, .getfield 701, 3, 15), (53, .ireturn, 1, 0)], [])
/-- 101: ListDesk$Tape.useUp()V -/
def am_m101 : amM := ("ListDesk$Tape", ⟨"ListDesk$Tape", "useUp", "()V"⟩, prog_11_method_4_code, 1, none, 0, [(0, .aload 0, 1, 0), (1, .aload 0, 1, 0), (2, .getfield 701, 3, 15), (5, .putfield 702, 3, 25), (8, .aload 0, 1, 0), (9, .iconst 0, 1, 0), (10, .putfield 701, 3, 15), (13, .aload 0, 1, 0), (14, .iconst 0, 1, 0), (15, .putfield 703, 3, 28), (18, .return_, 1, 0)], [])
/-- 102: ListDesk$Tape.byteAt(I)I -/
def am_m102 : amM := ("ListDesk$Tape", ⟨"ListDesk$Tape", "byteAt", "(I)I"⟩, prog_11_method_5_code, 2, (some .int), 1, [(0, .iload 1, 1, 0), (1, .ifCond .lt 30, 3, 0), (4, .iload 1, 1, 0), (5, .aload 0, 1, 0), (6, .getfield 702, 3, 25), (9, .if_icmp .ge 30, 3, 0), (12, .iload 1, 1, 0), (13, .aload 0, 1, 0), (14, .getfield 700, 3, 9), (17, .arraylength, 1, 0), (18, .if_icmp .ge 30, 3, 0), (21, .aload 0, 1, 0), (22, .getfield 700, 3, 9), (25, .iload 1, 1, 0), (26, .iaload, 1, 0), (27, .goto 31, 3, 0), (30, .iconst (-1), 1, 0), (31, .ireturn, 1, 0)], [])
/-- 103: ListDesk$Tape.skipBlanks()I -/
def am_m103 : amM := ("ListDesk$Tape", ⟨"ListDesk$Tape", "skipBlanks", "()I"⟩, prog_11_method_6_code, 1, (some .int), 0, [(0, .aload 0, 1, 0), (1, .getfield 703, 3, 28), (4, .aload 0, 1, 0), (5, .getfield 702, 3, 25), (8, .if_icmp .ge 37, 3, 0), (11, .aload 0, 1, 0), (12, .aload 0, 1, 0), (13, .getfield 703, 3, 28), (16, .invokevirtual 102, 3, 31), (19, .iconst 32, 2, 1), (21, .if_icmp .ne 37, 3, 0), (24, .aload 0, 1, 0), (25, .dup, 1, 0), (26, .getfield 703, 3, 28), (29, .iconst 1, 1, 0), (30, .iadd, 1, 0), (31, .putfield 703, 3, 28), (34, .goto 0, 3, 0), (37, .aload 0, 1, 0), (38, .getfield 703, 3, 28), (41, .ireturn, 1, 0)], [])
/-- 104: ListDesk$Tape.nextByte()I -/
def am_m104 : amM := ("ListDesk$Tape", ⟨"ListDesk$Tape", "nextByte", "()I"⟩, prog_11_method_7_code, 1, (some .int), 0, [(0, .aload 0, 1, 0), (1, .aload 0, 1, 0), (2, .invokevirtual 103, 3, 35), (5, .invokevirtual 102, 3, 31), (8, .ireturn, 1, 0)], [])
/-- 105: ListDesk$Tape.isAtEnd()Z -/
def am_m105 : amM := ("ListDesk$Tape", ⟨"ListDesk$Tape", "isAtEnd", "()Z"⟩, prog_11_method_8_code, 1, (some .boolean), 0, [(0, .aload 0, 1, 0), (1, .invokevirtual 104, 3, 39), (4, .iconst (-1), 1, 0), (5, .if_icmp .ne 12, 3, 0), (8, .iconst 1, 1, 0), (9, .goto 13, 3, 0), (12, .iconst 0, 1, 0), (13, .ireturn, 1, 0)], [])
/-- 106: ListDesk$Tape.isAtNumber()Z -/
def am_m106 : amM := ("ListDesk$Tape", ⟨"ListDesk$Tape", "isAtNumber", "()Z"⟩, prog_11_method_9_code, 1, (some .boolean), 0, [(0, .aload 0, 1, 0), (1, .aload 0, 1, 0), (2, .getfield 703, 3, 28), (5, .invokevirtual 102, 3, 31), (8, .invokestatic 110, 3, 42), (11, .ifCond .ne 43, 3, 0), (14, .aload 0, 1, 0), (15, .aload 0, 1, 0), (16, .getfield 703, 3, 28), (19, .invokevirtual 102, 3, 31), (22, .iconst 45, 2, 1), (24, .if_icmp .ne 47, 3, 0), (27, .aload 0, 1, 0), (28, .aload 0, 1, 0), (29, .getfield 703, 3, 28), (32, .iconst 1, 1, 0), (33, .iadd, 1, 0), (34, .invokevirtual 102, 3, 31), (37, .invokestatic 110, 3, 42), (40, .ifCond .eq 47, 3, 0), (43, .iconst 1, 1, 0), (44, .goto 48, 3, 0), (47, .iconst 0, 1, 0), (48, .ireturn, 1, 0)], [])
/-- 107: ListDesk$Tape.isAtWord(Ljava/lang/String;)Z -/
def am_m107 : amM := ("ListDesk$Tape", ⟨"ListDesk$Tape", "isAtWord", "(Ljava/lang/String;)Z"⟩, prog_11_method_10_code, 3, (some .boolean), 1, [(0, .iconst 0, 1, 0), (1, .istore 2, 1, 0), (2, .iload 2, 1, 0), (3, .aload 1, 1, 0), (4, .invokevirtual 901, 3, 46), (7, .if_icmp .ge 36, 3, 0), (10, .aload 0, 1, 0), (11, .aload 0, 1, 0), (12, .getfield 703, 3, 28), (15, .iload 2, 1, 0), (16, .iadd, 1, 0), (17, .invokevirtual 102, 3, 31), (20, .aload 1, 1, 0), (21, .iload 2, 1, 0), (22, .invokevirtual 902, 3, 50), (25, .if_icmp .eq 30, 3, 0), (28, .iconst 0, 1, 0), (29, .ireturn, 1, 0), (30, .iinc 2 1, 3, 0), (33, .goto 2, 3, 0), (36, .aload 0, 1, 0), (37, .aload 0, 1, 0), (38, .getfield 703, 3, 28), (41, .aload 1, 1, 0), (42, .invokevirtual 901, 3, 46), (45, .iadd, 1, 0), (46, .invokevirtual 102, 3, 31), (49, .invokestatic 109, 3, 54), (52, .ireturn, 1, 0)], [])
/-- 108: ListDesk$Tape.letter()I -/
def am_m108 : amM := ("ListDesk$Tape", ⟨"ListDesk$Tape", "letter", "()I"⟩, prog_11_method_11_code, 2, (some .int), 0, [(0, .aload 0, 1, 0), (1, .aload 0, 1, 0), (2, .getfield 703, 3, 28), (5, .invokevirtual 102, 3, 31), (8, .istore 1, 1, 0), (9, .iload 1, 1, 0), (10, .iconst 97, 2, 1), (12, .if_icmp .lt 44, 3, 0), (15, .iload 1, 1, 0), (16, .iconst 122, 2, 1), (18, .if_icmp .gt 44, 3, 0), (21, .aload 0, 1, 0), (22, .aload 0, 1, 0), (23, .getfield 703, 3, 28), (26, .iconst 1, 1, 0), (27, .iadd, 1, 0), (28, .invokevirtual 102, 3, 31), (31, .invokestatic 109, 3, 54), (34, .ifCond .eq 44, 3, 0), (37, .iload 1, 1, 0), (38, .iconst 97, 2, 1), (40, .isub, 1, 0), (41, .goto 45, 3, 0), (44, .iconst (-1), 1, 0), (45, .ireturn, 1, 0)], [])
/-- 109: ListDesk$Tape.endsWord(I)Z -/
def am_m109 : amM := ("ListDesk$Tape", ⟨"ListDesk$Tape", "endsWord", "(I)Z"⟩, prog_11_method_12_code, 1, (some .boolean), 1, [(0, .iload 0, 1, 0), (1, .iconst (-1), 1, 0), (2, .if_icmp .eq 23, 3, 0), (5, .iload 0, 1, 0), (6, .iconst 32, 2, 1), (8, .if_icmp .eq 23, 3, 0), (11, .iload 0, 1, 0), (12, .iconst 40, 2, 1), (14, .if_icmp .eq 23, 3, 0), (17, .iload 0, 1, 0), (18, .iconst 41, 2, 1), (20, .if_icmp .ne 27, 3, 0), (23, .iconst 1, 1, 0), (24, .goto 28, 3, 0), (27, .iconst 0, 1, 0), (28, .ireturn, 1, 0)], [])
/-- 110: ListDesk$Tape.isDigit(I)Z -/
def am_m110 : amM := ("ListDesk$Tape", ⟨"ListDesk$Tape", "isDigit", "(I)Z"⟩, prog_11_method_13_code, 1, (some .boolean), 1, [(0, .iload 0, 1, 0), (1, .iconst 48, 2, 1), (3, .if_icmp .lt 16, 3, 0), (6, .iload 0, 1, 0), (7, .iconst 57, 2, 1), (9, .if_icmp .gt 16, 3, 0), (12, .iconst 1, 1, 0), (13, .goto 17, 3, 0), (16, .iconst 0, 1, 0), (17, .ireturn, 1, 0)], [])
/-- 111: ListDesk$Value.of(II)J -/
def am_m111 : amM := ("ListDesk$Value", ⟨"ListDesk$Value", "of", "(II)J"⟩, prog_12_method_2_code, 2, (some .long), 2, [(0, .iload 0, 1, 0), (1, .i2l, 1, 0), (2, .iconst 32, 2, 1), (4, .lshl, 1, 0), (5, .iload 1, 1, 0), (6, .i2l, 1, 0), (7, .jsr_w 4294967295, 3, 9), (10, .land, 1, 0), (11, .lor, 1, 0), (12, .lreturn, 1, 0)], [])
/-- 112: ListDesk$Value.tag(J)I -/
def am_m112 : amM := ("ListDesk$Value", ⟨"ListDesk$Value", "tag", "(J)I"⟩, prog_12_method_3_code, 2, (some .int), 1, [(0, .lload 0, 1, 0), (1, .iconst 32, 2, 1), (3, .lushr, 1, 0), (4, .l2i, 1, 0), (5, .ireturn, 1, 0)], [])
/-- 113: ListDesk$Value.body(J)I -/
def am_m113 : amM := ("ListDesk$Value", ⟨"ListDesk$Value", "body", "(J)I"⟩, prog_12_method_4_code, 2, (some .int), 1, [(0, .lload 0, 1, 0), (1, .l2i, 1, 0), (2, .ireturn, 1, 0)], [])
/-- 114: ListDesk$Value.truth(Z)J -/
def am_m114 : amM := ("ListDesk$Value", ⟨"ListDesk$Value", "truth", "(Z)J"⟩, prog_12_method_5_code, 1, (some .long), 1, [(0, .iconst 0, 1, 0), (1, .iload 0, 1, 0), (2, .ifCond .eq 9, 3, 0), (5, .iconst 1, 1, 0), (6, .goto 10, 3, 0), (9, .iconst 0, 1, 0), (10, .invokestatic 111, 3, 11), (13, .lreturn, 1, 0)], [])
/-- 115: ListDesk.<init>()V -/
def am_m115 : amM := ("ListDesk", ⟨"ListDesk", "<init>", "()V"⟩, prog_1_method_1_code, 4, none, 0, [(0, .aload 0, 1, 0), (1, .invokespecial 903, 3, 3), (4, .new 0, 3, 9), (7, .dup, 1, 0), (8, .invokespecial 0, 3, 11), (11, .astore 1, 1, 0), (12, .new 4, 3, 12), (15, .dup, 1, 0), (16, .invokespecial 54, 3, 14), (19, .astore 2, 1, 0), (20, .new 1, 3, 15), (23, .dup, 1, 0), (24, .invokespecial 7, 3, 17), (27, .astore 3, 1, 0), (28, .aload 0, 1, 0), (29, .new 7, 3, 18), (32, .dup, 1, 0), (33, .invokespecial 98, 3, 20), (36, .putfield 20800, 3, 21), (39, .aload 0, 1, 0), (40, .new 6, 3, 25), (43, .dup, 1, 0), (44, .aload 0, 1, 0), (45, .getfield 800, 3, 21), (48, .aload 1, 1, 0), (49, .aload 2, 1, 0), (50, .aload 3, 1, 0), (51, .invokespecial 70, 3, 27), (54, .putfield 20801, 3, 30), (57, .aload 0, 1, 0), (58, .new 3, 3, 34), (61, .dup, 1, 0), (62, .aload 1, 1, 0), (63, .aload 2, 1, 0), (64, .aload 3, 1, 0), (65, .invokespecial 29, 3, 36), (68, .putfield 20802, 3, 39), (71, .return_, 1, 0)], [])
/-- 116: ListDesk.feed(JI)I -/
def am_m116 : amM := ("ListDesk", ⟨"ListDesk", "feed", "(JI)I"⟩, prog_1_method_2_code, 4, (some .int), 2, [(0, .iload 3, 1, 0), (1, .iconst 1, 1, 0), (2, .if_icmp .lt 11, 3, 0), (5, .iload 3, 1, 0), (6, .iconst 8, 2, 1), (8, .if_icmp .le 21, 3, 0), (11, .new 1000, 3, 1), (21, .aload 0, 1, 0), (22, .getfield 800, 3, 21), (25, .iload 3, 1, 0), (26, .invokevirtual 99, 3, 50), (29, .ifCond .ne 42, 3, 0), (32, .new 1001, 3, 2), (42, .aload 0, 1, 0), (43, .getfield 800, 3, 21), (46, .lload 1, 1, 0), (47, .iload 3, 1, 0), (48, .invokevirtual 100, 3, 59), (51, .ireturn, 1, 0)], [])
/-- 117: ListDesk.load()V -/
def am_m117 : amM := ("ListDesk", ⟨"ListDesk", "load", "()V"⟩, prog_1_method_3_code, 1, none, 0, [(0, .aload 0, 1, 0), (1, .getfield 802, 3, 39), (4, .invokevirtual 30, 3, 63), (7, .aload 0, 1, 0), (8, .getfield 801, 3, 30), (11, .invokevirtual 71, 3, 66), (14, .aload 0, 1, 0), (15, .getfield 802, 3, 39), (18, .invokevirtual 31, 3, 69), (21, .return_, 1, 0)], [])
/-- 118: ListDesk.place()I -/
def am_m118 : amM := ("ListDesk", ⟨"ListDesk", "place", "()I"⟩, prog_1_method_4_code, 1, (some .int), 0, [(0, .aload 0, 1, 0), (1, .getfield 802, 3, 39), (4, .getfield 10313, 3, 72), (7, .ifCond .ne 20, 3, 0), (10, .aload 0, 1, 0), (11, .getfield 801, 3, 30), (14, .getfield 10605, 3, 76), (17, .goto 27, 3, 0), (20, .aload 0, 1, 0), (21, .getfield 802, 3, 39), (24, .getfield 10314, 3, 79), (27, .ireturn, 1, 0)], [])
/-- 119: ListDesk.run(I)I -/
def am_m119 : amM := ("ListDesk", ⟨"ListDesk", "run", "(I)I"⟩, prog_1_method_5_code, 2, (some .int), 1, [(0, .iload 1, 1, 0), (1, .iconst 1, 1, 0), (2, .if_icmp .lt 12, 3, 0), (5, .iload 1, 1, 0), (6, .iconst 2000, 3, 2), (9, .if_icmp .le 22, 3, 0), (12, .new 1000, 3, 3), (22, .aload 0, 1, 0), (23, .getfield 802, 3, 39), (26, .getfield 10313, 3, 72), (29, .iconst 2, 1, 0), (30, .if_icmp .eq 43, 3, 0), (33, .new 1001, 3, 4), (43, .aload 0, 1, 0), (44, .getfield 802, 3, 39), (47, .iload 1, 1, 0), (48, .invokevirtual 32, 3, 86), (51, .ireturn, 1, 0)], [])
/-- 120: ListDesk.status()I -/
def am_m120 : amM := ("ListDesk", ⟨"ListDesk", "status", "()I"⟩, prog_1_method_6_code, 1, (some .int), 0, [(0, .aload 0, 1, 0), (1, .getfield 802, 3, 39), (4, .getfield 10313, 3, 72), (7, .ireturn, 1, 0)], [])
/-- 121: ListDesk.look(I)I -/
def am_m121 : amM := ("ListDesk", ⟨"ListDesk", "look", "(I)I"⟩, prog_1_method_7_code, 2, (some .int), 1, [(0, .iload 1, 1, 0), (1, .tableswitch 70 0 3 #[32, 40, 51, 59], 31, 0), (32, .aload 0, 1, 0), (33, .getfield 802, 3, 39), (36, .getfield 10312, 3, 90), (39, .ireturn, 1, 0), (40, .aload 0, 1, 0), (41, .getfield 802, 3, 39), (44, .getfield 10303, 3, 93), (47, .getfield 10203, 3, 97), (50, .ireturn, 1, 0), (51, .aload 0, 1, 0), (52, .getfield 802, 3, 39), (55, .getfield 10311, 3, 102), (58, .ireturn, 1, 0), (59, .aload 0, 1, 0), (60, .getfield 802, 3, 39), (63, .getfield 10304, 3, 105), (66, .getfield 10501, 3, 109), (69, .ireturn, 1, 0), (70, .new 1000, 3, 5)], [])
/-- 122: ListDesk.out(I)I -/
def am_m122 : amM := ("ListDesk", ⟨"ListDesk", "out", "(I)I"⟩, prog_1_method_8_code, 2, (some .int), 1, [(0, .aload 0, 1, 0), (1, .getfield 802, 3, 39), (4, .getfield 10304, 3, 105), (7, .iload 1, 1, 0), (8, .invokevirtual 68, 3, 116), (11, .ifCond .ne 24, 3, 0), (14, .new 1002, 3, 6), (24, .aload 0, 1, 0), (25, .getfield 802, 3, 39), (28, .getfield 10304, 3, 105), (31, .iload 1, 1, 0), (32, .invokevirtual 69, 3, 124), (35, .ireturn, 1, 0)], [])
/-- 123: ListDesk.kind(I)I -/
def am_m123 : amM := ("ListDesk", ⟨"ListDesk", "kind", "(I)I"⟩, prog_1_method_9_code, 4, (some .int), 1, [(0, .aload 0, 1, 0), (1, .iload 1, 1, 0), (2, .invokevirtual 125, 3, 127), (5, .aload 0, 1, 0), (6, .getfield 802, 3, 39), (9, .iload 1, 1, 0), (10, .invokevirtual 53, 3, 131), (13, .lstore 2, 1, 0), (14, .lload 2, 1, 0), (15, .jsr_w 21474836480, 3, 137), (18, .lcmp, 1, 0), (19, .ifCond .ne 26, 3, 0), (22, .iconst (-1), 1, 0), (23, .goto 30, 3, 0), (26, .lload 2, 1, 0), (27, .invokestatic 112, 3, 139), (30, .ireturn, 1, 0)], [])
/-- 124: ListDesk.number(I)I -/
def am_m124 : amM := ("ListDesk", ⟨"ListDesk", "number", "(I)I"⟩, prog_1_method_10_code, 4, (some .int), 1, [(0, .aload 0, 1, 0), (1, .iload 1, 1, 0), (2, .invokevirtual 125, 3, 127), (5, .aload 0, 1, 0), (6, .getfield 802, 3, 39), (9, .iload 1, 1, 0), (10, .invokevirtual 53, 3, 131), (13, .lstore 2, 1, 0), (14, .lload 2, 1, 0), (15, .invokestatic 112, 3, 139), (18, .ifCond .ne 28, 3, 0), (21, .lload 2, 1, 0), (22, .invokestatic 113, 3, 143), (25, .goto 29, 3, 0), (28, .iconst 0, 1, 0), (29, .ireturn, 1, 0)], [])
/-- 125: ListDesk.checkWay(I)V -/
def am_m125 : amM := ("ListDesk", ⟨"ListDesk", "checkWay", "(I)V"⟩, prog_1_method_11_code, 2, none, 1, [(0, .iload 1, 1, 0), (1, .iconst 1, 1, 0), (2, .if_icmp .ge 15, 3, 0), (5, .new 1000, 3, 7), (15, .aload 0, 1, 0), (16, .getfield 802, 3, 39), (19, .getfield 10313, 3, 72), (22, .iconst 1, 1, 0), (23, .if_icmp .eq 36, 3, 0), (26, .new 1001, 3, 8), (36, .return_, 1, 0)], [])
/-- 126: ListDeskModel.<init>()V -/
def am_m126 : amM := ("ListDeskModel", ⟨"ListDeskModel", "<init>", "()V"⟩, prog_15_method_1_code, 1, none, 0, [(0, .aload 0, 1, 0), (1, .invokespecial 903, 3, 1), (4, .aload 0, 1, 0), (5, .iconst 250, 3, 2), (8, .newarray .int, 2, 0), (10, .putfield 20901, 3, 7), (13, .aload 0, 1, 0), (14, .iconst (-1), 1, 0), (15, .putfield 906, 3, 13), (18, .aload 0, 1, 0), (19, .iconst 256, 3, 2), (22, .newarray .int, 2, 0), (24, .putfield 20908, 3, 17), (27, .aload 0, 1, 0), (28, .iconst 256, 3, 2), (31, .newarray .int, 2, 0), (33, .putfield 20909, 3, 20), (36, .aload 0, 1, 0), (37, .iconst 256, 3, 2), (40, .newarray .int, 2, 0), (42, .putfield 20910, 3, 23), (45, .aload 0, 1, 0), (46, .iconst 256, 3, 2), (49, .newarray .int, 2, 0), (51, .putfield 20911, 3, 26), (54, .aload 0, 1, 0), (55, .iconst 256, 3, 2), (58, .newarray .int, 2, 0), (60, .putfield 20912, 3, 29), (63, .aload 0, 1, 0), (64, .iconst 256, 3, 2), (67, .newarray .int, 2, 0), (69, .putfield 20913, 3, 32), (72, .aload 0, 1, 0), (73, .iconst 256, 3, 2), (76, .newarray .int, 2, 0), (78, .putfield 20914, 3, 35), (81, .aload 0, 1, 0), (82, .iconst 1024, 3, 2), (85, .newarray .int, 2, 0), (87, .putfield 20915, 3, 38), (90, .aload 0, 1, 0), (91, .iconst 256, 3, 2), (94, .newarray .int, 2, 0), (96, .putfield 20916, 3, 41), (99, .aload 0, 1, 0), (100, .iconst 256, 3, 2), (103, .newarray .boolean, 2, 0), (105, .putfield 20917, 3, 44), (108, .aload 0, 1, 0), (109, .iconst 256, 3, 2), (112, .newarray .boolean, 2, 0), (114, .putfield 20918, 3, 48), (117, .aload 0, 1, 0), (118, .iconst 24, 2, 1), (120, .newarray .int, 2, 0), (122, .putfield 20920, 3, 51), (125, .aload 0, 1, 0), (126, .iconst 24, 2, 1), (128, .newarray .boolean, 2, 0), (130, .putfield 20921, 3, 54), (133, .aload 0, 1, 0), (134, .iconst 24, 2, 1), (136, .newarray .int, 2, 0), (138, .putfield 20922, 3, 57), (141, .aload 0, 1, 0), (142, .iconst 256, 3, 2), (145, .newarray .int, 2, 0), (147, .putfield 20924, 3, 60), (150, .aload 0, 1, 0), (151, .iconst 256, 3, 2), (154, .newarray .int, 2, 0), (156, .putfield 20925, 3, 63), (159, .aload 0, 1, 0), (160, .iconst 2000, 3, 2), (163, .newarray .long, 2, 0), (165, .putfield 20934, 3, 66), (168, .aload 0, 1, 0), (169, .iconst 2000, 3, 2), (172, .newarray .long, 2, 0), (174, .putfield 20935, 3, 70), (177, .aload 0, 1, 0), (178, .iconst 2000, 3, 2), (181, .newarray .int, 2, 0), (183, .putfield 20937, 3, 73), (186, .aload 0, 1, 0), (187, .iconst 2000, 3, 2), (190, .newarray .int, 2, 0), (192, .putfield 20938, 3, 76), (195, .aload 0, 1, 0), (196, .iconst 120000, 2, 89), (198, .newarray .int, 2, 0), (200, .putfield 20940, 3, 80), (203, .aload 0, 1, 0), (204, .iconst 120000, 2, 89), (206, .newarray .long, 2, 0), (208, .putfield 20941, 3, 83), (211, .aload 0, 1, 0), (212, .iconst 120000, 2, 89), (214, .newarray .int, 2, 0), (216, .putfield 20942, 3, 86), (219, .aload 0, 1, 0), (220, .iconst 120000, 2, 89), (222, .newarray .boolean, 2, 0), (224, .putfield 20943, 3, 89), (227, .aload 0, 1, 0), (228, .iconst 8000, 3, 2), (231, .newarray .int, 2, 0), (233, .putfield 20945, 3, 92), (236, .aload 0, 1, 0), (237, .iconst 8000, 3, 2), (240, .newarray .int, 2, 0), (242, .putfield 20946, 3, 95), (245, .aload 0, 1, 0), (246, .iconst 8000, 3, 2), (249, .newarray .int, 2, 0), (251, .putfield 20947, 3, 98), (254, .aload 0, 1, 0), (255, .iconst 8000, 3, 2), (258, .newarray .int, 2, 0), (260, .putfield 20948, 3, 101), (263, .aload 0, 1, 0), (264, .iconst 16000, 3, 2), (267, .newarray .long, 2, 0), (269, .putfield 20950, 3, 104), (272, .aload 0, 1, 0), (273, .iconst 200, 3, 2), (276, .newarray .int, 2, 0), (278, .putfield 20956, 3, 107), (281, .aload 0, 1, 0), (282, .iconst 104, 2, 1), (284, .newarray .int, 2, 0), (286, .putfield 20957, 3, 110), (289, .return_, 1, 0)], [])
/-- 127: ListDeskModel.thrown()I -/
def am_m127 : amM := ("ListDeskModel", ⟨"ListDeskModel", "thrown", "()I"⟩, prog_15_method_2_code, 1, (some .int), 0, [(0, .aload 0, 1, 0), (1, .getfield 900, 3, 113), (4, .ireturn, 1, 0)], [])
/-- 128: ListDeskModel.throwing(ZZ)Z -/
def am_m128 : amM := ("ListDeskModel", ⟨"ListDeskModel", "throwing", "(ZZ)Z"⟩, prog_15_method_3_code, 3, (some .boolean), 2, [(0, .aload 0, 1, 0), (1, .iload 1, 1, 0), (2, .ifCond .eq 9, 3, 0), (5, .iconst 1, 1, 0), (6, .goto 18, 3, 0), (9, .iload 2, 1, 0), (10, .ifCond .eq 17, 3, 0), (13, .iconst 2, 1, 0), (14, .goto 18, 3, 0), (17, .iconst 0, 1, 0), (18, .putfield 900, 3, 113), (21, .aload 0, 1, 0), (22, .getfield 900, 3, 113), (25, .ifCond .le 32, 3, 0), (28, .iconst 1, 1, 0), (29, .goto 33, 3, 0), (32, .iconst 0, 1, 0), (33, .ireturn, 1, 0)], [])
/-- 129: ListDeskModel.in(III)Z -/
def am_m129 : amM := ("ListDeskModel", ⟨"ListDeskModel", "in", "(III)Z"⟩, prog_15_method_4_code, 3, (some .boolean), 3, [(0, .iload 0, 1, 0), (1, .iload 1, 1, 0), (2, .if_icmp .lt 14, 3, 0), (5, .iload 0, 1, 0), (6, .iload 2, 1, 0), (7, .if_icmp .gt 14, 3, 0), (10, .iconst 1, 1, 0), (11, .goto 15, 3, 0), (14, .iconst 0, 1, 0), (15, .ireturn, 1, 0)], [])
/-- 130: ListDeskModel.feed(JI)I -/
def am_m130 : amM := ("ListDeskModel", ⟨"ListDeskModel", "feed", "(JI)I"⟩, prog_15_method_5_code, 6, (some .int), 2, [(0, .iload 3, 1, 0), (1, .iconst 1, 1, 0), (2, .iconst 8, 2, 1), (4, .invokestatic 129, 3, 116), (7, .ifCond .ne 14, 3, 0), (10, .iconst 1, 1, 0), (11, .goto 15, 3, 0), (14, .iconst 0, 1, 0), (15, .istore 4, 2, 0), (17, .aload 0, 1, 0), (18, .iload 4, 2, 0), (20, .iload 4, 2, 0), (22, .ifCond .ne 41, 3, 0), (25, .aload 0, 1, 0), (26, .getfield 902, 3, 120), (29, .iload 3, 1, 0), (30, .iadd, 1, 0), (31, .iconst 250, 3, 2), (34, .if_icmp .le 41, 3, 0), (37, .iconst 1, 1, 0), (38, .goto 42, 3, 0), (41, .iconst 0, 1, 0), (42, .invokevirtual 128, 3, 123), (45, .ifCond .eq 50, 3, 0), (48, .iconst 0, 1, 0), (49, .ireturn, 1, 0), (50, .iload 3, 1, 0), (51, .iconst 1, 1, 0), (52, .isub, 1, 0), (53, .istore 5, 2, 0), (55, .iload 5, 2, 0), (57, .ifCond .lt 97, 3, 0), (60, .aload 0, 1, 0), (61, .getfield 901, 3, 7), (64, .aload 0, 1, 0), (65, .getfield 902, 3, 120), (68, .lload 1, 1, 0), (69, .iconst 8, 2, 1), (71, .iload 5, 2, 0), (73, .imul, 1, 0), (74, .lshr, 1, 0), (75, .l2i, 1, 0), (76, .iconst 255, 3, 2), (79, .iand, 1, 0), (80, .iastore, 1, 0), (81, .aload 0, 1, 0), (82, .dup, 1, 0), (83, .getfield 902, 3, 120), (86, .iconst 1, 1, 0), (87, .iadd, 1, 0), (88, .putfield 902, 3, 120), (91, .iinc 5 (-1), 3, 0), (94, .goto 55, 3, 0), (97, .aload 0, 1, 0), (98, .getfield 902, 3, 120), (101, .ireturn, 1, 0)], [])
/-- 131: ListDeskModel.fail(I)V -/
def am_m131 : amM := ("ListDeskModel", ⟨"ListDeskModel", "fail", "(I)V"⟩, prog_15_method_6_code, 2, none, 1, [(0, .aload 0, 1, 0), (1, .getfield 905, 3, 127), (4, .ifCond .eq 8, 3, 0), (7, .return_, 1, 0), (8, .aload 0, 1, 0), (9, .iconst 1, 1, 0), (10, .putfield 905, 3, 127), (13, .aload 0, 1, 0), (14, .iload 1, 1, 0), (15, .putfield 906, 3, 13), (18, .return_, 1, 0)], [])
/-- 132: ListDeskModel.see()I -/
def am_m132 : amM := ("ListDeskModel", ⟨"ListDeskModel", "see", "()I"⟩, prog_15_method_7_code, 1, (some .int), 0, [(0, .aload 0, 1, 0), (1, .getfield 904, 3, 131), (4, .aload 0, 1, 0), (5, .getfield 903, 3, 134), (8, .if_icmp .ge 38, 3, 0), (11, .aload 0, 1, 0), (12, .getfield 901, 3, 7), (15, .aload 0, 1, 0), (16, .getfield 904, 3, 131), (19, .iaload, 1, 0), (20, .iconst 32, 2, 1), (22, .if_icmp .ne 38, 3, 0), (25, .aload 0, 1, 0), (26, .dup, 1, 0), (27, .getfield 904, 3, 131), (30, .iconst 1, 1, 0), (31, .iadd, 1, 0), (32, .putfield 904, 3, 131), (35, .goto 0, 3, 0), (38, .aload 0, 1, 0), (39, .getfield 904, 3, 131), (42, .aload 0, 1, 0), (43, .getfield 903, 3, 134), (46, .if_icmp .ge 61, 3, 0), (49, .aload 0, 1, 0), (50, .getfield 901, 3, 7), (53, .aload 0, 1, 0), (54, .getfield 904, 3, 131), (57, .iaload, 1, 0), (58, .goto 62, 3, 0), (61, .iconst (-1), 1, 0), (62, .ireturn, 1, 0)], [])
/-- 133: ListDeskModel.sign(I)V -/
def am_m133 : amM := ("ListDeskModel", ⟨"ListDeskModel", "sign", "(I)V"⟩, prog_15_method_8_code, 2, none, 1, [(0, .aload 0, 1, 0), (1, .invokevirtual 132, 3, 137), (4, .iload 1, 1, 0), (5, .if_icmp .eq 16, 3, 0), (8, .aload 0, 1, 0), (9, .aload 0, 1, 0), (10, .getfield 904, 3, 131), (13, .invokevirtual 131, 3, 141), (16, .aload 0, 1, 0), (17, .dup, 1, 0), (18, .getfield 904, 3, 131), (21, .iconst 1, 1, 0), (22, .iadd, 1, 0), (23, .putfield 904, 3, 131), (26, .return_, 1, 0)], [])
/-- 134: ListDeskModel.word()V -/
def am_m134 : amM := ("ListDeskModel", ⟨"ListDeskModel", "word", "()V"⟩, prog_15_method_9_code, 1, none, 0, [(0, .aload 0, 1, 0), (1, .invokevirtual 132, 3, 137), (4, .pop, 1, 0), (5, .aload 0, 1, 0), (6, .aload 0, 1, 0), (7, .getfield 904, 3, 131), (10, .putfield 927, 3, 145), (13, .aload 0, 1, 0), (14, .getfield 904, 3, 131), (17, .aload 0, 1, 0), (18, .getfield 903, 3, 134), (21, .if_icmp .ge 79, 3, 0), (24, .aload 0, 1, 0), (25, .getfield 901, 3, 7), (28, .aload 0, 1, 0), (29, .getfield 904, 3, 131), (32, .iaload, 1, 0), (33, .iconst 32, 2, 1), (35, .if_icmp .eq 79, 3, 0), (38, .aload 0, 1, 0), (39, .getfield 901, 3, 7), (42, .aload 0, 1, 0), (43, .getfield 904, 3, 131), (46, .iaload, 1, 0), (47, .iconst 40, 2, 1), (49, .if_icmp .eq 79, 3, 0), (52, .aload 0, 1, 0), (53, .getfield 901, 3, 7), (56, .aload 0, 1, 0), (57, .getfield 904, 3, 131), (60, .iaload, 1, 0), (61, .iconst 41, 2, 1), (63, .if_icmp .eq 79, 3, 0), (66, .aload 0, 1, 0), (67, .dup, 1, 0), (68, .getfield 904, 3, 131), (71, .iconst 1, 1, 0), (72, .iadd, 1, 0), (73, .putfield 904, 3, 131), (76, .goto 13, 3, 0), (79, .aload 0, 1, 0), (80, .aload 0, 1, 0), (81, .getfield 904, 3, 131), (84, .putfield 928, 3, 148), (87, .return_, 1, 0)], [])
/-- 135: ListDeskModel.isWord(IIIIII)Z -/
def am_m135 : amM := ("ListDeskModel", ⟨"ListDeskModel", "isWord", "(IIIIII)Z"⟩, prog_15_method_10_code, 9, (some .boolean), 6, [(0, .iload 6, 2, 0), (2, .ifCond .eq 10, 3, 0), (5, .iconst 6, 2, 1), (7, .goto 45, 3, 0), (10, .iload 5, 2, 0), (12, .ifCond .eq 19, 3, 0), (15, .iconst 5, 1, 0), (16, .goto 45, 3, 0), (19, .iload 4, 2, 0), (21, .ifCond .eq 28, 3, 0), (24, .iconst 4, 1, 0), (25, .goto 45, 3, 0), (28, .iload 3, 1, 0), (29, .ifCond .eq 36, 3, 0), (32, .iconst 3, 1, 0), (33, .goto 45, 3, 0), (36, .iload 2, 1, 0), (37, .ifCond .eq 44, 3, 0), (40, .iconst 2, 1, 0), (41, .goto 45, 3, 0), (44, .iconst 1, 1, 0), (45, .istore 7, 2, 0), (47, .aload 0, 1, 0), (48, .getfield 928, 3, 148), (51, .aload 0, 1, 0), (52, .getfield 927, 3, 145), (55, .isub, 1, 0), (56, .iload 7, 2, 0), (58, .if_icmp .eq 63, 3, 0), (61, .iconst 0, 1, 0), (62, .ireturn, 1, 0), (63, .aload 0, 1, 0), (64, .getfield 901, 3, 7), (67, .aload 0, 1, 0), (68, .getfield 927, 3, 145), (71, .iaload, 1, 0), (72, .iload 1, 1, 0), (73, .if_icmp .ne 122, 3, 0), (76, .iload 7, 2, 0), (78, .iconst 2, 1, 0), (79, .if_icmp .lt 97, 3, 0), (82, .aload 0, 1, 0), (83, .getfield 901, 3, 7), (86, .aload 0, 1, 0), (87, .getfield 927, 3, 145), (90, .iconst 1, 1, 0), (91, .iadd, 1, 0), (92, .iaload, 1, 0), (93, .iload 2, 1, 0), (94, .if_icmp .ne 122, 3, 0), (97, .iload 7, 2, 0), (99, .iconst 3, 1, 0), (100, .if_icmp .lt 118, 3, 0), (103, .aload 0, 1, 0), (104, .getfield 901, 3, 7), (107, .aload 0, 1, 0), (108, .getfield 927, 3, 145), (111, .iconst 2, 1, 0), (112, .iadd, 1, 0), (113, .iaload, 1, 0), (114, .iload 3, 1, 0), (115, .if_icmp .ne 122, 3, 0), (118, .iconst 1, 1, 0), (119, .goto 123, 3, 0), (122, .iconst 0, 1, 0), (123, .istore 8, 2, 0), (125, .iload 8, 2, 0), (127, .ifCond .eq 201, 3, 0), (130, .iload 7, 2, 0), (132, .iconst 4, 1, 0), (133, .if_icmp .lt 152, 3, 0), (136, .aload 0, 1, 0), (137, .getfield 901, 3, 7), (140, .aload 0, 1, 0), (141, .getfield 927, 3, 145), (144, .iconst 3, 1, 0), (145, .iadd, 1, 0), (146, .iaload, 1, 0), (147, .iload 4, 2, 0), (149, .if_icmp .ne 201, 3, 0), (152, .iload 7, 2, 0), (154, .iconst 5, 1, 0), (155, .if_icmp .lt 174, 3, 0), (158, .aload 0, 1, 0), (159, .getfield 901, 3, 7), (162, .aload 0, 1, 0), (163, .getfield 927, 3, 145), (166, .iconst 4, 1, 0), (167, .iadd, 1, 0), (168, .iaload, 1, 0), (169, .iload 5, 2, 0), (171, .if_icmp .ne 201, 3, 0), (174, .iload 7, 2, 0), (176, .iconst 6, 2, 1), (178, .if_icmp .lt 197, 3, 0), (181, .aload 0, 1, 0), (182, .getfield 901, 3, 7), (185, .aload 0, 1, 0), (186, .getfield 927, 3, 145), (189, .iconst 5, 1, 0), (190, .iadd, 1, 0), (191, .iaload, 1, 0), (192, .iload 6, 2, 0), (194, .if_icmp .ne 201, 3, 0), (197, .iconst 1, 1, 0), (198, .goto 202, 3, 0), (201, .iconst 0, 1, 0), (202, .ireturn, 1, 0)], [])
/-- 136: ListDeskModel.isLetter()Z -/
def am_m136 : amM := ("ListDeskModel", ⟨"ListDeskModel", "isLetter", "()Z"⟩, prog_15_method_11_code, 1, (some .boolean), 0, [(0, .aload 0, 1, 0), (1, .getfield 928, 3, 148), (4, .aload 0, 1, 0), (5, .getfield 927, 3, 145), (8, .isub, 1, 0), (9, .iconst 1, 1, 0), (10, .if_icmp .ne 36, 3, 0), (13, .aload 0, 1, 0), (14, .getfield 901, 3, 7), (17, .aload 0, 1, 0), (18, .getfield 927, 3, 145), (21, .iaload, 1, 0), (22, .iconst 97, 2, 1), (24, .iconst 122, 2, 1), (26, .invokestatic 129, 3, 116), (29, .ifCond .eq 36, 3, 0), (32, .iconst 1, 1, 0), (33, .goto 37, 3, 0), (36, .iconst 0, 1, 0), (37, .ireturn, 1, 0)], [])
/-- 137: ListDeskModel.node(III)I -/
def am_m137 : amM := ("ListDeskModel", ⟨"ListDeskModel", "node", "(III)I"⟩, prog_15_method_12_code, 4, (some .int), 3, [(0, .aload 0, 1, 0), (1, .getfield 908, 3, 17), (4, .aload 0, 1, 0), (5, .getfield 907, 3, 151), (8, .iload 1, 1, 0), (9, .iastore, 1, 0), (10, .aload 0, 1, 0), (11, .getfield 909, 3, 20), (14, .aload 0, 1, 0), (15, .getfield 907, 3, 151), (18, .iload 2, 1, 0), (19, .iastore, 1, 0), (20, .aload 0, 1, 0), (21, .getfield 910, 3, 23), (24, .aload 0, 1, 0), (25, .getfield 907, 3, 151), (28, .iload 3, 1, 0), (29, .iastore, 1, 0), (30, .aload 0, 1, 0), (31, .getfield 911, 3, 26), (34, .aload 0, 1, 0), (35, .getfield 907, 3, 151), (38, .iconst (-1), 1, 0), (39, .iastore, 1, 0), (40, .aload 0, 1, 0), (41, .getfield 912, 3, 29), (44, .aload 0, 1, 0), (45, .getfield 907, 3, 151), (48, .iconst (-1), 1, 0), (49, .iastore, 1, 0), (50, .aload 0, 1, 0), (51, .getfield 913, 3, 32), (54, .aload 0, 1, 0), (55, .getfield 907, 3, 151), (58, .iconst (-1), 1, 0), (59, .iastore, 1, 0), (60, .aload 0, 1, 0), (61, .getfield 914, 3, 35), (64, .aload 0, 1, 0), (65, .getfield 907, 3, 151), (68, .iconst 0, 1, 0), (69, .iastore, 1, 0), (70, .aload 0, 1, 0), (71, .getfield 916, 3, 41), (74, .aload 0, 1, 0), (75, .getfield 907, 3, 151), (78, .iconst 0, 1, 0), (79, .iastore, 1, 0), (80, .aload 0, 1, 0), (81, .getfield 917, 3, 44), (84, .aload 0, 1, 0), (85, .getfield 907, 3, 151), (88, .iconst 0, 1, 0), (89, .bastore, 1, 0), (90, .aload 0, 1, 0), (91, .dup, 1, 0), (92, .getfield 907, 3, 151), (95, .iconst 1, 1, 0), (96, .iadd, 1, 0), (97, .putfield 907, 3, 151), (100, .aload 0, 1, 0), (101, .getfield 907, 3, 151), (104, .iconst 1, 1, 0), (105, .isub, 1, 0), (106, .ireturn, 1, 0)], [])
/-- 138: ListDeskModel.hang(II)V -/
def am_m138 : amM := ("ListDeskModel", ⟨"ListDeskModel", "hang", "(II)V"⟩, prog_15_method_13_code, 3, none, 2, [(0, .aload 0, 1, 0), (1, .getfield 914, 3, 35), (4, .iload 1, 1, 0), (5, .iaload, 1, 0), (6, .ifCond .ne 19, 3, 0), (9, .aload 0, 1, 0), (10, .getfield 911, 3, 26), (13, .iload 1, 1, 0), (14, .iload 2, 1, 0), (15, .iastore, 1, 0), (16, .goto 31, 3, 0), (19, .aload 0, 1, 0), (20, .getfield 913, 3, 32), (23, .aload 0, 1, 0), (24, .getfield 912, 3, 29), (27, .iload 1, 1, 0), (28, .iaload, 1, 0), (29, .iload 2, 1, 0), (30, .iastore, 1, 0), (31, .aload 0, 1, 0), (32, .getfield 912, 3, 29), (35, .iload 1, 1, 0), (36, .iload 2, 1, 0), (37, .iastore, 1, 0), (38, .aload 0, 1, 0), (39, .getfield 914, 3, 35), (42, .iload 1, 1, 0), (43, .dup2, 1, 0), (44, .iaload, 1, 0), (45, .iconst 1, 1, 0), (46, .iadd, 1, 0), (47, .iastore, 1, 0), (48, .return_, 1, 0)], [])
/-- 139: ListDeskModel.lookUp(I)I -/
def am_m139 : amM := ("ListDeskModel", ⟨"ListDeskModel", "lookUp", "(I)I"⟩, prog_15_method_14_code, 3, (some .int), 1, [(0, .aload 0, 1, 0), (1, .getfield 926, 3, 154), (4, .iconst 1, 1, 0), (5, .isub, 1, 0), (6, .istore 2, 1, 0), (7, .iload 2, 1, 0), (8, .ifCond .lt 34, 3, 0), (11, .aload 0, 1, 0), (12, .getfield 924, 3, 60), (15, .iload 2, 1, 0), (16, .iaload, 1, 0), (17, .iload 1, 1, 0), (18, .if_icmp .ne 28, 3, 0), (21, .aload 0, 1, 0), (22, .getfield 925, 3, 63), (25, .iload 2, 1, 0), (26, .iaload, 1, 0), (27, .ireturn, 1, 0), (28, .iinc 2 (-1), 3, 0), (31, .goto 7, 3, 0), (34, .iconst (-1), 1, 0), (35, .ireturn, 1, 0)], [])
/-- 140: ListDeskModel.tell(I)V -/
def am_m140 : amM := ("ListDeskModel", ⟨"ListDeskModel", "tell", "(I)V"⟩, prog_15_method_15_code, 4, none, 1, [(0, .aload 0, 1, 0), (1, .invokevirtual 134, 3, 157), (4, .aload 0, 1, 0), (5, .invokevirtual 136, 3, 160), (8, .ifCond .eq 25, 3, 0), (11, .aload 0, 1, 0), (12, .getfield 916, 3, 41), (15, .iload 1, 1, 0), (16, .iaload, 1, 0), (17, .iconst 4, 1, 0), (18, .if_icmp .ge 25, 3, 0), (21, .iconst 1, 1, 0), (22, .goto 26, 3, 0), (25, .iconst 0, 1, 0), (26, .istore 2, 1, 0), (27, .iconst 0, 1, 0), (28, .istore 3, 1, 0), (29, .iload 3, 1, 0), (30, .aload 0, 1, 0), (31, .getfield 916, 3, 41), (34, .iload 1, 1, 0), (35, .iaload, 1, 0), (36, .if_icmp .ge 77, 3, 0), (39, .iload 2, 1, 0), (40, .ifCond .eq 77, 3, 0), (43, .aload 0, 1, 0), (44, .getfield 924, 3, 60), (47, .iconst 240, 3, 2), (50, .iload 3, 1, 0), (51, .iadd, 1, 0), (52, .iaload, 1, 0), (53, .aload 0, 1, 0), (54, .getfield 901, 3, 7), (57, .aload 0, 1, 0), (58, .getfield 927, 3, 145), (61, .iaload, 1, 0), (62, .if_icmp .eq 69, 3, 0), (65, .iconst 1, 1, 0), (66, .goto 70, 3, 0), (69, .iconst 0, 1, 0), (70, .istore 2, 1, 0), (71, .iinc 3 1, 3, 0), (74, .goto 29, 3, 0), (77, .iload 2, 1, 0), (78, .ifCond .ne 90, 3, 0), (81, .aload 0, 1, 0), (82, .aload 0, 1, 0), (83, .getfield 927, 3, 145), (86, .invokevirtual 131, 3, 141), (89, .return_, 1, 0), (90, .aload 0, 1, 0), (91, .getfield 924, 3, 60), (94, .iconst 240, 3, 2), (97, .aload 0, 1, 0), (98, .getfield 916, 3, 41), (101, .iload 1, 1, 0), (102, .iaload, 1, 0), (103, .iadd, 1, 0), (104, .aload 0, 1, 0), (105, .getfield 901, 3, 7), (108, .aload 0, 1, 0), (109, .getfield 927, 3, 145), (112, .iaload, 1, 0), (113, .iastore, 1, 0), (114, .aload 0, 1, 0), (115, .getfield 915, 3, 38), (118, .iconst 4, 1, 0), (119, .iload 1, 1, 0), (120, .imul, 1, 0), (121, .aload 0, 1, 0), (122, .getfield 916, 3, 41), (125, .iload 1, 1, 0), (126, .iaload, 1, 0), (127, .iadd, 1, 0), (128, .aload 0, 1, 0), (129, .getfield 919, 3, 164), (132, .iastore, 1, 0), (133, .aload 0, 1, 0), (134, .getfield 918, 3, 48), (137, .aload 0, 1, 0), (138, .getfield 919, 3, 164), (141, .iconst 0, 1, 0), (142, .bastore, 1, 0), (143, .aload 0, 1, 0), (144, .dup, 1, 0), (145, .getfield 919, 3, 164), (148, .iconst 1, 1, 0), (149, .iadd, 1, 0), (150, .putfield 919, 3, 164), (153, .aload 0, 1, 0), (154, .getfield 916, 3, 41), (157, .iload 1, 1, 0), (158, .dup2, 1, 0), (159, .iaload, 1, 0), (160, .iconst 1, 1, 0), (161, .iadd, 1, 0), (162, .iastore, 1, 0), (163, .aload 0, 1, 0), (164, .getfield 957, 3, 110), (167, .iconst 4, 1, 0), (168, .aload 0, 1, 0), (169, .getfield 923, 3, 167), (172, .imul, 1, 0), (173, .aload 0, 1, 0), (174, .getfield 916, 3, 41), (177, .iload 1, 1, 0), (178, .iaload, 1, 0), (179, .iadd, 1, 0), (180, .iconst 1, 1, 0), (181, .isub, 1, 0), (182, .aload 0, 1, 0), (183, .getfield 901, 3, 7), (186, .aload 0, 1, 0), (187, .getfield 927, 3, 145), (190, .iaload, 1, 0), (191, .iastore, 1, 0), (192, .return_, 1, 0)], [])
/-- 141: ListDeskModel.recall(I)V -/
def am_m141 : amM := ("ListDeskModel", ⟨"ListDeskModel", "recall", "(I)V"⟩, prog_15_method_16_code, 3, none, 1, [(0, .iconst 0, 1, 0), (1, .istore 2, 1, 0), (2, .iload 2, 1, 0), (3, .aload 0, 1, 0), (4, .getfield 916, 3, 41), (7, .iload 1, 1, 0), (8, .iaload, 1, 0), (9, .if_icmp .ge 41, 3, 0), (12, .aload 0, 1, 0), (13, .getfield 924, 3, 60), (16, .iconst 240, 3, 2), (19, .iload 2, 1, 0), (20, .iadd, 1, 0), (21, .aload 0, 1, 0), (22, .getfield 957, 3, 110), (25, .iconst 4, 1, 0), (26, .aload 0, 1, 0), (27, .getfield 923, 3, 167), (30, .imul, 1, 0), (31, .iload 2, 1, 0), (32, .iadd, 1, 0), (33, .iaload, 1, 0), (34, .iastore, 1, 0), (35, .iinc 2 1, 3, 0), (38, .goto 2, 3, 0), (41, .return_, 1, 0)], [])
/-- 142: ListDeskModel.bindAll(I)V -/
def am_m142 : amM := ("ListDeskModel", ⟨"ListDeskModel", "bindAll", "(I)V"⟩, prog_15_method_17_code, 3, none, 1, [(0, .iconst 0, 1, 0), (1, .istore 2, 1, 0), (2, .iload 2, 1, 0), (3, .aload 0, 1, 0), (4, .getfield 916, 3, 41), (7, .iload 1, 1, 0), (8, .iaload, 1, 0), (9, .if_icmp .ge 69, 3, 0), (12, .aload 0, 1, 0), (13, .getfield 924, 3, 60), (16, .aload 0, 1, 0), (17, .getfield 926, 3, 154), (20, .aload 0, 1, 0), (21, .getfield 957, 3, 110), (24, .iconst 4, 1, 0), (25, .aload 0, 1, 0), (26, .getfield 923, 3, 167), (29, .imul, 1, 0), (30, .iload 2, 1, 0), (31, .iadd, 1, 0), (32, .iaload, 1, 0), (33, .iastore, 1, 0), (34, .aload 0, 1, 0), (35, .getfield 925, 3, 63), (38, .aload 0, 1, 0), (39, .getfield 926, 3, 154), (42, .aload 0, 1, 0), (43, .getfield 915, 3, 38), (46, .iconst 4, 1, 0), (47, .iload 1, 1, 0), (48, .imul, 1, 0), (49, .iload 2, 1, 0), (50, .iadd, 1, 0), (51, .iaload, 1, 0), (52, .iastore, 1, 0), (53, .aload 0, 1, 0), (54, .dup, 1, 0), (55, .getfield 926, 3, 154), (58, .iconst 1, 1, 0), (59, .iadd, 1, 0), (60, .putfield 926, 3, 154), (63, .iinc 2 1, 3, 0), (66, .goto 2, 3, 0), (69, .return_, 1, 0)], [])
/-- 143: ListDeskModel.keyword()I -/
def am_m143 : amM := ("ListDeskModel", ⟨"ListDeskModel", "keyword", "()I"⟩, prog_15_method_18_code, 1, (some .int), 0, [(0, .aload 0, 1, 0), (1, .iconst 108, 2, 1), (3, .iconst 97, 2, 1), (5, .iconst 109, 2, 1), (7, .iconst 98, 2, 1), (9, .iconst 100, 2, 1), (11, .iconst 97, 2, 1), (13, .invokevirtual 135, 3, 170), (16, .ifCond .eq 21, 3, 0), (19, .iconst 3, 1, 0), (20, .ireturn, 1, 0), (21, .aload 0, 1, 0), (22, .iconst 105, 2, 1), (24, .iconst 102, 2, 1), (26, .iconst 0, 1, 0), (27, .iconst 0, 1, 0), (28, .iconst 0, 1, 0), (29, .iconst 0, 1, 0), (30, .invokevirtual 135, 3, 170), (33, .ifCond .eq 38, 3, 0), (36, .iconst 4, 1, 0), (37, .ireturn, 1, 0), (38, .aload 0, 1, 0), (39, .iconst 108, 2, 1), (41, .iconst 101, 2, 1), (43, .iconst 116, 2, 1), (45, .iconst 0, 1, 0), (46, .iconst 0, 1, 0), (47, .iconst 0, 1, 0), (48, .invokevirtual 135, 3, 170), (51, .ifCond .eq 56, 3, 0), (54, .iconst 5, 1, 0), (55, .ireturn, 1, 0), (56, .aload 0, 1, 0), (57, .iconst 108, 2, 1), (59, .iconst 101, 2, 1), (61, .iconst 116, 2, 1), (63, .iconst 114, 2, 1), (65, .iconst 101, 2, 1), (67, .iconst 99, 2, 1), (69, .invokevirtual 135, 3, 170), (72, .ifCond .eq 78, 3, 0), (75, .iconst 6, 2, 1), (77, .ireturn, 1, 0), (78, .aload 0, 1, 0), (79, .iconst 115, 2, 1), (81, .iconst 101, 2, 1), (83, .iconst 116, 2, 1), (85, .iconst 33, 2, 1), (87, .iconst 0, 1, 0), (88, .iconst 0, 1, 0), (89, .invokevirtual 135, 3, 170), (92, .ifCond .eq 98, 3, 0), (95, .iconst 7, 2, 1), (97, .ireturn, 1, 0), (98, .aload 0, 1, 0), (99, .iconst 98, 2, 1), (101, .iconst 101, 2, 1), (103, .iconst 103, 2, 1), (105, .iconst 105, 2, 1), (107, .iconst 110, 2, 1), (109, .iconst 0, 1, 0), (110, .invokevirtual 135, 3, 170), (113, .ifCond .eq 121, 3, 0), (116, .iconst 8, 2, 1), (118, .goto 122, 3, 0), (121, .iconst (-1), 1, 0), (122, .ireturn, 1, 0)], [])
/-- 144: ListDeskModel.primitive()I -/
def am_m144 : amM := ("ListDeskModel", ⟨"ListDeskModel", "primitive", "()I"⟩, prog_15_method_19_code, 1, (some .int), 0, [(0, .aload 0, 1, 0), (1, .iconst 43, 2, 1), (3, .iconst 0, 1, 0), (4, .iconst 0, 1, 0), (5, .iconst 0, 1, 0), (6, .iconst 0, 1, 0), (7, .iconst 0, 1, 0), (8, .invokevirtual 135, 3, 170), (11, .ifCond .eq 16, 3, 0), (14, .iconst 0, 1, 0), (15, .ireturn, 1, 0), (16, .aload 0, 1, 0), (17, .iconst 45, 2, 1), (19, .iconst 0, 1, 0), (20, .iconst 0, 1, 0), (21, .iconst 0, 1, 0), (22, .iconst 0, 1, 0), (23, .iconst 0, 1, 0), (24, .invokevirtual 135, 3, 170), (27, .ifCond .eq 32, 3, 0), (30, .iconst 1, 1, 0), (31, .ireturn, 1, 0), (32, .aload 0, 1, 0), (33, .iconst 42, 2, 1), (35, .iconst 0, 1, 0), (36, .iconst 0, 1, 0), (37, .iconst 0, 1, 0), (38, .iconst 0, 1, 0), (39, .iconst 0, 1, 0), (40, .invokevirtual 135, 3, 170), (43, .ifCond .eq 48, 3, 0), (46, .iconst 2, 1, 0), (47, .ireturn, 1, 0), (48, .aload 0, 1, 0), (49, .iconst 60, 2, 1), (51, .iconst 0, 1, 0), (52, .iconst 0, 1, 0), (53, .iconst 0, 1, 0), (54, .iconst 0, 1, 0), (55, .iconst 0, 1, 0), (56, .invokevirtual 135, 3, 170), (59, .ifCond .eq 64, 3, 0), (62, .iconst 3, 1, 0), (63, .ireturn, 1, 0), (64, .aload 0, 1, 0), (65, .iconst 61, 2, 1), (67, .iconst 0, 1, 0), (68, .iconst 0, 1, 0), (69, .iconst 0, 1, 0), (70, .iconst 0, 1, 0), (71, .iconst 0, 1, 0), (72, .invokevirtual 135, 3, 170), (75, .ifCond .eq 80, 3, 0), (78, .iconst 4, 1, 0), (79, .ireturn, 1, 0), (80, .aload 0, 1, 0), (81, .iconst 101, 2, 1), (83, .iconst 113, 2, 1), (85, .iconst 63, 2, 1), (87, .iconst 0, 1, 0), (88, .iconst 0, 1, 0), (89, .iconst 0, 1, 0), (90, .invokevirtual 135, 3, 170), (93, .ifCond .eq 98, 3, 0), (96, .iconst 5, 1, 0), (97, .ireturn, 1, 0), (98, .aload 0, 1, 0), (99, .iconst 99, 2, 1), (101, .iconst 111, 2, 1), (103, .iconst 110, 2, 1), (105, .iconst 115, 2, 1), (107, .iconst 0, 1, 0), (108, .iconst 0, 1, 0), (109, .invokevirtual 135, 3, 170), (112, .ifCond .eq 118, 3, 0), (115, .iconst 6, 2, 1), (117, .ireturn, 1, 0), (118, .aload 0, 1, 0), (119, .iconst 99, 2, 1), (121, .iconst 97, 2, 1), (123, .iconst 114, 2, 1), (125, .iconst 0, 1, 0), (126, .iconst 0, 1, 0), (127, .iconst 0, 1, 0), (128, .invokevirtual 135, 3, 170), (131, .ifCond .eq 137, 3, 0), (134, .iconst 7, 2, 1), (136, .ireturn, 1, 0), (137, .aload 0, 1, 0), (138, .iconst 99, 2, 1), (140, .iconst 100, 2, 1), (142, .iconst 114, 2, 1), (144, .iconst 0, 1, 0), (145, .iconst 0, 1, 0), (146, .iconst 0, 1, 0), (147, .invokevirtual 135, 3, 170), (150, .ifCond .eq 156, 3, 0), (153, .iconst 8, 2, 1), (155, .ireturn, 1, 0), (156, .aload 0, 1, 0), (157, .iconst 112, 2, 1), (159, .iconst 97, 2, 1), (161, .iconst 105, 2, 1), (163, .iconst 114, 2, 1), (165, .iconst 63, 2, 1), (167, .iconst 0, 1, 0), (168, .invokevirtual 135, 3, 170), (171, .ifCond .eq 177, 3, 0), (174, .iconst 9, 2, 1), (176, .ireturn, 1, 0), (177, .aload 0, 1, 0), (178, .iconst 110, 2, 1), (180, .iconst 117, 2, 1), (182, .iconst 108, 2, 1), (184, .iconst 108, 2, 1), (186, .iconst 63, 2, 1), (188, .iconst 0, 1, 0), (189, .invokevirtual 135, 3, 170), (192, .ifCond .eq 198, 3, 0), (195, .iconst 10, 2, 1), (197, .ireturn, 1, 0), (198, .aload 0, 1, 0), (199, .iconst 110, 2, 1), (201, .iconst 111, 2, 1), (203, .iconst 116, 2, 1), (205, .iconst 0, 1, 0), (206, .iconst 0, 1, 0), (207, .iconst 0, 1, 0), (208, .invokevirtual 135, 3, 170), (211, .ifCond .eq 217, 3, 0), (214, .iconst 11, 2, 1), (216, .ireturn, 1, 0), (217, .aload 0, 1, 0), (218, .iconst 111, 2, 1), (220, .iconst 117, 2, 1), (222, .iconst 116, 2, 1), (224, .iconst 0, 1, 0), (225, .iconst 0, 1, 0), (226, .iconst 0, 1, 0), (227, .invokevirtual 135, 3, 170), (230, .ifCond .eq 238, 3, 0), (233, .iconst 12, 2, 1), (235, .goto 239, 3, 0), (238, .iconst (-1), 1, 0), (239, .ireturn, 1, 0)], [])
/-- 145: ListDeskModel.push(I)V -/
def am_m145 : amM := ("ListDeskModel", ⟨"ListDeskModel", "push", "(I)V"⟩, prog_15_method_20_code, 2, none, 1, [(0, .aload 0, 1, 0), (1, .dup, 1, 0), (2, .getfield 923, 3, 167), (5, .iconst 1, 1, 0), (6, .iadd, 1, 0), (7, .putfield 923, 3, 167), (10, .aload 0, 1, 0), (11, .getfield 920, 3, 51), (14, .aload 0, 1, 0), (15, .getfield 923, 3, 167), (18, .iload 1, 1, 0), (19, .iastore, 1, 0), (20, .aload 0, 1, 0), (21, .getfield 921, 3, 54), (24, .aload 0, 1, 0), (25, .getfield 923, 3, 167), (28, .iconst 0, 1, 0), (29, .bastore, 1, 0), (30, .aload 0, 1, 0), (31, .getfield 922, 3, 57), (34, .aload 0, 1, 0), (35, .getfield 923, 3, 167), (38, .aload 0, 1, 0), (39, .getfield 926, 3, 154), (42, .iastore, 1, 0), (43, .return_, 1, 0)], [])
/-- 146: ListDeskModel.list()V -/
def am_m146 : amM := ("ListDeskModel", ⟨"ListDeskModel", "list", "()V"⟩, prog_15_method_21_code, 7, none, 0, [(0, .aload 0, 1, 0), (1, .getfield 904, 3, 131), (4, .istore 1, 1, 0), (5, .aload 0, 1, 0), (6, .getfield 923, 3, 167), (9, .iconst 20, 2, 1), (11, .if_icmp .ne 20, 3, 0), (14, .aload 0, 1, 0), (15, .iload 1, 1, 0), (16, .invokevirtual 131, 3, 141), (19, .return_, 1, 0), (20, .aload 0, 1, 0), (21, .dup, 1, 0), (22, .getfield 904, 3, 131), (25, .iconst 1, 1, 0), (26, .iadd, 1, 0), (27, .putfield 904, 3, 131), (30, .aload 0, 1, 0), (31, .invokevirtual 132, 3, 137), (34, .istore 2, 1, 0), (35, .iload 2, 1, 0), (36, .iconst 40, 2, 1), (38, .if_icmp .ne 54, 3, 0), (41, .aload 0, 1, 0), (42, .aload 0, 1, 0), (43, .iconst 10, 2, 1), (45, .iload 1, 1, 0), (46, .iconst 0, 1, 0), (47, .invokevirtual 137, 3, 174), (50, .invokevirtual 145, 3, 178), (53, .return_, 1, 0), (54, .aload 0, 1, 0), (55, .invokevirtual 134, 3, 157), (58, .aload 0, 1, 0), (59, .invokevirtual 143, 3, 181), (62, .istore 3, 1, 0), (63, .aload 0, 1, 0), (64, .invokevirtual 144, 3, 184), (67, .istore 4, 2, 0), (69, .iload 3, 1, 0), (70, .ifCond .ge 170, 3, 0), (73, .iload 4, 2, 0), (75, .ifCond .ge 170, 3, 0), (78, .aload 0, 1, 0), (79, .invokevirtual 136, 3, 160), (82, .ifCond .eq 105, 3, 0), (85, .aload 0, 1, 0), (86, .aload 0, 1, 0), (87, .getfield 901, 3, 7), (90, .aload 0, 1, 0), (91, .getfield 927, 3, 145), (94, .iaload, 1, 0), (95, .invokevirtual 139, 3, 187), (98, .ifCond .lt 105, 3, 0), (101, .iconst 1, 1, 0), (102, .goto 106, 3, 0), (105, .iconst 0, 1, 0), (106, .istore 5, 2, 0), (108, .iload 5, 2, 0), (110, .ifCond .ne 122, 3, 0), (113, .aload 0, 1, 0), (114, .aload 0, 1, 0), (115, .getfield 927, 3, 145), (118, .invokevirtual 131, 3, 141), (121, .return_, 1, 0), (122, .aload 0, 1, 0), (123, .aload 0, 1, 0), (124, .iconst 10, 2, 1), (126, .iload 1, 1, 0), (127, .iconst 0, 1, 0), (128, .invokevirtual 137, 3, 174), (131, .invokevirtual 145, 3, 178), (134, .aload 0, 1, 0), (135, .aload 0, 1, 0), (136, .getfield 920, 3, 51), (139, .aload 0, 1, 0), (140, .getfield 923, 3, 167), (143, .iaload, 1, 0), (144, .aload 0, 1, 0), (145, .iconst 2, 1, 0), (146, .aload 0, 1, 0), (147, .getfield 927, 3, 145), (150, .aload 0, 1, 0), (151, .aload 0, 1, 0), (152, .getfield 901, 3, 7), (155, .aload 0, 1, 0), (156, .getfield 927, 3, 145), (159, .iaload, 1, 0), (160, .invokevirtual 139, 3, 187), (163, .invokevirtual 137, 3, 174), (166, .invokevirtual 138, 3, 191), (169, .return_, 1, 0), (170, .aload 0, 1, 0), (171, .iload 3, 1, 0), (172, .ifCond .ge 180, 3, 0), (175, .iconst 9, 2, 1), (177, .goto 181, 3, 0), (180, .iload 3, 1, 0), (181, .iload 1, 1, 0), (182, .iload 3, 1, 0), (183, .ifCond .ge 191, 3, 0), (186, .iload 4, 2, 0), (188, .goto 192, 3, 0), (191, .iconst 0, 1, 0), (192, .invokevirtual 137, 3, 174), (195, .istore 5, 2, 0), (197, .aload 0, 1, 0), (198, .iload 5, 2, 0), (200, .invokevirtual 145, 3, 178), (203, .iload 3, 1, 0), (204, .iconst 3, 1, 0), (205, .if_icmp .ne 293, 3, 0), (208, .aload 0, 1, 0), (209, .iconst 40, 2, 1), (211, .invokevirtual 133, 3, 195), (214, .aload 0, 1, 0), (215, .getfield 905, 3, 127), (218, .ifCond .ne 267, 3, 0), (221, .aload 0, 1, 0), (222, .invokevirtual 132, 3, 137), (225, .iconst 41, 2, 1), (227, .if_icmp .eq 267, 3, 0), (230, .aload 0, 1, 0), (231, .invokevirtual 132, 3, 137), (234, .iconst 40, 2, 1), (236, .if_icmp .eq 247, 3, 0), (239, .aload 0, 1, 0), (240, .invokevirtual 132, 3, 137), (243, .iconst (-1), 1, 0), (244, .if_icmp .ne 258, 3, 0), (247, .aload 0, 1, 0), (248, .aload 0, 1, 0), (249, .getfield 904, 3, 131), (252, .invokevirtual 131, 3, 141), (255, .goto 214, 3, 0), (258, .aload 0, 1, 0), (259, .iload 5, 2, 0), (261, .invokevirtual 140, 3, 198), (264, .goto 214, 3, 0), (267, .aload 0, 1, 0), (268, .dup, 1, 0), (269, .getfield 904, 3, 131), (272, .iconst 1, 1, 0), (273, .iadd, 1, 0), (274, .putfield 904, 3, 131), (277, .aload 0, 1, 0), (278, .getfield 905, 3, 127), (281, .ifCond .ne 452, 3, 0), (284, .aload 0, 1, 0), (285, .iload 5, 2, 0), (287, .invokevirtual 142, 3, 201), (290, .goto 452, 3, 0), (293, .iload 3, 1, 0), (294, .iconst 5, 1, 0), (295, .if_icmp .eq 304, 3, 0), (298, .iload 3, 1, 0), (299, .iconst 6, 2, 1), (301, .if_icmp .ne 383, 3, 0), (304, .aload 0, 1, 0), (305, .iconst 40, 2, 1), (307, .invokevirtual 133, 3, 195), (310, .aload 0, 1, 0), (311, .getfield 905, 3, 127), (314, .ifCond .ne 370, 3, 0), (317, .aload 0, 1, 0), (318, .iconst 40, 2, 1), (320, .invokevirtual 133, 3, 195), (323, .aload 0, 1, 0), (324, .getfield 905, 3, 127), (327, .ifCond .ne 336, 3, 0), (330, .aload 0, 1, 0), (331, .iload 5, 2, 0), (333, .invokevirtual 140, 3, 198), (336, .iload 3, 1, 0), (337, .iconst 6, 2, 1), (339, .if_icmp .ne 370, 3, 0), (342, .aload 0, 1, 0), (343, .getfield 905, 3, 127), (346, .ifCond .ne 370, 3, 0), (349, .aload 0, 1, 0), (350, .getfield 918, 3, 48), (353, .aload 0, 1, 0), (354, .getfield 915, 3, 38), (357, .iconst 4, 1, 0), (358, .iload 5, 2, 0), (360, .imul, 1, 0), (361, .iaload, 1, 0), (362, .iconst 1, 1, 0), (363, .bastore, 1, 0), (364, .aload 0, 1, 0), (365, .iload 5, 2, 0), (367, .invokevirtual 142, 3, 201), (370, .aload 0, 1, 0), (371, .getfield 921, 3, 54), (374, .aload 0, 1, 0), (375, .getfield 923, 3, 167), (378, .iconst 1, 1, 0), (379, .bastore, 1, 0), (380, .goto 452, 3, 0), (383, .iload 3, 1, 0), (384, .iconst 7, 2, 1), (386, .if_icmp .ne 452, 3, 0), (389, .aload 0, 1, 0), (390, .invokevirtual 134, 3, 157), (393, .aload 0, 1, 0), (394, .invokevirtual 136, 3, 160), (397, .ifCond .eq 416, 3, 0), (400, .aload 0, 1, 0), (401, .aload 0, 1, 0), (402, .getfield 901, 3, 7), (405, .aload 0, 1, 0), (406, .getfield 927, 3, 145), (409, .iaload, 1, 0), (410, .invokevirtual 139, 3, 187), (413, .goto 417, 3, 0), (416, .iconst (-1), 1, 0), (417, .istore 6, 2, 0), (419, .iload 6, 2, 0), (421, .ifCond .ge 435, 3, 0), (424, .aload 0, 1, 0), (425, .aload 0, 1, 0), (426, .getfield 927, 3, 145), (429, .invokevirtual 131, 3, 141), (432, .goto 443, 3, 0), (435, .aload 0, 1, 0), (436, .getfield 918, 3, 48), (439, .iload 6, 2, 0), (441, .iconst 1, 1, 0), (442, .bastore, 1, 0), (443, .aload 0, 1, 0), (444, .getfield 910, 3, 23), (447, .iload 5, 2, 0), (449, .iload 6, 2, 0), (451, .iastore, 1, 0), (452, .return_, 1, 0)], [])
/-- 147: ListDeskModel.most(II)I -/
def am_m147 : amM := ("ListDeskModel", ⟨"ListDeskModel", "most", "(II)I"⟩, prog_15_method_22_code, 2, (some .int), 2, [(0, .iload 0, 1, 0), (1, .iconst 4, 1, 0), (2, .if_icmp .ne 7, 3, 0), (5, .iconst 3, 1, 0), (6, .ireturn, 1, 0), (7, .iload 0, 1, 0), (8, .iconst 7, 2, 1), (10, .if_icmp .ne 15, 3, 0), (13, .iconst 1, 1, 0), (14, .ireturn, 1, 0), (15, .iload 0, 1, 0), (16, .iconst 9, 2, 1), (18, .if_icmp .ne 33, 3, 0), (21, .iload 1, 1, 0), (22, .iconst 7, 2, 1), (24, .if_icmp .ge 31, 3, 0), (27, .iconst 2, 1, 0), (28, .goto 32, 3, 0), (31, .iconst 1, 1, 0), (32, .ireturn, 1, 0), (33, .iload 0, 1, 0), (34, .iconst 10, 2, 1), (36, .if_icmp .ne 43, 3, 0), (39, .iconst 5, 1, 0), (40, .goto 46, 3, 0), (43, .iconst 1000, 3, 2), (46, .ireturn, 1, 0)], [])
/-- 148: ListDeskModel.least(II)I -/
def am_m148 : amM := ("ListDeskModel", ⟨"ListDeskModel", "least", "(II)I"⟩, prog_15_method_23_code, 2, (some .int), 2, [(0, .iload 0, 1, 0), (1, .iconst 10, 2, 1), (3, .if_icmp .ne 10, 3, 0), (6, .iconst 1, 1, 0), (7, .goto 30, 3, 0), (10, .iload 0, 1, 0), (11, .iload 1, 1, 0), (12, .invokestatic 147, 3, 204), (15, .iconst 1000, 3, 2), (18, .if_icmp .ge 29, 3, 0), (21, .iload 0, 1, 0), (22, .iload 1, 1, 0), (23, .invokestatic 147, 3, 204), (26, .goto 30, 3, 0), (29, .iconst 1, 1, 0), (30, .ireturn, 1, 0)], [])
/-- 149: ListDeskModel.behindVariables(I)I -/
def am_m149 : amM := ("ListDeskModel", ⟨"ListDeskModel", "behindVariables", "(I)I"⟩, prog_15_method_24_code, 2, (some .int), 1, [(0, .aload 0, 1, 0), (1, .getfield 914, 3, 35), (4, .iload 1, 1, 0), (5, .iaload, 1, 0), (6, .aload 0, 1, 0), (7, .getfield 908, 3, 17), (10, .iload 1, 1, 0), (11, .iaload, 1, 0), (12, .iconst 5, 1, 0), (13, .if_icmp .eq 27, 3, 0), (16, .aload 0, 1, 0), (17, .getfield 908, 3, 17), (20, .iload 1, 1, 0), (21, .iaload, 1, 0), (22, .iconst 6, 2, 1), (24, .if_icmp .ne 36, 3, 0), (27, .aload 0, 1, 0), (28, .getfield 916, 3, 41), (31, .iload 1, 1, 0), (32, .iaload, 1, 0), (33, .goto 37, 3, 0), (36, .iconst 0, 1, 0), (37, .isub, 1, 0), (38, .ireturn, 1, 0)], [])
/-- 150: ListDeskModel.complete(I)V -/
def am_m150 : amM := ("ListDeskModel", ⟨"ListDeskModel", "complete", "(I)V"⟩, prog_15_method_25_code, 3, none, 1, [(0, .aload 0, 1, 0), (1, .getfield 920, 3, 51), (4, .aload 0, 1, 0), (5, .getfield 923, 3, 167), (8, .iaload, 1, 0), (9, .istore 2, 1, 0), (10, .aload 0, 1, 0), (11, .iload 2, 1, 0), (12, .iload 1, 1, 0), (13, .invokevirtual 138, 3, 191), (16, .aload 0, 1, 0), (17, .getfield 921, 3, 54), (20, .aload 0, 1, 0), (21, .getfield 923, 3, 167), (24, .baload, 1, 0), (25, .ifCond .ne 29, 3, 0), (28, .return_, 1, 0), (29, .aload 0, 1, 0), (30, .getfield 908, 3, 17), (33, .iload 2, 1, 0), (34, .iaload, 1, 0), (35, .iconst 6, 2, 1), (37, .if_icmp .ne 61, 3, 0), (40, .aload 0, 1, 0), (41, .getfield 908, 3, 17), (44, .iload 1, 1, 0), (45, .iaload, 1, 0), (46, .iconst 3, 1, 0), (47, .if_icmp .eq 61, 3, 0), (50, .aload 0, 1, 0), (51, .aload 0, 1, 0), (52, .getfield 909, 3, 20), (55, .iload 1, 1, 0), (56, .iaload, 1, 0), (57, .invokevirtual 131, 3, 141), (60, .return_, 1, 0), (61, .aload 0, 1, 0), (62, .iconst 41, 2, 1), (64, .invokevirtual 133, 3, 195), (67, .aload 0, 1, 0), (68, .getfield 905, 3, 127), (71, .ifCond .eq 75, 3, 0), (74, .return_, 1, 0), (75, .aload 0, 1, 0), (76, .getfield 908, 3, 17), (79, .iload 2, 1, 0), (80, .iaload, 1, 0), (81, .iconst 5, 1, 0), (82, .if_icmp .ne 134, 3, 0), (85, .aload 0, 1, 0), (86, .invokevirtual 132, 3, 137), (89, .iconst 40, 2, 1), (91, .if_icmp .ne 134, 3, 0), (94, .aload 0, 1, 0), (95, .getfield 916, 3, 41), (98, .iload 2, 1, 0), (99, .iaload, 1, 0), (100, .iconst 4, 1, 0), (101, .if_icmp .ne 113, 3, 0), (104, .aload 0, 1, 0), (105, .aload 0, 1, 0), (106, .getfield 904, 3, 131), (109, .invokevirtual 131, 3, 141), (112, .return_, 1, 0), (113, .aload 0, 1, 0), (114, .dup, 1, 0), (115, .getfield 904, 3, 131), (118, .iconst 1, 1, 0), (119, .iadd, 1, 0), (120, .putfield 904, 3, 131), (123, .aload 0, 1, 0), (124, .iload 2, 1, 0), (125, .invokevirtual 141, 3, 208), (128, .aload 0, 1, 0), (129, .iload 2, 1, 0), (130, .invokevirtual 140, 3, 198), (133, .return_, 1, 0), (134, .aload 0, 1, 0), (135, .iconst 41, 2, 1), (137, .invokevirtual 133, 3, 195), (140, .aload 0, 1, 0), (141, .getfield 921, 3, 54), (144, .aload 0, 1, 0), (145, .getfield 923, 3, 167), (148, .iconst 0, 1, 0), (149, .bastore, 1, 0), (150, .aload 0, 1, 0), (151, .getfield 908, 3, 17), (154, .iload 2, 1, 0), (155, .iaload, 1, 0), (156, .iconst 5, 1, 0), (157, .if_icmp .ne 165, 3, 0), (160, .aload 0, 1, 0), (161, .iload 2, 1, 0), (162, .invokevirtual 142, 3, 201), (165, .return_, 1, 0)], [])
/-- 151: ListDeskModel.expression()V -/
def am_m151 : amM := ("ListDeskModel", ⟨"ListDeskModel", "expression", "()V"⟩, prog_15_method_26_code, 5, none, 0, [(0, .aload 0, 1, 0), (1, .invokevirtual 134, 3, 157), (4, .aload 0, 1, 0), (5, .getfield 927, 3, 145), (8, .istore 1, 1, 0), (9, .iload 1, 1, 0), (10, .aload 0, 1, 0), (11, .getfield 928, 3, 148), (14, .if_icmp .ge 42, 3, 0), (17, .aload 0, 1, 0), (18, .getfield 901, 3, 7), (21, .iload 1, 1, 0), (22, .iaload, 1, 0), (23, .iconst 45, 2, 1), (25, .if_icmp .ne 42, 3, 0), (28, .iload 1, 1, 0), (29, .iconst 1, 1, 0), (30, .iadd, 1, 0), (31, .aload 0, 1, 0), (32, .getfield 928, 3, 148), (35, .if_icmp .ge 42, 3, 0), (38, .iconst 1, 1, 0), (39, .goto 43, 3, 0), (42, .iconst 0, 1, 0), (43, .istore 2, 1, 0), (44, .iload 2, 1, 0), (45, .ifCond .eq 54, 3, 0), (48, .iload 1, 1, 0), (49, .iconst 1, 1, 0), (50, .iadd, 1, 0), (51, .goto 55, 3, 0), (54, .iload 1, 1, 0), (55, .istore 1, 1, 0), (56, .iconst 0, 1, 0), (57, .istore 3, 1, 0), (58, .iconst 0, 1, 0), (59, .istore 4, 2, 0), (61, .iload 1, 1, 0), (62, .aload 0, 1, 0), (63, .getfield 928, 3, 148), (66, .if_icmp .ge 117, 3, 0), (69, .aload 0, 1, 0), (70, .getfield 901, 3, 7), (73, .iload 1, 1, 0), (74, .iaload, 1, 0), (75, .iconst 48, 2, 1), (77, .iconst 57, 2, 1), (79, .invokestatic 129, 3, 116), (82, .ifCond .eq 117, 3, 0), (85, .iload 3, 1, 0), (86, .iconst 9, 2, 1), (88, .if_icmp .ge 117, 3, 0), (91, .iconst 10, 2, 1), (93, .iload 4, 2, 0), (95, .imul, 1, 0), (96, .aload 0, 1, 0), (97, .getfield 901, 3, 7), (100, .iload 1, 1, 0), (101, .iaload, 1, 0), (102, .iadd, 1, 0), (103, .iconst 48, 2, 1), (105, .isub, 1, 0), (106, .istore 4, 2, 0), (108, .iinc 3 1, 3, 0), (111, .iinc 1 1, 3, 0), (114, .goto 61, 3, 0), (117, .iload 3, 1, 0), (118, .ifCond .le 137, 3, 0), (121, .iload 1, 1, 0), (122, .aload 0, 1, 0), (123, .getfield 928, 3, 148), (126, .if_icmp .ge 137, 3, 0), (129, .aload 0, 1, 0), (130, .iload 1, 1, 0), (131, .invokevirtual 131, 3, 141), (134, .goto 270, 3, 0), (137, .iload 3, 1, 0), (138, .ifCond .le 177, 3, 0), (141, .iload 1, 1, 0), (142, .aload 0, 1, 0), (143, .getfield 928, 3, 148), (146, .if_icmp .ne 177, 3, 0), (149, .aload 0, 1, 0), (150, .aload 0, 1, 0), (151, .iconst 0, 1, 0), (152, .aload 0, 1, 0), (153, .getfield 927, 3, 145), (156, .iload 2, 1, 0), (157, .ifCond .eq 166, 3, 0), (160, .iload 4, 2, 0), (162, .ineg, 1, 0), (163, .goto 168, 3, 0), (166, .iload 4, 2, 0), (168, .invokevirtual 137, 3, 174), (171, .invokevirtual 150, 3, 211), (174, .goto 270, 3, 0), (177, .aload 0, 1, 0), (178, .iconst 110, 2, 1), (180, .iconst 105, 2, 1), (182, .iconst 108, 2, 1), (184, .iconst 0, 1, 0), (185, .iconst 0, 1, 0), (186, .iconst 0, 1, 0), (187, .invokevirtual 135, 3, 170), (190, .ifCond .eq 210, 3, 0), (193, .aload 0, 1, 0), (194, .aload 0, 1, 0), (195, .iconst 1, 1, 0), (196, .aload 0, 1, 0), (197, .getfield 927, 3, 145), (200, .iconst 0, 1, 0), (201, .invokevirtual 137, 3, 174), (204, .invokevirtual 150, 3, 211), (207, .goto 270, 3, 0), (210, .aload 0, 1, 0), (211, .invokevirtual 136, 3, 160), (214, .ifCond .eq 262, 3, 0), (217, .aload 0, 1, 0), (218, .aload 0, 1, 0), (219, .getfield 901, 3, 7), (222, .aload 0, 1, 0), (223, .getfield 927, 3, 145), (226, .iaload, 1, 0), (227, .invokevirtual 139, 3, 187), (230, .ifCond .lt 262, 3, 0), (233, .aload 0, 1, 0), (234, .aload 0, 1, 0), (235, .iconst 2, 1, 0), (236, .aload 0, 1, 0), (237, .getfield 927, 3, 145), (240, .aload 0, 1, 0), (241, .aload 0, 1, 0), (242, .getfield 901, 3, 7), (245, .aload 0, 1, 0), (246, .getfield 927, 3, 145), (249, .iaload, 1, 0), (250, .invokevirtual 139, 3, 187), (253, .invokevirtual 137, 3, 174), (256, .invokevirtual 150, 3, 211), (259, .goto 270, 3, 0), (262, .aload 0, 1, 0), (263, .aload 0, 1, 0), (264, .getfield 927, 3, 145), (267, .invokevirtual 131, 3, 141), (270, .return_, 1, 0)], [])
/-- 152: ListDeskModel.readProgram()V -/
def am_m152 : amM := ("ListDeskModel", ⟨"ListDeskModel", "readProgram", "()V"⟩, prog_15_method_27_code, 7, none, 0, [(0, .aload 0, 1, 0), (1, .iconst 0, 1, 0), (2, .putfield 907, 3, 151), (5, .aload 0, 1, 0), (6, .iconst 0, 1, 0), (7, .putfield 919, 3, 164), (10, .aload 0, 1, 0), (11, .iconst 0, 1, 0), (12, .putfield 926, 3, 154), (15, .aload 0, 1, 0), (16, .iconst 0, 1, 0), (17, .putfield 904, 3, 131), (20, .aload 0, 1, 0), (21, .iconst 0, 1, 0), (22, .putfield 923, 3, 167), (25, .aload 0, 1, 0), (26, .iconst 0, 1, 0), (27, .putfield 905, 3, 127), (30, .aload 0, 1, 0), (31, .iconst (-1), 1, 0), (32, .putfield 906, 3, 13), (35, .aload 0, 1, 0), (36, .getfield 920, 3, 51), (39, .iconst 0, 1, 0), (40, .aload 0, 1, 0), (41, .iconst 11, 2, 1), (43, .iconst 0, 1, 0), (44, .iconst 0, 1, 0), (45, .invokevirtual 137, 3, 174), (48, .iastore, 1, 0), (49, .aload 0, 1, 0), (50, .getfield 921, 3, 54), (53, .iconst 0, 1, 0), (54, .iconst 0, 1, 0), (55, .bastore, 1, 0), (56, .iconst 1, 1, 0), (57, .istore 1, 1, 0), (58, .iload 1, 1, 0), (59, .ifCond .eq 325, 3, 0), (62, .aload 0, 1, 0), (63, .getfield 905, 3, 127), (66, .ifCond .ne 325, 3, 0), (69, .aload 0, 1, 0), (70, .getfield 920, 3, 51), (73, .aload 0, 1, 0), (74, .getfield 923, 3, 167), (77, .iaload, 1, 0), (78, .istore 2, 1, 0), (79, .aload 0, 1, 0), (80, .invokevirtual 132, 3, 137), (83, .istore 3, 1, 0), (84, .aload 0, 1, 0), (85, .getfield 921, 3, 54), (88, .aload 0, 1, 0), (89, .getfield 923, 3, 167), (92, .baload, 1, 0), (93, .ifCond .eq 100, 3, 0), (96, .iconst 0, 1, 0), (97, .goto 105, 3, 0), (100, .aload 0, 1, 0), (101, .iload 2, 1, 0), (102, .invokevirtual 149, 3, 214), (105, .istore 4, 2, 0), (107, .aload 0, 1, 0), (108, .getfield 921, 3, 54), (111, .aload 0, 1, 0), (112, .getfield 923, 3, 167), (115, .baload, 1, 0), (116, .ifCond .ne 143, 3, 0), (119, .iload 4, 2, 0), (121, .aload 0, 1, 0), (122, .getfield 908, 3, 17), (125, .iload 2, 1, 0), (126, .iaload, 1, 0), (127, .aload 0, 1, 0), (128, .getfield 910, 3, 23), (131, .iload 2, 1, 0), (132, .iaload, 1, 0), (133, .invokestatic 147, 3, 204), (136, .if_icmp .ne 143, 3, 0), (139, .iconst 1, 1, 0), (140, .goto 144, 3, 0), (143, .iconst 0, 1, 0), (144, .istore 5, 2, 0), (146, .aload 0, 1, 0), (147, .getfield 921, 3, 54), (150, .aload 0, 1, 0), (151, .getfield 923, 3, 167), (154, .baload, 1, 0), (155, .ifCond .ne 182, 3, 0), (158, .iload 4, 2, 0), (160, .aload 0, 1, 0), (161, .getfield 908, 3, 17), (164, .iload 2, 1, 0), (165, .iaload, 1, 0), (166, .aload 0, 1, 0), (167, .getfield 910, 3, 23), (170, .iload 2, 1, 0), (171, .iaload, 1, 0), (172, .invokestatic 148, 3, 217), (175, .if_icmp .lt 182, 3, 0), (178, .iconst 1, 1, 0), (179, .goto 183, 3, 0), (182, .iconst 0, 1, 0), (183, .istore 6, 2, 0), (185, .iload 3, 1, 0), (186, .iconst (-1), 1, 0), (187, .if_icmp .ne 219, 3, 0), (190, .iconst 0, 1, 0), (191, .istore 1, 1, 0), (192, .aload 0, 1, 0), (193, .getfield 923, 3, 167), (196, .ifCond .gt 208, 3, 0), (199, .aload 0, 1, 0), (200, .getfield 914, 3, 35), (203, .iconst 0, 1, 0), (204, .iaload, 1, 0), (205, .ifCond .ne 322, 3, 0), (208, .aload 0, 1, 0), (209, .aload 0, 1, 0), (210, .getfield 903, 3, 134), (213, .invokevirtual 131, 3, 141), (216, .goto 322, 3, 0), (219, .iload 3, 1, 0), (220, .iconst 41, 2, 1), (222, .if_icmp .ne 289, 3, 0), (225, .aload 0, 1, 0), (226, .getfield 923, 3, 167), (229, .ifCond .eq 237, 3, 0), (232, .iload 6, 2, 0), (234, .ifCond .ne 248, 3, 0), (237, .aload 0, 1, 0), (238, .aload 0, 1, 0), (239, .getfield 904, 3, 131), (242, .invokevirtual 131, 3, 141), (245, .goto 322, 3, 0), (248, .aload 0, 1, 0), (249, .dup, 1, 0), (250, .getfield 904, 3, 131), (253, .iconst 1, 1, 0), (254, .iadd, 1, 0), (255, .putfield 904, 3, 131), (258, .aload 0, 1, 0), (259, .aload 0, 1, 0), (260, .getfield 922, 3, 57), (263, .aload 0, 1, 0), (264, .getfield 923, 3, 167), (267, .iaload, 1, 0), (268, .putfield 926, 3, 154), (271, .aload 0, 1, 0), (272, .dup, 1, 0), (273, .getfield 923, 3, 167), (276, .iconst 1, 1, 0), (277, .isub, 1, 0), (278, .putfield 923, 3, 167), (281, .aload 0, 1, 0), (282, .iload 2, 1, 0), (283, .invokevirtual 150, 3, 211), (286, .goto 322, 3, 0), (289, .iload 5, 2, 0), (291, .ifCond .eq 305, 3, 0), (294, .aload 0, 1, 0), (295, .aload 0, 1, 0), (296, .getfield 904, 3, 131), (299, .invokevirtual 131, 3, 141), (302, .goto 322, 3, 0), (305, .iload 3, 1, 0), (306, .iconst 40, 2, 1), (308, .if_icmp .ne 318, 3, 0), (311, .aload 0, 1, 0), (312, .invokevirtual 146, 3, 220), (315, .goto 322, 3, 0), (318, .aload 0, 1, 0), (319, .invokevirtual 151, 3, 223), (322, .goto 58, 3, 0), (325, .return_, 1, 0)], [])
/-- 153: ListDeskModel.markEnds()V -/
def am_m153 : amM := ("ListDeskModel", ⟨"ListDeskModel", "markEnds", "()V"⟩, prog_15_method_28_code, 4, none, 0, [(0, .iconst 0, 1, 0), (1, .istore 1, 1, 0), (2, .iload 1, 1, 0), (3, .aload 0, 1, 0), (4, .getfield 907, 3, 151), (7, .if_icmp .ge 119, 3, 0), (10, .aload 0, 1, 0), (11, .getfield 908, 3, 17), (14, .iload 1, 1, 0), (15, .iaload, 1, 0), (16, .istore 2, 1, 0), (17, .aload 0, 1, 0), (18, .getfield 917, 3, 44), (21, .iload 1, 1, 0), (22, .baload, 1, 0), (23, .ifCond .eq 47, 3, 0), (26, .iload 2, 1, 0), (27, .iconst 5, 1, 0), (28, .if_icmp .eq 43, 3, 0), (31, .iload 2, 1, 0), (32, .iconst 6, 2, 1), (34, .if_icmp .eq 43, 3, 0), (37, .iload 2, 1, 0), (38, .iconst 8, 2, 1), (40, .if_icmp .ne 47, 3, 0), (43, .iconst 1, 1, 0), (44, .goto 48, 3, 0), (47, .iconst 0, 1, 0), (48, .istore 3, 1, 0), (49, .iload 2, 1, 0), (50, .iconst 3, 1, 0), (51, .if_icmp .eq 58, 3, 0), (54, .iload 3, 1, 0), (55, .ifCond .eq 70, 3, 0), (58, .aload 0, 1, 0), (59, .getfield 917, 3, 44), (62, .aload 0, 1, 0), (63, .getfield 912, 3, 29), (66, .iload 1, 1, 0), (67, .iaload, 1, 0), (68, .iconst 1, 1, 0), (69, .bastore, 1, 0), (70, .aload 0, 1, 0), (71, .getfield 917, 3, 44), (74, .iload 1, 1, 0), (75, .baload, 1, 0), (76, .ifCond .eq 113, 3, 0), (79, .iload 2, 1, 0), (80, .iconst 4, 1, 0), (81, .if_icmp .ne 113, 3, 0), (84, .aload 0, 1, 0), (85, .getfield 917, 3, 44), (88, .aload 0, 1, 0), (89, .getfield 913, 3, 32), (92, .aload 0, 1, 0), (93, .getfield 911, 3, 26), (96, .iload 1, 1, 0), (97, .iaload, 1, 0), (98, .iaload, 1, 0), (99, .iconst 1, 1, 0), (100, .bastore, 1, 0), (101, .aload 0, 1, 0), (102, .getfield 917, 3, 44), (105, .aload 0, 1, 0), (106, .getfield 912, 3, 29), (109, .iload 1, 1, 0), (110, .iaload, 1, 0), (111, .iconst 1, 1, 0), (112, .bastore, 1, 0), (113, .iinc 1 1, 3, 0), (116, .goto 2, 3, 0), (119, .return_, 1, 0)], [])
/-- 154: ListDeskModel.load()V -/
def am_m154 : amM := ("ListDeskModel", ⟨"ListDeskModel", "load", "()V"⟩, prog_15_method_29_code, 2, none, 0, [(0, .aload 0, 1, 0), (1, .aload 0, 1, 0), (2, .getfield 902, 3, 120), (5, .putfield 903, 3, 134), (8, .aload 0, 1, 0), (9, .iconst 0, 1, 0), (10, .putfield 902, 3, 120), (13, .aload 0, 1, 0), (14, .iconst 0, 1, 0), (15, .putfield 929, 3, 226), (18, .aload 0, 1, 0), (19, .iconst 0, 1, 0), (20, .putfield 930, 3, 229), (23, .aload 0, 1, 0), (24, .iconst 0, 1, 0), (25, .putfield 931, 3, 232), (28, .aload 0, 1, 0), (29, .iconst 0, 1, 0), (30, .putfield 932, 3, 235), (33, .aload 0, 1, 0), (34, .iconst 0, 1, 0), (35, .putfield 955, 3, 238), (38, .aload 0, 1, 0), (39, .invokevirtual 152, 3, 241), (42, .aload 0, 1, 0), (43, .aload 0, 1, 0), (44, .getfield 905, 3, 127), (47, .iconst 0, 1, 0), (48, .invokevirtual 128, 3, 123), (51, .ifCond .eq 55, 3, 0), (54, .return_, 1, 0), (55, .aload 0, 1, 0), (56, .invokevirtual 153, 3, 244), (59, .aload 0, 1, 0), (60, .iconst 2, 1, 0), (61, .putfield 929, 3, 226), (64, .aload 0, 1, 0), (65, .iconst 0, 1, 0), (66, .putfield 936, 3, 247), (69, .aload 0, 1, 0), (70, .iconst 0, 1, 0), (71, .putfield 939, 3, 250), (74, .aload 0, 1, 0), (75, .iconst 0, 1, 0), (76, .putfield 949, 3, 253), (79, .aload 0, 1, 0), (80, .iconst 0, 1, 0), (81, .putfield 951, 3, 256), (84, .aload 0, 1, 0), (85, .iconst (-1), 1, 0), (86, .putfield 952, 3, 259), (89, .iconst 0, 1, 0), (90, .istore 1, 1, 0), (91, .iload 1, 1, 0), (92, .iconst 120000, 2, 89), (94, .if_icmp .ge 124, 3, 0), (97, .aload 0, 1, 0), (98, .getfield 942, 3, 86), (101, .iload 1, 1, 0), (102, .iload 1, 1, 0), (103, .iconst 1, 1, 0), (104, .iadd, 1, 0), (105, .iconst 120000, 2, 89), (107, .if_icmp .ge 116, 3, 0), (110, .iload 1, 1, 0), (111, .iconst 1, 1, 0), (112, .iadd, 1, 0), (113, .goto 117, 3, 0), (116, .iconst (-1), 1, 0), (117, .iastore, 1, 0), (118, .iinc 1 1, 3, 0), (121, .goto 91, 3, 0), (124, .aload 0, 1, 0), (125, .iconst 0, 1, 0), (126, .putfield 944, 3, 262), (129, .aload 0, 1, 0), (130, .iconst (-1), 1, 0), (131, .putfield 953, 3, 265), (134, .aload 0, 1, 0), (135, .aload 0, 1, 0), (136, .getfield 911, 3, 26), (139, .iconst 0, 1, 0), (140, .iaload, 1, 0), (141, .invokevirtual 166, 3, 268), (144, .return_, 1, 0)], [])
/-- 155: ListDeskModel.ofInt(I)J -/
def am_m155 : amM := ("ListDeskModel", ⟨"ListDeskModel", "ofInt", "(I)J"⟩, prog_15_method_30_code, 1, (some .long), 1, [(0, .iload 0, 1, 0), (1, .i2l, 1, 0), (2, .jsr_w 4294967295, 3, 271), (5, .land, 1, 0), (6, .lreturn, 1, 0)], [])
/-- 156: ListDeskModel.made(II)J -/
def am_m156 : amM := ("ListDeskModel", ⟨"ListDeskModel", "made", "(II)J"⟩, prog_15_method_31_code, 2, (some .long), 2, [(0, .iload 0, 1, 0), (1, .i2l, 1, 0), (2, .iconst 32, 2, 1), (4, .lshl, 1, 0), (5, .iload 1, 1, 0), (6, .i2l, 1, 0), (7, .lor, 1, 0), (8, .lreturn, 1, 0)], [])
/-- 157: ListDeskModel.kindOf(J)I -/
def am_m157 : amM := ("ListDeskModel", ⟨"ListDeskModel", "kindOf", "(J)I"⟩, prog_15_method_32_code, 2, (some .int), 1, [(0, .lload 0, 1, 0), (1, .iconst 32, 2, 1), (3, .lshr, 1, 0), (4, .l2i, 1, 0), (5, .ireturn, 1, 0)], [])
/-- 158: ListDeskModel.objects(II)Z -/
def am_m158 : amM := ("ListDeskModel", ⟨"ListDeskModel", "objects", "(II)Z"⟩, prog_15_method_33_code, 3, (some .boolean), 2, [(0, .aload 0, 1, 0), (1, .getfield 931, 3, 232), (4, .iload 1, 1, 0), (5, .iadd, 1, 0), (6, .iconst 2000, 3, 2), (9, .if_icmp .le 27, 3, 0), (12, .aload 0, 1, 0), (13, .iconst 2000, 3, 2), (16, .putfield 931, 3, 232), (19, .aload 0, 1, 0), (20, .iconst 5, 1, 0), (21, .iload 2, 1, 0), (22, .invokevirtual 159, 3, 273), (25, .iconst 0, 1, 0), (26, .ireturn, 1, 0), (27, .aload 0, 1, 0), (28, .dup, 1, 0), (29, .getfield 931, 3, 232), (32, .iload 1, 1, 0), (33, .iadd, 1, 0), (34, .putfield 931, 3, 232), (37, .iconst 1, 1, 0), (38, .ireturn, 1, 0)], [])
/-- 159: ListDeskModel.stop(II)V -/
def am_m159 : amM := ("ListDeskModel", ⟨"ListDeskModel", "stop", "(II)V"⟩, prog_15_method_34_code, 3, none, 2, [(0, .aload 0, 1, 0), (1, .iload 1, 1, 0), (2, .putfield 929, 3, 226), (5, .aload 0, 1, 0), (6, .aload 0, 1, 0), (7, .getfield 909, 3, 20), (10, .iload 2, 1, 0), (11, .iaload, 1, 0), (12, .putfield 906, 3, 13), (15, .return_, 1, 0)], [])
/-- 160: ListDeskModel.see(I)V -/
def am_m160 : amM := ("ListDeskModel", ⟨"ListDeskModel", "see", "(I)V"⟩, prog_15_method_35_code, 3, none, 1, [(0, .iload 1, 1, 0), (1, .istore 2, 1, 0), (2, .iload 2, 1, 0), (3, .ifCond .lt 32, 3, 0), (6, .aload 0, 1, 0), (7, .getfield 943, 3, 89), (10, .iload 2, 1, 0), (11, .baload, 1, 0), (12, .ifCond .ne 32, 3, 0), (15, .aload 0, 1, 0), (16, .getfield 943, 3, 89), (19, .iload 2, 1, 0), (20, .iconst 1, 1, 0), (21, .bastore, 1, 0), (22, .aload 0, 1, 0), (23, .getfield 942, 3, 86), (26, .iload 2, 1, 0), (27, .iaload, 1, 0), (28, .istore 2, 1, 0), (29, .goto 2, 3, 0), (32, .return_, 1, 0)], [])
/-- 161: ListDeskModel.gather(I)V -/
def am_m161 : amM := ("ListDeskModel", ⟨"ListDeskModel", "gather", "(I)V"⟩, prog_15_method_36_code, 3, none, 1, [(0, .iconst 0, 1, 0), (1, .istore 2, 1, 0), (2, .iload 2, 1, 0), (3, .iconst 120000, 2, 89), (5, .if_icmp .ge 21, 3, 0), (8, .aload 0, 1, 0), (9, .getfield 943, 3, 89), (12, .iload 2, 1, 0), (13, .iconst 0, 1, 0), (14, .bastore, 1, 0), (15, .iinc 2 1, 3, 0), (18, .goto 2, 3, 0), (21, .aload 0, 1, 0), (22, .aload 0, 1, 0), (23, .getfield 952, 3, 259), (26, .invokevirtual 160, 3, 276), (29, .aload 0, 1, 0), (30, .iload 1, 1, 0), (31, .invokevirtual 160, 3, 276), (34, .iconst 0, 1, 0), (35, .istore 2, 1, 0), (36, .iload 2, 1, 0), (37, .aload 0, 1, 0), (38, .getfield 949, 3, 253), (41, .if_icmp .ge 60, 3, 0), (44, .aload 0, 1, 0), (45, .aload 0, 1, 0), (46, .getfield 947, 3, 98), (49, .iload 2, 1, 0), (50, .iaload, 1, 0), (51, .invokevirtual 160, 3, 276), (54, .iinc 2 1, 3, 0), (57, .goto 36, 3, 0), (60, .iconst 0, 1, 0), (61, .istore 2, 1, 0), (62, .iload 2, 1, 0), (63, .aload 0, 1, 0), (64, .getfield 939, 3, 250), (67, .if_icmp .ge 86, 3, 0), (70, .aload 0, 1, 0), (71, .aload 0, 1, 0), (72, .getfield 938, 3, 76), (75, .iload 2, 1, 0), (76, .iaload, 1, 0), (77, .invokevirtual 160, 3, 276), (80, .iinc 2 1, 3, 0), (83, .goto 62, 3, 0), (86, .aload 0, 1, 0), (87, .iconst (-1), 1, 0), (88, .putfield 944, 3, 262), (91, .iconst 119999, 3, 288), (94, .istore 2, 1, 0), (95, .iload 2, 1, 0), (96, .ifCond .lt 129, 3, 0), (99, .aload 0, 1, 0), (100, .getfield 943, 3, 89), (103, .iload 2, 1, 0), (104, .baload, 1, 0), (105, .ifCond .ne 123, 3, 0), (108, .aload 0, 1, 0), (109, .getfield 942, 3, 86), (112, .iload 2, 1, 0), (113, .aload 0, 1, 0), (114, .getfield 944, 3, 262), (117, .iastore, 1, 0), (118, .aload 0, 1, 0), (119, .iload 2, 1, 0), (120, .putfield 944, 3, 262), (123, .iinc 2 (-1), 3, 0), (126, .goto 95, 3, 0), (129, .return_, 1, 0)], [])
/-- 162: ListDeskModel.bind(IJI)I -/
def am_m162 : amM := ("ListDeskModel", ⟨"ListDeskModel", "bind", "(IJI)I"⟩, prog_15_method_37_code, 6, (some .int), 3, [(0, .aload 0, 1, 0), (1, .getfield 944, 3, 262), (4, .ifCond .ge 13, 3, 0), (7, .aload 0, 1, 0), (8, .iload 4, 2, 0), (10, .invokevirtual 161, 3, 279), (13, .aload 0, 1, 0), (14, .getfield 944, 3, 262), (17, .istore 5, 2, 0), (19, .aload 0, 1, 0), (20, .aload 0, 1, 0), (21, .getfield 942, 3, 86), (24, .iload 5, 2, 0), (26, .iaload, 1, 0), (27, .putfield 944, 3, 262), (30, .aload 0, 1, 0), (31, .getfield 940, 3, 80), (34, .iload 5, 2, 0), (36, .iload 1, 1, 0), (37, .iastore, 1, 0), (38, .aload 0, 1, 0), (39, .getfield 941, 3, 83), (42, .iload 5, 2, 0), (44, .lload 2, 1, 0), (45, .lastore, 1, 0), (46, .aload 0, 1, 0), (47, .getfield 942, 3, 86), (50, .iload 5, 2, 0), (52, .iload 4, 2, 0), (54, .iastore, 1, 0), (55, .iload 5, 2, 0), (57, .ireturn, 1, 0)], [])
/-- 163: ListDeskModel.find(I)I -/
def am_m163 : amM := ("ListDeskModel", ⟨"ListDeskModel", "find", "(I)I"⟩, prog_15_method_38_code, 3, (some .int), 1, [(0, .aload 0, 1, 0), (1, .getfield 952, 3, 259), (4, .istore 2, 1, 0), (5, .aload 0, 1, 0), (6, .getfield 940, 3, 80), (9, .iload 2, 1, 0), (10, .iaload, 1, 0), (11, .iload 1, 1, 0), (12, .if_icmp .eq 25, 3, 0), (15, .aload 0, 1, 0), (16, .getfield 942, 3, 86), (19, .iload 2, 1, 0), (20, .iaload, 1, 0), (21, .istore 2, 1, 0), (22, .goto 5, 3, 0), (25, .iload 2, 1, 0), (26, .ireturn, 1, 0)], [])
/-- 164: ListDeskModel.countsOf(I)I -/
def am_m164 : amM := ("ListDeskModel", ⟨"ListDeskModel", "countsOf", "(I)I"⟩, prog_15_method_39_code, 4, (some .int), 1, [(0, .iconst 0, 1, 0), (1, .istore 2, 1, 0), (2, .iconst 0, 1, 0), (3, .istore 3, 1, 0), (4, .iload 3, 1, 0), (5, .aload 0, 1, 0), (6, .getfield 916, 3, 41), (9, .iload 1, 1, 0), (10, .iaload, 1, 0), (11, .if_icmp .ge 46, 3, 0), (14, .iload 2, 1, 0), (15, .aload 0, 1, 0), (16, .getfield 918, 3, 48), (19, .aload 0, 1, 0), (20, .getfield 915, 3, 38), (23, .iconst 4, 1, 0), (24, .iload 1, 1, 0), (25, .imul, 1, 0), (26, .iload 3, 1, 0), (27, .iadd, 1, 0), (28, .iaload, 1, 0), (29, .baload, 1, 0), (30, .ifCond .eq 37, 3, 0), (33, .iconst 1, 1, 0), (34, .goto 38, 3, 0), (37, .iconst 0, 1, 0), (38, .iadd, 1, 0), (39, .istore 2, 1, 0), (40, .iinc 3 1, 3, 0), (43, .goto 4, 3, 0), (46, .iload 2, 1, 0), (47, .ireturn, 1, 0)], [])
/-- 165: ListDeskModel.waitFor(II)V -/
def am_m165 : amM := ("ListDeskModel", ⟨"ListDeskModel", "waitFor", "(II)V"⟩, prog_15_method_40_code, 3, none, 2, [(0, .aload 0, 1, 0), (1, .getfield 945, 3, 92), (4, .aload 0, 1, 0), (5, .getfield 949, 3, 253), (8, .iload 1, 1, 0), (9, .iastore, 1, 0), (10, .aload 0, 1, 0), (11, .getfield 946, 3, 95), (14, .aload 0, 1, 0), (15, .getfield 949, 3, 253), (18, .iload 2, 1, 0), (19, .iastore, 1, 0), (20, .aload 0, 1, 0), (21, .getfield 947, 3, 98), (24, .aload 0, 1, 0), (25, .getfield 949, 3, 253), (28, .aload 0, 1, 0), (29, .getfield 952, 3, 259), (32, .iastore, 1, 0), (33, .aload 0, 1, 0), (34, .getfield 948, 3, 101), (37, .aload 0, 1, 0), (38, .getfield 949, 3, 253), (41, .iconst 0, 1, 0), (42, .iastore, 1, 0), (43, .aload 0, 1, 0), (44, .dup, 1, 0), (45, .getfield 949, 3, 253), (48, .iconst 1, 1, 0), (49, .iadd, 1, 0), (50, .putfield 949, 3, 253), (53, .return_, 1, 0)], [])
/-- 166: ListDeskModel.sequence(I)V -/
def am_m166 : amM := ("ListDeskModel", ⟨"ListDeskModel", "sequence", "(I)V"⟩, prog_15_method_41_code, 2, none, 1, [(0, .aload 0, 1, 0), (1, .getfield 913, 3, 32), (4, .iload 1, 1, 0), (5, .iaload, 1, 0), (6, .ifCond .lt 20, 3, 0), (9, .aload 0, 1, 0), (10, .iconst 0, 1, 0), (11, .aload 0, 1, 0), (12, .getfield 913, 3, 32), (15, .iload 1, 1, 0), (16, .iaload, 1, 0), (17, .invokevirtual 165, 3, 282), (20, .aload 0, 1, 0), (21, .iload 1, 1, 0), (22, .putfield 953, 3, 265), (25, .return_, 1, 0)], [])
/-- 167: ListDeskModel.bodyOf(I)I -/
def am_m167 : amM := ("ListDeskModel", ⟨"ListDeskModel", "bodyOf", "(I)I"⟩, prog_15_method_42_code, 5, (some .int), 1, [(0, .aload 0, 1, 0), (1, .getfield 911, 3, 26), (4, .iload 1, 1, 0), (5, .iaload, 1, 0), (6, .istore 2, 1, 0), (7, .aload 0, 1, 0), (8, .getfield 908, 3, 17), (11, .iload 1, 1, 0), (12, .iaload, 1, 0), (13, .iconst 5, 1, 0), (14, .if_icmp .eq 28, 3, 0), (17, .aload 0, 1, 0), (18, .getfield 908, 3, 17), (21, .iload 1, 1, 0), (22, .iaload, 1, 0), (23, .iconst 6, 2, 1), (25, .if_icmp .ne 37, 3, 0), (28, .aload 0, 1, 0), (29, .getfield 916, 3, 41), (32, .iload 1, 1, 0), (33, .iaload, 1, 0), (34, .goto 38, 3, 0), (37, .iconst 0, 1, 0), (38, .istore 3, 1, 0), (39, .iconst 0, 1, 0), (40, .istore 4, 2, 0), (42, .iload 4, 2, 0), (44, .iload 3, 1, 0), (45, .if_icmp .ge 61, 3, 0), (48, .aload 0, 1, 0), (49, .getfield 913, 3, 32), (52, .iload 2, 1, 0), (53, .iaload, 1, 0), (54, .istore 2, 1, 0), (55, .iinc 4 1, 3, 0), (58, .goto 42, 3, 0), (61, .iload 2, 1, 0), (62, .ireturn, 1, 0)], [])
/-- 168: ListDeskModel.begin()V -/
def am_m168 : amM := ("ListDeskModel", ⟨"ListDeskModel", "begin", "()V"⟩, prog_15_method_43_code, 2, none, 0, [(0, .aload 0, 1, 0), (1, .getfield 953, 3, 265), (4, .istore 1, 1, 0), (5, .aload 0, 1, 0), (6, .iconst (-1), 1, 0), (7, .putfield 953, 3, 265), (10, .aload 0, 1, 0), (11, .getfield 908, 3, 17), (14, .iload 1, 1, 0), (15, .iaload, 1, 0), (16, .tableswitch 300 0 8 #[68, 84, 96, 118, 176, 195, 214, 268, 287], 52, 0), (68, .aload 0, 1, 0), (69, .aload 0, 1, 0), (70, .getfield 910, 3, 23), (73, .iload 1, 1, 0), (74, .iaload, 1, 0), (75, .invokestatic 155, 3, 285), (78, .putfield 954, 3, 289), (81, .goto 316, 3, 0), (84, .aload 0, 1, 0), (85, .iconst 1, 1, 0), (86, .iconst 0, 1, 0), (87, .invokestatic 156, 3, 293), (90, .putfield 954, 3, 289), (93, .goto 316, 3, 0), (96, .aload 0, 1, 0), (97, .aload 0, 1, 0), (98, .getfield 941, 3, 83), (101, .aload 0, 1, 0), (102, .aload 0, 1, 0), (103, .getfield 910, 3, 23), (106, .iload 1, 1, 0), (107, .iaload, 1, 0), (108, .invokevirtual 163, 3, 297), (111, .laload, 1, 0), (112, .putfield 954, 3, 289), (115, .goto 316, 3, 0), (118, .aload 0, 1, 0), (119, .iconst 1, 1, 0), (120, .iload 1, 1, 0), (121, .invokevirtual 158, 3, 300), (124, .ifCond .ne 128, 3, 0), (127, .return_, 1, 0), (128, .aload 0, 1, 0), (129, .getfield 937, 3, 73), (132, .aload 0, 1, 0), (133, .getfield 939, 3, 250), (136, .iload 1, 1, 0), (137, .iastore, 1, 0), (138, .aload 0, 1, 0), (139, .getfield 938, 3, 76), (142, .aload 0, 1, 0), (143, .getfield 939, 3, 250), (146, .aload 0, 1, 0), (147, .getfield 952, 3, 259), (150, .iastore, 1, 0), (151, .aload 0, 1, 0), (152, .iconst 3, 1, 0), (153, .aload 0, 1, 0), (154, .getfield 939, 3, 250), (157, .invokestatic 156, 3, 293), (160, .putfield 954, 3, 289), (163, .aload 0, 1, 0), (164, .dup, 1, 0), (165, .getfield 939, 3, 250), (168, .iconst 1, 1, 0), (169, .iadd, 1, 0), (170, .putfield 939, 3, 250), (173, .goto 316, 3, 0), (176, .aload 0, 1, 0), (177, .iconst 1, 1, 0), (178, .iload 1, 1, 0), (179, .invokevirtual 165, 3, 282), (182, .aload 0, 1, 0), (183, .aload 0, 1, 0), (184, .getfield 911, 3, 26), (187, .iload 1, 1, 0), (188, .iaload, 1, 0), (189, .putfield 953, 3, 265), (192, .goto 316, 3, 0), (195, .aload 0, 1, 0), (196, .iconst 2, 1, 0), (197, .iload 1, 1, 0), (198, .invokevirtual 165, 3, 282), (201, .aload 0, 1, 0), (202, .aload 0, 1, 0), (203, .getfield 911, 3, 26), (206, .iload 1, 1, 0), (207, .iaload, 1, 0), (208, .putfield 953, 3, 265), (211, .goto 316, 3, 0), (214, .aload 0, 1, 0), (215, .iconst 1, 1, 0), (216, .iload 1, 1, 0), (217, .invokevirtual 158, 3, 300), (220, .ifCond .ne 224, 3, 0), (223, .return_, 1, 0), (224, .aload 0, 1, 0), (225, .aload 0, 1, 0), (226, .aload 0, 1, 0), (227, .getfield 915, 3, 38), (230, .iconst 4, 1, 0), (231, .iload 1, 1, 0), (232, .imul, 1, 0), (233, .iaload, 1, 0), (234, .iconst 1, 1, 0), (235, .iconst 0, 1, 0), (236, .invokestatic 156, 3, 293), (239, .aload 0, 1, 0), (240, .getfield 952, 3, 259), (243, .invokevirtual 162, 3, 303), (246, .putfield 952, 3, 259), (249, .aload 0, 1, 0), (250, .iconst 3, 1, 0), (251, .iload 1, 1, 0), (252, .invokevirtual 165, 3, 282), (255, .aload 0, 1, 0), (256, .aload 0, 1, 0), (257, .getfield 911, 3, 26), (260, .iload 1, 1, 0), (261, .iaload, 1, 0), (262, .putfield 953, 3, 265), (265, .goto 316, 3, 0), (268, .aload 0, 1, 0), (269, .iconst 4, 1, 0), (270, .iload 1, 1, 0), (271, .invokevirtual 165, 3, 282), (274, .aload 0, 1, 0), (275, .aload 0, 1, 0), (276, .getfield 911, 3, 26), (279, .iload 1, 1, 0), (280, .iaload, 1, 0), (281, .putfield 953, 3, 265), (284, .goto 316, 3, 0), (287, .aload 0, 1, 0), (288, .aload 0, 1, 0), (289, .getfield 911, 3, 26), (292, .iload 1, 1, 0), (293, .iaload, 1, 0), (294, .invokevirtual 166, 3, 268), (297, .goto 316, 3, 0), (300, .aload 0, 1, 0), (301, .iconst 5, 1, 0), (302, .iload 1, 1, 0), (303, .invokevirtual 165, 3, 282), (306, .aload 0, 1, 0), (307, .aload 0, 1, 0), (308, .getfield 911, 3, 26), (311, .iload 1, 1, 0), (312, .iaload, 1, 0), (313, .putfield 953, 3, 265), (316, .return_, 1, 0)], [])
/-- 169: ListDeskModel.bindLet(I)V -/
def am_m169 : amM := ("ListDeskModel", ⟨"ListDeskModel", "bindLet", "(I)V"⟩, prog_15_method_44_code, 4, none, 1, [(0, .aload 0, 1, 0), (1, .getfield 916, 3, 41), (4, .iload 1, 1, 0), (5, .iaload, 1, 0), (6, .istore 2, 1, 0), (7, .aload 0, 1, 0), (8, .aload 0, 1, 0), (9, .iload 1, 1, 0), (10, .invokevirtual 164, 3, 307), (13, .iload 1, 1, 0), (14, .invokevirtual 158, 3, 300), (17, .ifCond .ne 21, 3, 0), (20, .return_, 1, 0), (21, .aload 0, 1, 0), (22, .dup, 1, 0), (23, .getfield 951, 3, 256), (26, .iload 2, 1, 0), (27, .isub, 1, 0), (28, .putfield 951, 3, 256), (31, .iconst 0, 1, 0), (32, .istore 3, 1, 0), (33, .iload 3, 1, 0), (34, .iload 2, 1, 0), (35, .if_icmp .ge 77, 3, 0), (38, .aload 0, 1, 0), (39, .aload 0, 1, 0), (40, .aload 0, 1, 0), (41, .getfield 915, 3, 38), (44, .iconst 4, 1, 0), (45, .iload 1, 1, 0), (46, .imul, 1, 0), (47, .iload 3, 1, 0), (48, .iadd, 1, 0), (49, .iaload, 1, 0), (50, .aload 0, 1, 0), (51, .getfield 950, 3, 104), (54, .aload 0, 1, 0), (55, .getfield 951, 3, 256), (58, .iload 3, 1, 0), (59, .iadd, 1, 0), (60, .laload, 1, 0), (61, .aload 0, 1, 0), (62, .getfield 952, 3, 259), (65, .invokevirtual 162, 3, 303), (68, .putfield 952, 3, 259), (71, .iinc 3 1, 3, 0), (74, .goto 33, 3, 0), (77, .aload 0, 1, 0), (78, .aload 0, 1, 0), (79, .iload 1, 1, 0), (80, .invokevirtual 167, 3, 310), (83, .invokevirtual 166, 3, 268), (86, .return_, 1, 0)], [])
/-- 170: ListDeskModel.call(I)V -/
def am_m170 : amM := ("ListDeskModel", ⟨"ListDeskModel", "call", "(I)V"⟩, prog_15_method_45_code, 7, none, 1, [(0, .aload 0, 1, 0), (1, .getfield 914, 3, 35), (4, .iload 1, 1, 0), (5, .iaload, 1, 0), (6, .iconst 1, 1, 0), (7, .isub, 1, 0), (8, .istore 2, 1, 0), (9, .aload 0, 1, 0), (10, .dup, 1, 0), (11, .getfield 951, 3, 256), (14, .iload 2, 1, 0), (15, .iconst 1, 1, 0), (16, .iadd, 1, 0), (17, .isub, 1, 0), (18, .putfield 951, 3, 256), (21, .aload 0, 1, 0), (22, .getfield 950, 3, 104), (25, .aload 0, 1, 0), (26, .getfield 951, 3, 256), (29, .laload, 1, 0), (30, .lstore 3, 1, 0), (31, .lload 3, 1, 0), (32, .invokestatic 157, 3, 313), (35, .iconst 3, 1, 0), (36, .if_icmp .ne 49, 3, 0), (39, .aload 0, 1, 0), (40, .getfield 937, 3, 73), (43, .lload 3, 1, 0), (44, .l2i, 1, 0), (45, .iaload, 1, 0), (46, .goto 50, 3, 0), (49, .iconst (-1), 1, 0), (50, .istore 5, 2, 0), (52, .iload 5, 2, 0), (54, .ifCond .lt 68, 3, 0), (57, .aload 0, 1, 0), (58, .getfield 916, 3, 41), (61, .iload 5, 2, 0), (63, .iaload, 1, 0), (64, .iload 2, 1, 0), (65, .if_icmp .eq 75, 3, 0), (68, .aload 0, 1, 0), (69, .iconst 3, 1, 0), (70, .iload 1, 1, 0), (71, .invokevirtual 159, 3, 273), (74, .return_, 1, 0), (75, .aload 0, 1, 0), (76, .getfield 917, 3, 44), (79, .iload 1, 1, 0), (80, .baload, 1, 0), (81, .ifCond .ne 100, 3, 0), (84, .aload 0, 1, 0), (85, .getfield 932, 3, 235), (88, .iconst 60, 2, 1), (90, .if_icmp .ne 100, 3, 0), (93, .aload 0, 1, 0), (94, .iconst 4, 1, 0), (95, .iload 1, 1, 0), (96, .invokevirtual 159, 3, 273), (99, .return_, 1, 0), (100, .aload 0, 1, 0), (101, .getfield 917, 3, 44), (104, .iload 1, 1, 0), (105, .baload, 1, 0), (106, .ifCond .ne 126, 3, 0), (109, .aload 0, 1, 0), (110, .iconst 6, 2, 1), (112, .iload 1, 1, 0), (113, .invokevirtual 165, 3, 282), (116, .aload 0, 1, 0), (117, .dup, 1, 0), (118, .getfield 932, 3, 235), (121, .iconst 1, 1, 0), (122, .iadd, 1, 0), (123, .putfield 932, 3, 235), (126, .aload 0, 1, 0), (127, .aload 0, 1, 0), (128, .iload 5, 2, 0), (130, .invokevirtual 164, 3, 307), (133, .iload 1, 1, 0), (134, .invokevirtual 158, 3, 300), (137, .ifCond .ne 141, 3, 0), (140, .return_, 1, 0), (141, .aload 0, 1, 0), (142, .aload 0, 1, 0), (143, .getfield 938, 3, 76), (146, .lload 3, 1, 0), (147, .l2i, 1, 0), (148, .iaload, 1, 0), (149, .putfield 952, 3, 259), (152, .iconst 0, 1, 0), (153, .istore 6, 2, 0), (155, .iload 6, 2, 0), (157, .iload 2, 1, 0), (158, .if_icmp .ge 205, 3, 0), (161, .aload 0, 1, 0), (162, .aload 0, 1, 0), (163, .aload 0, 1, 0), (164, .getfield 915, 3, 38), (167, .iconst 4, 1, 0), (168, .iload 5, 2, 0), (170, .imul, 1, 0), (171, .iload 6, 2, 0), (173, .iadd, 1, 0), (174, .iaload, 1, 0), (175, .aload 0, 1, 0), (176, .getfield 950, 3, 104), (179, .aload 0, 1, 0), (180, .getfield 951, 3, 256), (183, .iconst 1, 1, 0), (184, .iadd, 1, 0), (185, .iload 6, 2, 0), (187, .iadd, 1, 0), (188, .laload, 1, 0), (189, .aload 0, 1, 0), (190, .getfield 952, 3, 259), (193, .invokevirtual 162, 3, 303), (196, .putfield 952, 3, 259), (199, .iinc 6 1, 3, 0), (202, .goto 155, 3, 0), (205, .aload 0, 1, 0), (206, .aload 0, 1, 0), (207, .getfield 911, 3, 26), (210, .iload 5, 2, 0), (212, .iaload, 1, 0), (213, .invokevirtual 166, 3, 268), (216, .return_, 1, 0)], [])
/-- 171: ListDeskModel.primitive(I)V -/
def am_m171 : amM := ("ListDeskModel", ⟨"ListDeskModel", "primitive", "(I)V"⟩, prog_15_method_46_code, 11, none, 1, [(0, .aload 0, 1, 0), (1, .getfield 910, 3, 23), (4, .iload 1, 1, 0), (5, .iaload, 1, 0), (6, .istore 2, 1, 0), (7, .aload 0, 1, 0), (8, .getfield 914, 3, 35), (11, .iload 1, 1, 0), (12, .iaload, 1, 0), (13, .istore 3, 1, 0), (14, .aload 0, 1, 0), (15, .dup, 1, 0), (16, .getfield 951, 3, 256), (19, .iload 3, 1, 0), (20, .isub, 1, 0), (21, .putfield 951, 3, 256), (24, .aload 0, 1, 0), (25, .getfield 950, 3, 104), (28, .aload 0, 1, 0), (29, .getfield 951, 3, 256), (32, .laload, 1, 0), (33, .lstore 4, 2, 0), (35, .aload 0, 1, 0), (36, .getfield 950, 3, 104), (39, .aload 0, 1, 0), (40, .getfield 951, 3, 256), (43, .iconst 1, 1, 0), (44, .iadd, 1, 0), (45, .laload, 1, 0), (46, .lstore 6, 2, 0), (48, .lload 4, 2, 0), (50, .l2i, 1, 0), (51, .istore 8, 2, 0), (53, .lload 6, 2, 0), (55, .l2i, 1, 0), (56, .istore 9, 2, 0), (58, .iload 2, 1, 0), (59, .iconst 5, 1, 0), (60, .if_icmp .ge 87, 3, 0), (63, .lload 4, 2, 0), (65, .invokestatic 157, 3, 313), (68, .ifCond .ne 83, 3, 0), (71, .lload 6, 2, 0), (73, .invokestatic 157, 3, 313), (76, .ifCond .ne 83, 3, 0), (79, .iconst 1, 1, 0), (80, .goto 135, 3, 0), (83, .iconst 0, 1, 0), (84, .goto 135, 3, 0), (87, .iload 2, 1, 0), (88, .iconst 7, 2, 1), (90, .if_icmp .eq 99, 3, 0), (93, .iload 2, 1, 0), (94, .iconst 8, 2, 1), (96, .if_icmp .ne 116, 3, 0), (99, .lload 4, 2, 0), (101, .invokestatic 157, 3, 313), (104, .iconst 2, 1, 0), (105, .if_icmp .ne 112, 3, 0), (108, .iconst 1, 1, 0), (109, .goto 135, 3, 0), (112, .iconst 0, 1, 0), (113, .goto 135, 3, 0), (116, .iload 2, 1, 0), (117, .iconst 12, 2, 1), (119, .if_icmp .ne 130, 3, 0), (122, .lload 4, 2, 0), (124, .invokestatic 157, 3, 313), (127, .ifCond .ne 134, 3, 0), (130, .iconst 1, 1, 0), (131, .goto 135, 3, 0), (134, .iconst 0, 1, 0), (135, .istore 10, 2, 0), (137, .iload 10, 2, 0), (139, .ifCond .eq 158, 3, 0), (142, .iload 2, 1, 0), (143, .iconst 6, 2, 1), (145, .if_icmp .ne 174, 3, 0), (148, .aload 0, 1, 0), (149, .getfield 931, 3, 232), (152, .iconst 2000, 3, 2), (155, .if_icmp .ne 174, 3, 0), (158, .aload 0, 1, 0), (159, .iload 10, 2, 0), (161, .ifCond .eq 168, 3, 0), (164, .iconst 5, 1, 0), (165, .goto 169, 3, 0), (168, .iconst 3, 1, 0), (169, .iload 1, 1, 0), (170, .invokevirtual 159, 3, 273), (173, .return_, 1, 0), (174, .iload 2, 1, 0), (175, .tableswitch 485 0 11 #[236, 251, 266, 281, 300, 319, 339, 396, 410, 424, 445, 466], 61, 0), (236, .aload 0, 1, 0), (237, .iload 8, 2, 0), (239, .iload 9, 2, 0), (241, .iadd, 1, 0), (242, .invokestatic 155, 3, 285), (245, .putfield 954, 3, 289), (248, .goto 519, 3, 0), (251, .aload 0, 1, 0), (252, .iload 8, 2, 0), (254, .iload 9, 2, 0), (256, .isub, 1, 0), (257, .invokestatic 155, 3, 285), (260, .putfield 954, 3, 289), (263, .goto 519, 3, 0), (266, .aload 0, 1, 0), (267, .iload 8, 2, 0), (269, .iload 9, 2, 0), (271, .imul, 1, 0), (272, .invokestatic 155, 3, 285), (275, .putfield 954, 3, 289), (278, .goto 519, 3, 0), (281, .aload 0, 1, 0), (282, .iload 8, 2, 0), (284, .iload 9, 2, 0), (286, .if_icmp .ge 293, 3, 0), (289, .jsr_w 1, 1, 0), (290, .goto 294, 3, 0), (293, .jsr_w 0, 1, 0), (294, .putfield 954, 3, 289), (297, .goto 519, 3, 0), (300, .aload 0, 1, 0), (301, .iload 8, 2, 0), (303, .iload 9, 2, 0), (305, .if_icmp .ne 312, 3, 0), (308, .jsr_w 1, 1, 0), (309, .goto 313, 3, 0), (312, .jsr_w 0, 1, 0), (313, .putfield 954, 3, 289), (316, .goto 519, 3, 0), (319, .aload 0, 1, 0), (320, .lload 4, 2, 0), (322, .lload 6, 2, 0), (324, .lcmp, 1, 0), (325, .ifCond .ne 332, 3, 0), (328, .jsr_w 1, 1, 0), (329, .goto 333, 3, 0), (332, .jsr_w 0, 1, 0), (333, .putfield 954, 3, 289), (336, .goto 519, 3, 0), (339, .aload 0, 1, 0), (340, .dup, 1, 0), (341, .getfield 931, 3, 232), (344, .iconst 1, 1, 0), (345, .iadd, 1, 0), (346, .putfield 931, 3, 232), (349, .aload 0, 1, 0), (350, .getfield 934, 3, 66), (353, .aload 0, 1, 0), (354, .getfield 936, 3, 247), (357, .lload 4, 2, 0), (359, .lastore, 1, 0), (360, .aload 0, 1, 0), (361, .getfield 935, 3, 70), (364, .aload 0, 1, 0), (365, .getfield 936, 3, 247), (368, .lload 6, 2, 0), (370, .lastore, 1, 0), (371, .aload 0, 1, 0), (372, .iconst 2, 1, 0), (373, .aload 0, 1, 0), (374, .getfield 936, 3, 247), (377, .invokestatic 156, 3, 293), (380, .putfield 954, 3, 289), (383, .aload 0, 1, 0), (384, .dup, 1, 0), (385, .getfield 936, 3, 247), (388, .iconst 1, 1, 0), (389, .iadd, 1, 0), (390, .putfield 936, 3, 247), (393, .goto 519, 3, 0), (396, .aload 0, 1, 0), (397, .aload 0, 1, 0), (398, .getfield 934, 3, 66), (401, .iload 8, 2, 0), (403, .laload, 1, 0), (404, .putfield 954, 3, 289), (407, .goto 519, 3, 0), (410, .aload 0, 1, 0), (411, .aload 0, 1, 0), (412, .getfield 935, 3, 70), (415, .iload 8, 2, 0), (417, .laload, 1, 0), (418, .putfield 954, 3, 289), (421, .goto 519, 3, 0), (424, .aload 0, 1, 0), (425, .lload 4, 2, 0), (427, .invokestatic 157, 3, 313), (430, .iconst 2, 1, 0), (431, .if_icmp .ne 438, 3, 0), (434, .jsr_w 1, 1, 0), (435, .goto 439, 3, 0), (438, .jsr_w 0, 1, 0), (439, .putfield 954, 3, 289), (442, .goto 519, 3, 0), (445, .aload 0, 1, 0), (446, .lload 4, 2, 0), (448, .invokestatic 157, 3, 313), (451, .iconst 1, 1, 0), (452, .if_icmp .ne 459, 3, 0), (455, .jsr_w 1, 1, 0), (456, .goto 460, 3, 0), (459, .jsr_w 0, 1, 0), (460, .putfield 954, 3, 289), (463, .goto 519, 3, 0), (466, .aload 0, 1, 0), (467, .lload 4, 2, 0), (469, .jsr_w 0, 1, 0), (470, .lcmp, 1, 0), (471, .ifCond .ne 478, 3, 0), (474, .jsr_w 1, 1, 0), (475, .goto 479, 3, 0), (478, .jsr_w 0, 1, 0), (479, .putfield 954, 3, 289), (482, .goto 519, 3, 0), (485, .aload 0, 1, 0), (486, .getfield 956, 3, 107), (489, .aload 0, 1, 0), (490, .getfield 955, 3, 238), (493, .iconst 200, 3, 2), (496, .irem, 1, 0), (497, .iload 8, 2, 0), (499, .iastore, 1, 0), (500, .aload 0, 1, 0), (501, .dup, 1, 0), (502, .getfield 955, 3, 238), (505, .iconst 1, 1, 0), (506, .iadd, 1, 0), (507, .putfield 955, 3, 238), (510, .aload 0, 1, 0), (511, .iconst 1, 1, 0), (512, .iconst 0, 1, 0), (513, .invokestatic 156, 3, 293), (516, .putfield 954, 3, 289), (519, .return_, 1, 0)], [])
/-- 172: ListDeskModel.give()V -/
def am_m172 : amM := ("ListDeskModel", ⟨"ListDeskModel", "give", "()V"⟩, prog_15_method_47_code, 7, none, 0, [(0, .aload 0, 1, 0), (1, .getfield 949, 3, 253), (4, .ifCond .ne 13, 3, 0), (7, .aload 0, 1, 0), (8, .iconst 1, 1, 0), (9, .putfield 929, 3, 226), (12, .return_, 1, 0), (13, .aload 0, 1, 0), (14, .getfield 949, 3, 253), (17, .iconst 1, 1, 0), (18, .isub, 1, 0), (19, .istore 1, 1, 0), (20, .aload 0, 1, 0), (21, .getfield 946, 3, 95), (24, .iload 1, 1, 0), (25, .iaload, 1, 0), (26, .istore 2, 1, 0), (27, .aload 0, 1, 0), (28, .aload 0, 1, 0), (29, .getfield 947, 3, 98), (32, .iload 1, 1, 0), (33, .iaload, 1, 0), (34, .putfield 952, 3, 259), (37, .aload 0, 1, 0), (38, .getfield 945, 3, 92), (41, .iload 1, 1, 0), (42, .iaload, 1, 0), (43, .istore 3, 1, 0), (44, .iload 3, 1, 0), (45, .iconst 2, 1, 0), (46, .if_icmp .eq 54, 3, 0), (49, .iload 3, 1, 0), (50, .iconst 5, 1, 0), (51, .if_icmp .ne 164, 3, 0), (54, .aload 0, 1, 0), (55, .getfield 950, 3, 104), (58, .aload 0, 1, 0), (59, .getfield 951, 3, 256), (62, .aload 0, 1, 0), (63, .getfield 954, 3, 289), (66, .lastore, 1, 0), (67, .aload 0, 1, 0), (68, .dup, 1, 0), (69, .getfield 951, 3, 256), (72, .iconst 1, 1, 0), (73, .iadd, 1, 0), (74, .putfield 951, 3, 256), (77, .aload 0, 1, 0), (78, .getfield 948, 3, 101), (81, .iload 1, 1, 0), (82, .dup2, 1, 0), (83, .iaload, 1, 0), (84, .iconst 1, 1, 0), (85, .iadd, 1, 0), (86, .iastore, 1, 0), (87, .iload 3, 1, 0), (88, .iconst 2, 1, 0), (89, .if_icmp .ne 101, 3, 0), (92, .aload 0, 1, 0), (93, .getfield 916, 3, 41), (96, .iload 2, 1, 0), (97, .iaload, 1, 0), (98, .goto 107, 3, 0), (101, .aload 0, 1, 0), (102, .getfield 914, 3, 35), (105, .iload 2, 1, 0), (106, .iaload, 1, 0), (107, .istore 4, 2, 0), (109, .aload 0, 1, 0), (110, .getfield 948, 3, 101), (113, .iload 1, 1, 0), (114, .iaload, 1, 0), (115, .iload 4, 2, 0), (117, .if_icmp .ge 164, 3, 0), (120, .aload 0, 1, 0), (121, .getfield 911, 3, 26), (124, .iload 2, 1, 0), (125, .iaload, 1, 0), (126, .istore 5, 2, 0), (128, .iconst 0, 1, 0), (129, .istore 6, 2, 0), (131, .iload 6, 2, 0), (133, .aload 0, 1, 0), (134, .getfield 948, 3, 101), (137, .iload 1, 1, 0), (138, .iaload, 1, 0), (139, .if_icmp .ge 157, 3, 0), (142, .aload 0, 1, 0), (143, .getfield 913, 3, 32), (146, .iload 5, 2, 0), (148, .iaload, 1, 0), (149, .istore 5, 2, 0), (151, .iinc 6 1, 3, 0), (154, .goto 131, 3, 0), (157, .aload 0, 1, 0), (158, .iload 5, 2, 0), (160, .putfield 953, 3, 265), (163, .return_, 1, 0), (164, .aload 0, 1, 0), (165, .dup, 1, 0), (166, .getfield 949, 3, 253), (169, .iconst 1, 1, 0), (170, .isub, 1, 0), (171, .putfield 949, 3, 253), (174, .iload 3, 1, 0), (175, .tableswitch 336 0 6 #[216, 224, 260, 268, 301, 336, 323], 41, 0), (216, .aload 0, 1, 0), (217, .iload 2, 1, 0), (218, .invokevirtual 166, 3, 268), (221, .goto 360, 3, 0), (224, .aload 0, 1, 0), (225, .aload 0, 1, 0), (226, .getfield 954, 3, 289), (229, .jsr_w 0, 1, 0), (230, .lcmp, 1, 0), (231, .ifCond .ne 243, 3, 0), (234, .aload 0, 1, 0), (235, .getfield 912, 3, 29), (238, .iload 2, 1, 0), (239, .iaload, 1, 0), (240, .goto 254, 3, 0), (243, .aload 0, 1, 0), (244, .getfield 913, 3, 32), (247, .aload 0, 1, 0), (248, .getfield 911, 3, 26), (251, .iload 2, 1, 0), (252, .iaload, 1, 0), (253, .iaload, 1, 0), (254, .putfield 953, 3, 265), (257, .goto 360, 3, 0), (260, .aload 0, 1, 0), (261, .iload 2, 1, 0), (262, .invokevirtual 169, 3, 317), (265, .goto 360, 3, 0), (268, .aload 0, 1, 0), (269, .getfield 941, 3, 83), (272, .aload 0, 1, 0), (273, .aload 0, 1, 0), (274, .getfield 915, 3, 38), (277, .iconst 4, 1, 0), (278, .iload 2, 1, 0), (279, .imul, 1, 0), (280, .iaload, 1, 0), (281, .invokevirtual 163, 3, 297), (284, .aload 0, 1, 0), (285, .getfield 954, 3, 289), (288, .lastore, 1, 0), (289, .aload 0, 1, 0), (290, .aload 0, 1, 0), (291, .iload 2, 1, 0), (292, .invokevirtual 167, 3, 310), (295, .invokevirtual 166, 3, 268), (298, .goto 360, 3, 0), (301, .aload 0, 1, 0), (302, .getfield 941, 3, 83), (305, .aload 0, 1, 0), (306, .aload 0, 1, 0), (307, .getfield 910, 3, 23), (310, .iload 2, 1, 0), (311, .iaload, 1, 0), (312, .invokevirtual 163, 3, 297), (315, .aload 0, 1, 0), (316, .getfield 954, 3, 289), (319, .lastore, 1, 0), (320, .goto 360, 3, 0), (323, .aload 0, 1, 0), (324, .dup, 1, 0), (325, .getfield 932, 3, 235), (328, .iconst 1, 1, 0), (329, .isub, 1, 0), (330, .putfield 932, 3, 235), (333, .goto 360, 3, 0), (336, .aload 0, 1, 0), (337, .getfield 908, 3, 17), (340, .iload 2, 1, 0), (341, .iaload, 1, 0), (342, .iconst 10, 2, 1), (344, .if_icmp .ne 355, 3, 0), (347, .aload 0, 1, 0), (348, .iload 2, 1, 0), (349, .invokevirtual 170, 3, 320), (352, .goto 360, 3, 0), (355, .aload 0, 1, 0), (356, .iload 2, 1, 0), (357, .invokevirtual 171, 3, 323), (360, .return_, 1, 0)], [])
/-- 173: ListDeskModel.run(I)I -/
def am_m173 : amM := ("ListDeskModel", ⟨"ListDeskModel", "run", "(I)I"⟩, prog_15_method_48_code, 3, (some .int), 1, [(0, .iload 1, 1, 0), (1, .iconst 1, 1, 0), (2, .iconst 2000, 3, 2), (5, .invokestatic 129, 3, 116), (8, .ifCond .ne 15, 3, 0), (11, .iconst 1, 1, 0), (12, .goto 16, 3, 0), (15, .iconst 0, 1, 0), (16, .istore 2, 1, 0), (17, .aload 0, 1, 0), (18, .iload 2, 1, 0), (19, .iload 2, 1, 0), (20, .ifCond .ne 35, 3, 0), (23, .aload 0, 1, 0), (24, .getfield 929, 3, 226), (27, .iconst 2, 1, 0), (28, .if_icmp .eq 35, 3, 0), (31, .iconst 1, 1, 0), (32, .goto 36, 3, 0), (35, .iconst 0, 1, 0), (36, .invokevirtual 128, 3, 123), (39, .ifCond .eq 44, 3, 0), (42, .iconst 0, 1, 0), (43, .ireturn, 1, 0), (44, .aload 0, 1, 0), (45, .iload 1, 1, 0), (46, .putfield 933, 3, 325), (49, .aload 0, 1, 0), (50, .getfield 929, 3, 226), (53, .iconst 2, 1, 0), (54, .if_icmp .ne 112, 3, 0), (57, .aload 0, 1, 0), (58, .getfield 953, 3, 265), (61, .ifCond .lt 71, 3, 0), (64, .aload 0, 1, 0), (65, .getfield 933, 3, 325), (68, .ifCond .le 112, 3, 0), (71, .aload 0, 1, 0), (72, .getfield 953, 3, 265), (75, .ifCond .lt 105, 3, 0), (78, .aload 0, 1, 0), (79, .dup, 1, 0), (80, .getfield 933, 3, 325), (83, .iconst 1, 1, 0), (84, .isub, 1, 0), (85, .putfield 933, 3, 325), (88, .aload 0, 1, 0), (89, .dup, 1, 0), (90, .getfield 930, 3, 229), (93, .iconst 1, 1, 0), (94, .iadd, 1, 0), (95, .putfield 930, 3, 229), (98, .aload 0, 1, 0), (99, .invokevirtual 168, 3, 328), (102, .goto 49, 3, 0), (105, .aload 0, 1, 0), (106, .invokevirtual 172, 3, 331), (109, .goto 49, 3, 0), (112, .aload 0, 1, 0), (113, .aload 0, 1, 0), (114, .getfield 929, 3, 226), (117, .iconst 1, 1, 0), (118, .if_icmp .ne 125, 3, 0), (121, .iconst 0, 1, 0), (122, .goto 129, 3, 0), (125, .aload 0, 1, 0), (126, .getfield 932, 3, 235), (129, .putfield 932, 3, 235), (132, .aload 0, 1, 0), (133, .getfield 929, 3, 226), (136, .ireturn, 1, 0)], [])
/-- 174: ListDeskModel.place()I -/
def am_m174 : amM := ("ListDeskModel", ⟨"ListDeskModel", "place", "()I"⟩, prog_15_method_49_code, 1, (some .int), 0, [(0, .aload 0, 1, 0), (1, .iconst 0, 1, 0), (2, .putfield 900, 3, 113), (5, .aload 0, 1, 0), (6, .getfield 906, 3, 13), (9, .ireturn, 1, 0)], [])
/-- 175: ListDeskModel.status()I -/
def am_m175 : amM := ("ListDeskModel", ⟨"ListDeskModel", "status", "()I"⟩, prog_15_method_50_code, 1, (some .int), 0, [(0, .aload 0, 1, 0), (1, .iconst 0, 1, 0), (2, .putfield 900, 3, 113), (5, .aload 0, 1, 0), (6, .getfield 929, 3, 226), (9, .ireturn, 1, 0)], [])
/-- 176: ListDeskModel.look(I)I -/
def am_m176 : amM := ("ListDeskModel", ⟨"ListDeskModel", "look", "(I)I"⟩, prog_15_method_51_code, 2, (some .int), 1, [(0, .aload 0, 1, 0), (1, .iload 1, 1, 0), (2, .iconst 0, 1, 0), (3, .iconst 3, 1, 0), (4, .invokestatic 129, 3, 116), (7, .ifCond .ne 14, 3, 0), (10, .iconst 1, 1, 0), (11, .goto 15, 3, 0), (14, .iconst 0, 1, 0), (15, .iconst 0, 1, 0), (16, .invokevirtual 128, 3, 123), (19, .ifCond .eq 24, 3, 0), (22, .iconst 0, 1, 0), (23, .ireturn, 1, 0), (24, .iload 1, 1, 0), (25, .ifCond .ne 35, 3, 0), (28, .aload 0, 1, 0), (29, .getfield 930, 3, 229), (32, .goto 63, 3, 0), (35, .iload 1, 1, 0), (36, .iconst 1, 1, 0), (37, .if_icmp .ne 47, 3, 0), (40, .aload 0, 1, 0), (41, .getfield 931, 3, 232), (44, .goto 63, 3, 0), (47, .iload 1, 1, 0), (48, .iconst 2, 1, 0), (49, .if_icmp .ne 59, 3, 0), (52, .aload 0, 1, 0), (53, .getfield 932, 3, 235), (56, .goto 63, 3, 0), (59, .aload 0, 1, 0), (60, .getfield 955, 3, 238), (63, .ireturn, 1, 0)], [])
/-- 177: ListDeskModel.out(I)I -/
def am_m177 : amM := ("ListDeskModel", ⟨"ListDeskModel", "out", "(I)I"⟩, prog_15_method_52_code, 2, (some .int), 1, [(0, .aload 0, 1, 0), (1, .iload 1, 1, 0), (2, .iconst 0, 1, 0), (3, .aload 0, 1, 0), (4, .getfield 955, 3, 238), (7, .iconst 1, 1, 0), (8, .isub, 1, 0), (9, .invokestatic 129, 3, 116), (12, .ifCond .eq 27, 3, 0), (15, .iload 1, 1, 0), (16, .iconst 200, 3, 2), (19, .iadd, 1, 0), (20, .aload 0, 1, 0), (21, .getfield 955, 3, 238), (24, .if_icmp .ge 31, 3, 0), (27, .iconst 1, 1, 0), (28, .goto 32, 3, 0), (31, .iconst 0, 1, 0), (32, .iconst 0, 1, 0), (33, .invokevirtual 128, 3, 123), (36, .ifCond .eq 41, 3, 0), (39, .iconst 0, 1, 0), (40, .ireturn, 1, 0), (41, .aload 0, 1, 0), (42, .getfield 956, 3, 107), (45, .iload 1, 1, 0), (46, .iconst 200, 3, 2), (49, .irem, 1, 0), (50, .iaload, 1, 0), (51, .ireturn, 1, 0)], [])
/-- 178: ListDeskModel.at(I)J -/
def am_m178 : amM := ("ListDeskModel", ⟨"ListDeskModel", "at", "(I)J"⟩, prog_15_method_53_code, 6, (some .long), 1, [(0, .iconst 30, 2, 1), (2, .istore 2, 1, 0), (3, .iload 1, 1, 0), (4, .iload 2, 1, 0), (5, .ishr, 1, 0), (6, .iconst 1, 1, 0), (7, .iand, 1, 0), (8, .ifCond .ne 17, 3, 0), (11, .iinc 2 (-1), 3, 0), (14, .goto 3, 3, 0), (17, .aload 0, 1, 0), (18, .getfield 954, 3, 289), (21, .lstore 3, 1, 0), (22, .iload 2, 1, 0), (23, .iconst 1, 1, 0), (24, .isub, 1, 0), (25, .istore 5, 2, 0), (27, .iload 5, 2, 0), (29, .ifCond .lt 83, 3, 0), (32, .lload 3, 1, 0), (33, .jsr_w 0, 1, 0), (34, .lcmp, 1, 0), (35, .ifCond .lt 46, 3, 0), (38, .lload 3, 1, 0), (39, .invokestatic 157, 3, 313), (42, .iconst 2, 1, 0), (43, .if_icmp .eq 50, 3, 0), (46, .jsr_w (-1), 3, 334), (49, .lreturn, 1, 0), (50, .iload 1, 1, 0), (51, .iload 5, 2, 0), (53, .ishr, 1, 0), (54, .iconst 1, 1, 0), (55, .iand, 1, 0), (56, .ifCond .ne 69, 3, 0), (59, .aload 0, 1, 0), (60, .getfield 934, 3, 66), (63, .lload 3, 1, 0), (64, .l2i, 1, 0), (65, .laload, 1, 0), (66, .goto 76, 3, 0), (69, .aload 0, 1, 0), (70, .getfield 935, 3, 70), (73, .lload 3, 1, 0), (74, .l2i, 1, 0), (75, .laload, 1, 0), (76, .lstore 3, 1, 0), (77, .iinc 5 (-1), 3, 0), (80, .goto 27, 3, 0), (83, .lload 3, 1, 0), (84, .lreturn, 1, 0)], [])
/-- 179: ListDeskModel.kind(I)I -/
def am_m179 : amM := ("ListDeskModel", ⟨"ListDeskModel", "kind", "(I)I"⟩, prog_15_method_54_code, 5, (some .int), 1, [(0, .iload 1, 1, 0), (1, .iconst 1, 1, 0), (2, .if_icmp .ge 9, 3, 0), (5, .iconst 1, 1, 0), (6, .goto 10, 3, 0), (9, .iconst 0, 1, 0), (10, .istore 2, 1, 0), (11, .aload 0, 1, 0), (12, .iload 2, 1, 0), (13, .iload 2, 1, 0), (14, .ifCond .ne 29, 3, 0), (17, .aload 0, 1, 0), (18, .getfield 929, 3, 226), (21, .iconst 1, 1, 0), (22, .if_icmp .eq 29, 3, 0), (25, .iconst 1, 1, 0), (26, .goto 30, 3, 0), (29, .iconst 0, 1, 0), (30, .invokevirtual 128, 3, 123), (33, .ifCond .eq 38, 3, 0), (36, .iconst 0, 1, 0), (37, .ireturn, 1, 0), (38, .aload 0, 1, 0), (39, .iload 1, 1, 0), (40, .invokevirtual 178, 3, 336), (43, .lstore 3, 1, 0), (44, .lload 3, 1, 0), (45, .jsr_w 0, 1, 0), (46, .lcmp, 1, 0), (47, .ifCond .ge 54, 3, 0), (50, .iconst (-1), 1, 0), (51, .goto 58, 3, 0), (54, .lload 3, 1, 0), (55, .invokestatic 157, 3, 313), (58, .ireturn, 1, 0)], [])
/-- 180: ListDeskModel.number(I)I -/
def am_m180 : amM := ("ListDeskModel", ⟨"ListDeskModel", "number", "(I)I"⟩, prog_15_method_55_code, 5, (some .int), 1, [(0, .iload 1, 1, 0), (1, .iconst 1, 1, 0), (2, .if_icmp .ge 9, 3, 0), (5, .iconst 1, 1, 0), (6, .goto 10, 3, 0), (9, .iconst 0, 1, 0), (10, .istore 2, 1, 0), (11, .aload 0, 1, 0), (12, .iload 2, 1, 0), (13, .iload 2, 1, 0), (14, .ifCond .ne 29, 3, 0), (17, .aload 0, 1, 0), (18, .getfield 929, 3, 226), (21, .iconst 1, 1, 0), (22, .if_icmp .eq 29, 3, 0), (25, .iconst 1, 1, 0), (26, .goto 30, 3, 0), (29, .iconst 0, 1, 0), (30, .invokevirtual 128, 3, 123), (33, .ifCond .eq 38, 3, 0), (36, .iconst 0, 1, 0), (37, .ireturn, 1, 0), (38, .aload 0, 1, 0), (39, .iload 1, 1, 0), (40, .invokevirtual 178, 3, 336), (43, .lstore 3, 1, 0), (44, .lload 3, 1, 0), (45, .jsr_w 0, 1, 0), (46, .lcmp, 1, 0), (47, .ifCond .lt 62, 3, 0), (50, .lload 3, 1, 0), (51, .invokestatic 157, 3, 313), (54, .ifCond .ne 62, 3, 0), (57, .lload 3, 1, 0), (58, .l2i, 1, 0), (59, .goto 63, 3, 0), (62, .iconst 0, 1, 0), (63, .ireturn, 1, 0)], [])
/-- 181: ListDeskLaw.feed(LListDesk;JI[J)I -/
def am_m181 : amM := ("ListDeskLaw", ⟨"ListDeskLaw", "feed", "(LListDesk;JI[J)I"⟩, method_3_code, 6, (some .int), 4, [(0, .aload 4, 2, 0), (2, .iconst 0, 1, 0), (3, .aload 0, 1, 0), (4, .lload 1, 1, 0), (5, .iload 3, 1, 0), (6, .invokevirtual 116, 3, 7), (9, .i2l, 1, 0), (10, .lastore, 1, 0), (11, .goto 22, 3, 0), (14, .astore 5, 2, 0), (16, .iconst 1, 1, 0), (17, .ireturn, 1, 0), (18, .astore 5, 2, 0), (20, .iconst 2, 1, 0), (21, .ireturn, 1, 0), (22, .iconst 0, 1, 0), (23, .ireturn, 1, 0)], [(0, 11, 14, 13), (0, 11, 18, 15)])
/-- 182: ListDeskLaw.load(LListDesk;)I -/
def am_m182 : amM := ("ListDeskLaw", ⟨"ListDeskLaw", "load", "(LListDesk;)I"⟩, method_4_code, 2, (some .int), 1, [(0, .aload 0, 1, 0), (1, .invokevirtual 117, 3, 17), (4, .goto 10, 3, 0), (7, .astore 1, 1, 0), (8, .iconst 1, 1, 0), (9, .ireturn, 1, 0), (10, .iconst 0, 1, 0), (11, .ireturn, 1, 0)], [(0, 4, 7, 13)])
/-- 183: ListDeskLaw.run(LListDesk;I[J)I -/
def am_m183 : amM := ("ListDeskLaw", ⟨"ListDeskLaw", "run", "(LListDesk;I[J)I"⟩, method_5_code, 4, (some .int), 3, [(0, .aload 2, 1, 0), (1, .iconst 0, 1, 0), (2, .aload 0, 1, 0), (3, .iload 1, 1, 0), (4, .invokevirtual 119, 3, 20), (7, .i2l, 1, 0), (8, .lastore, 1, 0), (9, .goto 18, 3, 0), (12, .astore 3, 1, 0), (13, .iconst 1, 1, 0), (14, .ireturn, 1, 0), (15, .astore 3, 1, 0), (16, .iconst 2, 1, 0), (17, .ireturn, 1, 0), (18, .iconst 0, 1, 0), (19, .ireturn, 1, 0)], [(0, 9, 12, 13), (0, 9, 15, 15)])
/-- 184: ListDeskLaw.look(LListDesk;I[J)I -/
def am_m184 : amM := ("ListDeskLaw", ⟨"ListDeskLaw", "look", "(LListDesk;I[J)I"⟩, method_6_code, 4, (some .int), 3, [(0, .aload 2, 1, 0), (1, .iconst 0, 1, 0), (2, .aload 0, 1, 0), (3, .iload 1, 1, 0), (4, .invokevirtual 121, 3, 24), (7, .i2l, 1, 0), (8, .lastore, 1, 0), (9, .goto 15, 3, 0), (12, .astore 3, 1, 0), (13, .iconst 1, 1, 0), (14, .ireturn, 1, 0), (15, .iconst 0, 1, 0), (16, .ireturn, 1, 0)], [(0, 9, 12, 13)])
/-- 185: ListDeskLaw.out(LListDesk;I[J)I -/
def am_m185 : amM := ("ListDeskLaw", ⟨"ListDeskLaw", "out", "(LListDesk;I[J)I"⟩, method_7_code, 4, (some .int), 3, [(0, .aload 2, 1, 0), (1, .iconst 0, 1, 0), (2, .aload 0, 1, 0), (3, .iload 1, 1, 0), (4, .invokevirtual 122, 3, 27), (7, .i2l, 1, 0), (8, .lastore, 1, 0), (9, .goto 15, 3, 0), (12, .astore 3, 1, 0), (13, .iconst 1, 1, 0), (14, .ireturn, 1, 0), (15, .iconst 0, 1, 0), (16, .ireturn, 1, 0)], [(0, 9, 12, 30)])
/-- 186: ListDeskLaw.kind(LListDesk;I[J)I -/
def am_m186 : amM := ("ListDeskLaw", ⟨"ListDeskLaw", "kind", "(LListDesk;I[J)I"⟩, method_8_code, 4, (some .int), 3, [(0, .aload 2, 1, 0), (1, .iconst 0, 1, 0), (2, .aload 0, 1, 0), (3, .iload 1, 1, 0), (4, .invokevirtual 123, 3, 32), (7, .i2l, 1, 0), (8, .lastore, 1, 0), (9, .goto 18, 3, 0), (12, .astore 3, 1, 0), (13, .iconst 1, 1, 0), (14, .ireturn, 1, 0), (15, .astore 3, 1, 0), (16, .iconst 2, 1, 0), (17, .ireturn, 1, 0), (18, .iconst 0, 1, 0), (19, .ireturn, 1, 0)], [(0, 9, 12, 13), (0, 9, 15, 15)])
/-- 187: ListDeskLaw.number(LListDesk;I[J)I -/
def am_m187 : amM := ("ListDeskLaw", ⟨"ListDeskLaw", "number", "(LListDesk;I[J)I"⟩, method_9_code, 4, (some .int), 3, [(0, .aload 2, 1, 0), (1, .iconst 0, 1, 0), (2, .aload 0, 1, 0), (3, .iload 1, 1, 0), (4, .invokevirtual 124, 3, 35), (7, .i2l, 1, 0), (8, .lastore, 1, 0), (9, .goto 18, 3, 0), (12, .astore 3, 1, 0), (13, .iconst 1, 1, 0), (14, .ireturn, 1, 0), (15, .astore 3, 1, 0), (16, .iconst 2, 1, 0), (17, .ireturn, 1, 0), (18, .iconst 0, 1, 0), (19, .ireturn, 1, 0)], [(0, 9, 12, 13), (0, 9, 15, 15)])
/-- 188: ListDeskLaw.law([I)Z -/
def am_m188 : amM := ("ListDeskLaw", ⟨"ListDeskLaw", "law", "([I)Z"⟩, code, 7, (some .boolean), 1, [(0, .new 8, 3, 8), (3, .dup, 1, 0), (4, .invokespecial 115, 3, 38), (7, .astore 1, 1, 0), (8, .new 9, 3, 39), (11, .dup, 1, 0), (12, .invokespecial 126, 3, 41), (15, .astore 2, 1, 0), (16, .iconst 1, 1, 0), (17, .newarray .long, 2, 0), (19, .astore 3, 1, 0), (20, .iconst 0, 1, 0), (21, .istore 4, 2, 0), (23, .iload 4, 2, 0), (25, .aload 0, 1, 0), (26, .arraylength, 1, 0), (27, .iconst 4, 1, 0), (28, .isub, 1, 0), (29, .if_icmp .gt 524, 3, 0), (32, .aload 0, 1, 0), (33, .iload 4, 2, 0), (35, .iaload, 1, 0), (36, .iconst 15, 2, 1), (38, .iand, 1, 0), (39, .tableswitch 518 0 8 #[88, 188, 212, 225, 281, 294, 350, 406, 462], 49, 0), (88, .aload 1, 1, 0), (89, .aload 0, 1, 0), (90, .iload 4, 2, 0), (92, .iconst 1, 1, 0), (93, .iadd, 1, 0), (94, .iaload, 1, 0), (95, .i2l, 1, 0), (96, .iconst 32, 2, 1), (98, .lshl, 1, 0), (99, .aload 0, 1, 0), (100, .iload 4, 2, 0), (102, .iconst 2, 1, 0), (103, .iadd, 1, 0), (104, .iaload, 1, 0), (105, .i2l, 1, 0), (106, .jsr_w 4294967295, 3, 42), (109, .land, 1, 0), (110, .lor, 1, 0), (111, .aload 0, 1, 0), (112, .iload 4, 2, 0), (114, .iconst 3, 1, 0), (115, .iadd, 1, 0), (116, .iaload, 1, 0), (117, .aload 3, 1, 0), (118, .invokestatic 181, 3, 44), (121, .istore 5, 2, 0), (123, .aload 2, 1, 0), (124, .aload 0, 1, 0), (125, .iload 4, 2, 0), (127, .iconst 1, 1, 0), (128, .iadd, 1, 0), (129, .iaload, 1, 0), (130, .i2l, 1, 0), (131, .iconst 32, 2, 1), (133, .lshl, 1, 0), (134, .aload 0, 1, 0), (135, .iload 4, 2, 0), (137, .iconst 2, 1, 0), (138, .iadd, 1, 0), (139, .iaload, 1, 0), (140, .i2l, 1, 0), (141, .jsr_w 4294967295, 3, 42), (144, .land, 1, 0), (145, .lor, 1, 0), (146, .aload 0, 1, 0), (147, .iload 4, 2, 0), (149, .iconst 3, 1, 0), (150, .iadd, 1, 0), (151, .iaload, 1, 0), (152, .invokevirtual 130, 3, 49), (155, .istore 6, 2, 0), (157, .aload 2, 1, 0), (158, .invokevirtual 127, 3, 50), (161, .iload 5, 2, 0), (163, .if_icmp .eq 168, 3, 0), (166, .iconst 0, 1, 0), (167, .ireturn, 1, 0), (168, .iload 5, 2, 0), (170, .ifCond .ne 185, 3, 0), (173, .aload 3, 1, 0), (174, .iconst 0, 1, 0), (175, .laload, 1, 0), (176, .iload 6, 2, 0), (178, .i2l, 1, 0), (179, .lcmp, 1, 0), (180, .ifCond .eq 185, 3, 0), (183, .iconst 0, 1, 0), (184, .ireturn, 1, 0), (185, .goto 518, 3, 0), (188, .aload 1, 1, 0), (189, .invokestatic 182, 3, 54), (192, .istore 5, 2, 0), (194, .aload 2, 1, 0), (195, .invokevirtual 154, 3, 57), (198, .aload 2, 1, 0), (199, .invokevirtual 127, 3, 50), (202, .iload 5, 2, 0), (204, .if_icmp .eq 209, 3, 0), (207, .iconst 0, 1, 0), (208, .ireturn, 1, 0), (209, .goto 518, 3, 0), (212, .aload 1, 1, 0), (213, .invokevirtual 118, 3, 58), (216, .aload 2, 1, 0), (217, .invokevirtual 174, 3, 61), (220, .if_icmp .eq 518, 3, 0), (223, .iconst 0, 1, 0), (224, .ireturn, 1, 0), (225, .aload 1, 1, 0), (226, .aload 0, 1, 0), (227, .iload 4, 2, 0), (229, .iconst 1, 1, 0), (230, .iadd, 1, 0), (231, .iaload, 1, 0), (232, .aload 3, 1, 0), (233, .invokestatic 183, 3, 62), (236, .istore 5, 2, 0), (238, .aload 2, 1, 0), (239, .aload 0, 1, 0), (240, .iload 4, 2, 0), (242, .iconst 1, 1, 0), (243, .iadd, 1, 0), (244, .iaload, 1, 0), (245, .invokevirtual 173, 3, 65), (248, .istore 6, 2, 0), (250, .aload 2, 1, 0), (251, .invokevirtual 127, 3, 50), (254, .iload 5, 2, 0), (256, .if_icmp .eq 261, 3, 0), (259, .iconst 0, 1, 0), (260, .ireturn, 1, 0), (261, .iload 5, 2, 0), (263, .ifCond .ne 278, 3, 0), (266, .aload 3, 1, 0), (267, .iconst 0, 1, 0), (268, .laload, 1, 0), (269, .iload 6, 2, 0), (271, .i2l, 1, 0), (272, .lcmp, 1, 0), (273, .ifCond .eq 278, 3, 0), (276, .iconst 0, 1, 0), (277, .ireturn, 1, 0), (278, .goto 518, 3, 0), (281, .aload 1, 1, 0), (282, .invokevirtual 120, 3, 66), (285, .aload 2, 1, 0), (286, .invokevirtual 175, 3, 69), (289, .if_icmp .eq 518, 3, 0), (292, .iconst 0, 1, 0), (293, .ireturn, 1, 0), (294, .aload 1, 1, 0), (295, .aload 0, 1, 0), (296, .iload 4, 2, 0), (298, .iconst 1, 1, 0), (299, .iadd, 1, 0), (300, .iaload, 1, 0), (301, .aload 3, 1, 0), (302, .invokestatic 184, 3, 70), (305, .istore 5, 2, 0), (307, .aload 2, 1, 0), (308, .aload 0, 1, 0), (309, .iload 4, 2, 0), (311, .iconst 1, 1, 0), (312, .iadd, 1, 0), (313, .iaload, 1, 0), (314, .invokevirtual 176, 3, 72), (317, .istore 6, 2, 0), (319, .aload 2, 1, 0), (320, .invokevirtual 127, 3, 50), (323, .iload 5, 2, 0), (325, .if_icmp .eq 330, 3, 0), (328, .iconst 0, 1, 0), (329, .ireturn, 1, 0), (330, .iload 5, 2, 0), (332, .ifCond .ne 347, 3, 0), (335, .aload 3, 1, 0), (336, .iconst 0, 1, 0), (337, .laload, 1, 0), (338, .iload 6, 2, 0), (340, .i2l, 1, 0), (341, .lcmp, 1, 0), (342, .ifCond .eq 347, 3, 0), (345, .iconst 0, 1, 0), (346, .ireturn, 1, 0), (347, .goto 518, 3, 0), (350, .aload 1, 1, 0), (351, .aload 0, 1, 0), (352, .iload 4, 2, 0), (354, .iconst 1, 1, 0), (355, .iadd, 1, 0), (356, .iaload, 1, 0), (357, .aload 3, 1, 0), (358, .invokestatic 185, 3, 73), (361, .istore 5, 2, 0), (363, .aload 2, 1, 0), (364, .aload 0, 1, 0), (365, .iload 4, 2, 0), (367, .iconst 1, 1, 0), (368, .iadd, 1, 0), (369, .iaload, 1, 0), (370, .invokevirtual 177, 3, 75), (373, .istore 6, 2, 0), (375, .aload 2, 1, 0), (376, .invokevirtual 127, 3, 50), (379, .iload 5, 2, 0), (381, .if_icmp .eq 386, 3, 0), (384, .iconst 0, 1, 0), (385, .ireturn, 1, 0), (386, .iload 5, 2, 0), (388, .ifCond .ne 403, 3, 0), (391, .aload 3, 1, 0), (392, .iconst 0, 1, 0), (393, .laload, 1, 0), (394, .iload 6, 2, 0), (396, .i2l, 1, 0), (397, .lcmp, 1, 0), (398, .ifCond .eq 403, 3, 0), (401, .iconst 0, 1, 0), (402, .ireturn, 1, 0), (403, .goto 518, 3, 0), (406, .aload 1, 1, 0), (407, .aload 0, 1, 0), (408, .iload 4, 2, 0), (410, .iconst 1, 1, 0), (411, .iadd, 1, 0), (412, .iaload, 1, 0), (413, .aload 3, 1, 0), (414, .invokestatic 186, 3, 76), (417, .istore 5, 2, 0), (419, .aload 2, 1, 0), (420, .aload 0, 1, 0), (421, .iload 4, 2, 0), (423, .iconst 1, 1, 0), (424, .iadd, 1, 0), (425, .iaload, 1, 0), (426, .invokevirtual 179, 3, 78), (429, .istore 6, 2, 0), (431, .aload 2, 1, 0), (432, .invokevirtual 127, 3, 50), (435, .iload 5, 2, 0), (437, .if_icmp .eq 442, 3, 0), (440, .iconst 0, 1, 0), (441, .ireturn, 1, 0), (442, .iload 5, 2, 0), (444, .ifCond .ne 459, 3, 0), (447, .aload 3, 1, 0), (448, .iconst 0, 1, 0), (449, .laload, 1, 0), (450, .iload 6, 2, 0), (452, .i2l, 1, 0), (453, .lcmp, 1, 0), (454, .ifCond .eq 459, 3, 0), (457, .iconst 0, 1, 0), (458, .ireturn, 1, 0), (459, .goto 518, 3, 0), (462, .aload 1, 1, 0), (463, .aload 0, 1, 0), (464, .iload 4, 2, 0), (466, .iconst 1, 1, 0), (467, .iadd, 1, 0), (468, .iaload, 1, 0), (469, .aload 3, 1, 0), (470, .invokestatic 187, 3, 79), (473, .istore 5, 2, 0), (475, .aload 2, 1, 0), (476, .aload 0, 1, 0), (477, .iload 4, 2, 0), (479, .iconst 1, 1, 0), (480, .iadd, 1, 0), (481, .iaload, 1, 0), (482, .invokevirtual 180, 3, 81), (485, .istore 6, 2, 0), (487, .aload 2, 1, 0), (488, .invokevirtual 127, 3, 50), (491, .iload 5, 2, 0), (493, .if_icmp .eq 498, 3, 0), (496, .iconst 0, 1, 0), (497, .ireturn, 1, 0), (498, .iload 5, 2, 0), (500, .ifCond .ne 515, 3, 0), (503, .aload 3, 1, 0), (504, .iconst 0, 1, 0), (505, .laload, 1, 0), (506, .iload 6, 2, 0), (508, .i2l, 1, 0), (509, .lcmp, 1, 0), (510, .ifCond .eq 515, 3, 0), (513, .iconst 0, 1, 0), (514, .ireturn, 1, 0), (515, .goto 518, 3, 0), (518, .iinc 4 4, 3, 0), (521, .goto 23, 3, 0), (524, .iconst 1, 1, 0), (525, .ireturn, 1, 0)], [])
def am_Mc0 : List amM := [am_m0, am_m1, am_m2, am_m3, am_m4, am_m5, am_m6, am_m7, am_m8, am_m9, am_m10, am_m11, am_m12, am_m13, am_m14, am_m15, am_m16, am_m17, am_m18, am_m19]
def am_Mc1 : List amM := [am_m20, am_m21, am_m22, am_m23, am_m24, am_m25, am_m26, am_m27, am_m28, am_m29, am_m30, am_m31, am_m32, am_m33, am_m34, am_m35, am_m36, am_m37, am_m38, am_m39]
def am_Mc2 : List amM := [am_m40, am_m41, am_m42, am_m43, am_m44, am_m45, am_m46, am_m47, am_m48, am_m49, am_m50, am_m51, am_m52, am_m53, am_m54, am_m55, am_m56, am_m57, am_m58, am_m59]
def am_Mc3 : List amM := [am_m60, am_m61, am_m62, am_m63, am_m64, am_m65, am_m66, am_m67, am_m68, am_m69, am_m70, am_m71, am_m72, am_m73, am_m74, am_m75, am_m76, am_m77, am_m78, am_m79]
def am_Mc4 : List amM := [am_m80, am_m81, am_m82, am_m83, am_m84, am_m85, am_m86, am_m87, am_m88, am_m89, am_m90, am_m91, am_m92, am_m93, am_m94, am_m95, am_m96, am_m97, am_m98, am_m99]
def am_Mc5 : List amM := [am_m100, am_m101, am_m102, am_m103, am_m104, am_m105, am_m106, am_m107, am_m108, am_m109, am_m110, am_m111, am_m112, am_m113, am_m114, am_m115, am_m116, am_m117, am_m118, am_m119]
def am_Mc6 : List amM := [am_m120, am_m121, am_m122, am_m123, am_m124, am_m125, am_m126, am_m127, am_m128, am_m129, am_m130, am_m131, am_m132, am_m133, am_m134, am_m135, am_m136, am_m137, am_m138, am_m139]
def am_Mc7 : List amM := [am_m140, am_m141, am_m142, am_m143, am_m144, am_m145, am_m146, am_m147, am_m148, am_m149, am_m150, am_m151, am_m152, am_m153, am_m154, am_m155, am_m156, am_m157, am_m158, am_m159]
def am_Mc8 : List amM := [am_m160, am_m161, am_m162, am_m163, am_m164, am_m165, am_m166, am_m167, am_m168, am_m169, am_m170, am_m171, am_m172, am_m173, am_m174, am_m175, am_m176, am_m177, am_m178, am_m179]
def am_Mc9 : List amM := [am_m180, am_m181, am_m182, am_m183, am_m184, am_m185, am_m186, am_m187, am_m188]
def am_Ms : List amM := am_Mc0 ++ (am_Mc1 ++ (am_Mc2 ++ (am_Mc3 ++ (am_Mc4 ++ (am_Mc5 ++ (am_Mc6 ++ (am_Mc7 ++ (am_Mc8 ++ (am_Mc9)))))))))
def am_M (j : Nat) : Option amM := am_Ms[j]?
end
section
/-! the links: each with the places of its words in the tables -/
def am_wd (i : Nat) (w : Cond) : Bool := decide (lw_tbl[i]? = some w) && goodWord w
theorem am_wd_in {i : Nat} {w : Cond} (h : am_wd i w = true) : w ∈ amTb := by
  simp only [am_wd, Bool.and_eq_true, decide_eq_true_eq] at h
  exact amTb_in (List.mem_of_getElem? h.1) h.2
def am_FL : List (String × Nat × Nat × Nat) := [("ListDesk", 21, 800, 360), ("ListDesk", 21, 20800, 360), ("ListDesk", 30, 801, 361), ("ListDesk", 30, 20801, 361), ("ListDesk", 39, 802, 362), ("ListDesk", 39, 20802, 362), ("ListDesk", 72, 10313, 326), ("ListDesk", 76, 10605, 248), ("ListDesk", 79, 10314, 328), ("ListDesk", 90, 10312, 324), ("ListDesk", 93, 10303, 312), ("ListDesk", 97, 10203, 279), ("ListDesk", 102, 10311, 322), ("ListDesk", 105, 10304, 314), ("ListDesk", 109, 10501, 302), ("ListDesk$Code", 11, 0, 123), ("ListDesk$Code", 11, 20000, 123), ("ListDesk$Code", 15, 1, 124), ("ListDesk$Code", 15, 20001, 124), ("ListDesk$Code", 18, 2, 126), ("ListDesk$Code", 18, 20002, 126), ("ListDesk$Code", 21, 3, 128), ("ListDesk$Functions", 9, 100, 183), ("ListDesk$Functions", 9, 20100, 183), ("ListDesk$Functions", 15, 101, 184), ("ListDesk$Functions", 15, 20101, 184), ("ListDesk$Functions", 18, 102, 185), ("ListDesk$Functions", 18, 20102, 185), ("ListDesk$Functions", 21, 103, 186), ("ListDesk$Functions", 21, 20103, 186), ("ListDesk$Functions", 24, 104, 187), ("ListDesk$Functions", 24, 20104, 187), ("ListDesk$Functions", 27, 105, 188), ("ListDesk$Functions", 27, 20105, 188), ("ListDesk$Functions", 30, 106, 189), ("ListDesk$Functions", 30, 20106, 189), ("ListDesk$Functions", 33, 108, 192), ("ListDesk$Functions", 33, 20108, 192), ("ListDesk$Functions", 36, 107, 190), ("ListDesk$Functions", 40, 109, 193), ("ListDesk$Heap", 9, 200, 275), ("ListDesk$Heap", 9, 20200, 275), ("ListDesk$Heap", 15, 201, 276), ("ListDesk$Heap", 15, 20201, 276), ("ListDesk$Heap", 19, 202, 277), ("ListDesk$Heap", 19, 20202, 277), ("ListDesk$Heap", 22, 203, 278), ("ListDesk$Heap", 26, 204, 280), ("ListDesk$Machine", 9, 300, 308), ("ListDesk$Machine", 9, 20300, 308), ("ListDesk$Machine", 15, 301, 309), ("ListDesk$Machine", 15, 20301, 309), ("ListDesk$Machine", 19, 302, 310), ("ListDesk$Machine", 19, 20302, 310), ("ListDesk$Machine", 26, 303, 311), ("ListDesk$Machine", 26, 20303, 311), ("ListDesk$Machine", 33, 304, 313), ("ListDesk$Machine", 33, 20304, 313), ("ListDesk$Machine", 37, 305, 315), ("ListDesk$Machine", 37, 20305, 315), ("ListDesk$Machine", 41, 306, 316), ("ListDesk$Machine", 41, 20306, 316), ("ListDesk$Machine", 45, 307, 317), ("ListDesk$Machine", 45, 20307, 317), ("ListDesk$Machine", 48, 313, 325), ("ListDesk$Machine", 52, 314, 327), ("ListDesk$Machine", 59, 308, 318), ("ListDesk$Machine", 62, 309, 319), ("ListDesk$Machine", 65, 310, 320), ("ListDesk$Machine", 68, 311, 321), ("ListDesk$Machine", 71, 312, 323), ("ListDesk$Machine", 81, 10001, 125), ("ListDesk$Machine", 90, 10002, 127), ("ListDesk$Machine", 179, 10204, 281), ("ListDesk$Names", 9, 400, 146), ("ListDesk$Names", 9, 20400, 146), ("ListDesk$Names", 15, 401, 147), ("ListDesk$Names", 15, 20401, 147), ("ListDesk$Names", 18, 402, 148), ("ListDesk$Names", 18, 20402, 148), ("ListDesk$Names", 21, 403, 149), ("ListDesk$Names", 21, 20403, 149), ("ListDesk$Names", 25, 405, 152), ("ListDesk$Names", 25, 20405, 152), ("ListDesk$Names", 28, 407, 154), ("ListDesk$Names", 28, 20407, 154), ("ListDesk$Names", 31, 404, 150), ("ListDesk$Names", 35, 406, 153), ("ListDesk$Names", 38, 408, 155), ("ListDesk$Output", 9, 500, 300), ("ListDesk$Output", 9, 20500, 300), ("ListDesk$Output", 15, 501, 301), ("ListDesk$Reader", 9, 600, 242), ("ListDesk$Reader", 9, 20600, 242), ("ListDesk$Reader", 15, 601, 243), ("ListDesk$Reader", 15, 20601, 243), ("ListDesk$Reader", 19, 602, 244), ("ListDesk$Reader", 19, 20602, 244), ("ListDesk$Reader", 23, 603, 245), ("ListDesk$Reader", 23, 20603, 245), ("ListDesk$Reader", 27, 605, 247), ("ListDesk$Reader", 47, 604, 246), ("ListDesk$Reader", 102, 10703, 226), ("ListDesk$Reader", 206, 10408, 156), ("ListDesk$Reader", 212, 10107, 191), ("ListDesk$Reader", 215, 10003, 129), ("ListDesk$Reader", 218, 10404, 151), ("ListDesk$Reader", 222, 10109, 194), ("ListDesk$Tape", 9, 700, 222), ("ListDesk$Tape", 9, 20700, 222), ("ListDesk$Tape", 15, 701, 223), ("ListDesk$Tape", 25, 702, 224), ("ListDesk$Tape", 28, 703, 225), ("ListDeskModel", 7, 901, 1059), ("ListDeskModel", 7, 20901, 1059), ("ListDeskModel", 13, 906, 1064), ("ListDeskModel", 17, 908, 1066), ("ListDeskModel", 17, 20908, 1066), ("ListDeskModel", 20, 909, 1067), ("ListDeskModel", 20, 20909, 1067), ("ListDeskModel", 23, 910, 1068), ("ListDeskModel", 23, 20910, 1068), ("ListDeskModel", 26, 911, 1069), ("ListDeskModel", 26, 20911, 1069), ("ListDeskModel", 29, 912, 1070), ("ListDeskModel", 29, 20912, 1070), ("ListDeskModel", 32, 913, 1071), ("ListDeskModel", 32, 20913, 1071), ("ListDeskModel", 35, 914, 1072), ("ListDeskModel", 35, 20914, 1072), ("ListDeskModel", 38, 915, 1073), ("ListDeskModel", 38, 20915, 1073), ("ListDeskModel", 41, 916, 1074), ("ListDeskModel", 41, 20916, 1074), ("ListDeskModel", 44, 917, 1075), ("ListDeskModel", 44, 20917, 1075), ("ListDeskModel", 48, 918, 1076), ("ListDeskModel", 48, 20918, 1076), ("ListDeskModel", 51, 920, 1078), ("ListDeskModel", 51, 20920, 1078), ("ListDeskModel", 54, 921, 1079), ("ListDeskModel", 54, 20921, 1079), ("ListDeskModel", 57, 922, 1080), ("ListDeskModel", 57, 20922, 1080), ("ListDeskModel", 60, 924, 1082), ("ListDeskModel", 60, 20924, 1082), ("ListDeskModel", 63, 925, 1083), ("ListDeskModel", 63, 20925, 1083), ("ListDeskModel", 66, 934, 1092), ("ListDeskModel", 66, 20934, 1092), ("ListDeskModel", 70, 935, 1093), ("ListDeskModel", 70, 20935, 1093), ("ListDeskModel", 73, 937, 1095), ("ListDeskModel", 73, 20937, 1095), ("ListDeskModel", 76, 938, 1096), ("ListDeskModel", 76, 20938, 1096), ("ListDeskModel", 80, 940, 1098), ("ListDeskModel", 80, 20940, 1098), ("ListDeskModel", 83, 941, 1099), ("ListDeskModel", 83, 20941, 1099), ("ListDeskModel", 86, 942, 1100), ("ListDeskModel", 86, 20942, 1100), ("ListDeskModel", 89, 943, 1101), ("ListDeskModel", 89, 20943, 1101), ("ListDeskModel", 92, 945, 1103), ("ListDeskModel", 92, 20945, 1103), ("ListDeskModel", 95, 946, 1104), ("ListDeskModel", 95, 20946, 1104), ("ListDeskModel", 98, 947, 1105), ("ListDeskModel", 98, 20947, 1105), ("ListDeskModel", 101, 948, 1106), ("ListDeskModel", 101, 20948, 1106), ("ListDeskModel", 104, 950, 1108), ("ListDeskModel", 104, 20950, 1108), ("ListDeskModel", 107, 956, 1114), ("ListDeskModel", 107, 20956, 1114), ("ListDeskModel", 110, 957, 1115), ("ListDeskModel", 110, 20957, 1115), ("ListDeskModel", 113, 900, 1058), ("ListDeskModel", 120, 902, 1060), ("ListDeskModel", 127, 905, 1063), ("ListDeskModel", 131, 904, 1062), ("ListDeskModel", 134, 903, 1061), ("ListDeskModel", 145, 927, 1085), ("ListDeskModel", 148, 928, 1086), ("ListDeskModel", 151, 907, 1065), ("ListDeskModel", 154, 926, 1084), ("ListDeskModel", 164, 919, 1077), ("ListDeskModel", 167, 923, 1081), ("ListDeskModel", 226, 929, 1087), ("ListDeskModel", 229, 930, 1088), ("ListDeskModel", 232, 931, 1089), ("ListDeskModel", 235, 932, 1090), ("ListDeskModel", 238, 955, 1113), ("ListDeskModel", 247, 936, 1094), ("ListDeskModel", 250, 939, 1097), ("ListDeskModel", 253, 949, 1107), ("ListDeskModel", 256, 951, 1109), ("ListDeskModel", 259, 952, 1110), ("ListDeskModel", 262, 944, 1102), ("ListDeskModel", 265, 953, 1111), ("ListDeskModel", 289, 954, 1112), ("ListDeskModel", 325, 933, 1091)]
def am_flw (e : String × Nat × Nat × Nat) : Bool := match vwCl[e.2.2.1 / 100 % 100]? with
  | some q => decide (e.2.2.1 % 100 < q.2.2) && (if e.2.2.1 / 10000 = 1 then decide (lw_tbl[e.2.2.2]? = some (Cond.fieldLinkNest e.1 e.2.1 (q.2.1 (e.2.2.1 % 100)).1 (q.2.1 (e.2.2.1 % 100)).2.1 (q.2.1 (e.2.2.1 % 100)).2.2.1 "ListDesk"))
    else am_wd e.2.2.2 (Cond.fieldLink e.1 e.2.1 (q.2.1 (e.2.2.1 % 100)).1 (q.2.1 (e.2.2.1 % 100)).2.1 (q.2.1 (e.2.2.1 % 100)).2.2.1))
  | none => false
theorem am_FL_ok : am_FL.all am_flw = true := by decide +kernel
/-- of a method: the places of its code, of static or instanceMethod, of selects, of initialized -/
def am_MW : List (Nat × Nat × Nat × Nat) := [(121, 120, 0, 85), (512, 510, 511, 85), (617, 615, 616, 85), (729, 727, 728, 85), (750, 748, 749, 85), (783, 781, 782, 85), (788, 787, 24, 85), (181, 180, 0, 87), (520, 518, 519, 87), (697, 695, 696, 87), (721, 719, 720, 87), (649, 647, 648, 87), (654, 653, 8, 87), (937, 935, 936, 87), (882, 880, 881, 87), (924, 922, 923, 87), (941, 939, 940, 87), (870, 868, 869, 87), (874, 872, 873, 87), (272, 271, 0, 91), (496, 494, 495, 91), (858, 856, 857, 91), (878, 876, 877, 91), (971, 969, 970, 91), (975, 973, 974, 91), (919, 917, 918, 91), (839, 837, 838, 91), (847, 845, 846, 91), (907, 905, 906, 91), (266, 265, 0, 90), (492, 490, 491, 90), (792, 790, 791, 90), (805, 803, 804, 90), (812, 811, 25, 90), (890, 889, 32, 90), (866, 865, 30, 90), (832, 831, 28, 90), (820, 819, 26, 90), (894, 893, 33, 90), (911, 910, 35, 90), (886, 885, 31, 90), (828, 827, 27, 90), (854, 853, 29, 90), (898, 897, 34, 90), (915, 914, 36, 90), (928, 927, 37, 90), (932, 931, 38, 90), (945, 944, 39, 90), (949, 948, 40, 90), (957, 956, 41, 90), (967, 966, 42, 90), (979, 978, 43, 90), (982, 981, 0, 90), (1040, 1038, 1039, 90), (144, 143, 0, 86), (516, 514, 515, 86), (692, 690, 691, 86), (688, 686, 687, 86), (701, 699, 700, 86), (717, 715, 716, 86), (634, 632, 633, 86), (645, 643, 644, 86), (641, 639, 640, 86), (902, 900, 901, 86), (705, 703, 704, 86), (298, 297, 0, 92), (500, 498, 499, 92), (962, 960, 961, 92), (1002, 1000, 1001, 92), (1022, 1020, 1021, 92), (240, 239, 0, 89), (504, 502, 503, 89), (545, 544, 3, 89), (524, 523, 1, 89), (659, 658, 9, 89), (770, 769, 23, 89), (622, 621, 6, 89), (626, 625, 7, 89), (541, 540, 2, 89), (552, 551, 4, 89), (664, 663, 10, 89), (680, 679, 12, 89), (709, 708, 14, 89), (713, 712, 15, 89), (684, 683, 13, 89), (676, 675, 11, 89), (725, 724, 16, 89), (733, 732, 17, 89), (737, 736, 18, 89), (745, 744, 20, 89), (741, 740, 19, 89), (755, 754, 21, 89), (759, 758, 22, 89), (613, 612, 5, 89), (637, 636, 0, 99), (481, 480, 0, 99), (835, 834, 0, 99), (823, 822, 0, 99), (220, 219, 0, 88), (458, 456, 457, 88), (478, 476, 477, 88), (508, 506, 507, 88), (532, 530, 531, 88), (528, 526, 527, 88), (536, 534, 535, 88), (778, 776, 777, 88), (763, 761, 762, 88), (558, 556, 557, 88), (630, 628, 629, 88), (609, 608, 0, 88), (766, 765, 0, 88), (815, 814, 0, 107), (850, 849, 0, 107), (842, 841, 0, 107), (952, 951, 0, 107), (113, 112, 0, 84), (386, 384, 385, 84), (488, 486, 487, 84), (373, 371, 372, 84), (799, 797, 798, 84), (377, 375, 376, 84), (989, 987, 988, 84), (998, 996, 997, 84), (1030, 1028, 1029, 84), (1049, 1047, 1048, 84), (1034, 1033, 44, 84), (1055, 1054, 0, 93), (1236, 1234, 1235, 93), (1247, 1246, 45, 93), (1243, 1242, 0, 93), (1240, 1238, 1239, 93), (1277, 1276, 50, 93), (1263, 1262, 48, 93), (1289, 1288, 53, 93), (1301, 1300, 56, 93), (1325, 1324, 62, 93), (1305, 1304, 57, 93), (1259, 1258, 47, 93), (1285, 1284, 52, 93), (1333, 1332, 64, 93), (1297, 1296, 55, 93), (1293, 1292, 54, 93), (1309, 1308, 58, 93), (1321, 1320, 61, 93), (1329, 1328, 63, 93), (1317, 1316, 60, 93), (1313, 1312, 59, 93), (1270, 1269, 0, 93), (1273, 1272, 0, 93), (1267, 1266, 49, 93), (1281, 1280, 51, 93), (1337, 1336, 65, 93), (1255, 1254, 46, 93), (1341, 1340, 66, 93), (1251, 1249, 1250, 93), (1360, 1359, 0, 93), (1364, 1363, 0, 93), (1412, 1411, 0, 93), (1372, 1371, 71, 93), (1376, 1375, 72, 93), (1388, 1387, 75, 93), (1384, 1383, 74, 93), (1380, 1379, 73, 93), (1368, 1367, 70, 93), (1401, 1400, 78, 93), (1349, 1348, 68, 93), (1345, 1344, 67, 93), (1405, 1404, 79, 93), (1357, 1356, 69, 93), (1397, 1396, 77, 93), (1409, 1408, 80, 93), (1416, 1415, 81, 93), (1393, 1392, 76, 93), (1353, 1351, 1352, 93), (1420, 1418, 1419, 93), (1424, 1422, 1423, 93), (1428, 1426, 1427, 93), (1432, 1430, 1431, 93), (1440, 1439, 82, 93), (1436, 1434, 1435, 93), (1445, 1443, 1444, 93), (380, 379, 0, 83), (484, 483, 0, 83), (795, 794, 0, 83), (985, 984, 0, 83), (993, 992, 0, 83), (1026, 1025, 0, 83), (1045, 1044, 0, 83), (0, 0, 0, 0)]
def am_cdw (M : amM) : Cond := if am_hh M = [] then .code (am_y M) (am_b M) (am_mL M) (am_rt M) else .codeWith (am_y M) (am_b M) (am_mL M) (am_rt M) (am_hh M)
/-- a method that is called: its name is plain, its parameters are counted, its words are there -/
def am_mok (M : amM) (p : Nat × Nat × Nat × Nat) : Bool := am_wd p.1 (am_cdw M) && am_wd p.2.2.2 (.initialized (am_y M).cls) && plainName (am_y M).cls && decide ((am_y M).cls ≠ "java/lang/invoke/MethodHandle") && decide ((am_y M).cls ≠ "java/lang/invoke/VarHandle") && decide ((parseMethodDescriptor (am_y M).desc).map (fun d => d.parameters.length) = some (am_np M)) && decide (am_own M = (am_y M).cls) && decide (am_mL M ≤ 40)
def am_CL : List (String × Nat × Nat × Nat × Nat) := [("ListDesk", 11, 1, 0, 119), ("ListDesk", 14, 1, 54, 142), ("ListDesk", 17, 1, 7, 179), ("ListDesk", 20, 1, 98, 218), ("ListDesk", 27, 1, 70, 238), ("ListDesk", 36, 1, 29, 264), ("ListDesk", 50, 0, 99, 455), ("ListDesk", 59, 0, 100, 475), ("ListDesk", 63, 0, 30, 489), ("ListDesk", 66, 0, 71, 501), ("ListDesk", 69, 0, 31, 789), ("ListDesk", 86, 0, 32, 802), ("ListDesk", 116, 0, 68, 999), ("ListDesk", 124, 0, 69, 1019), ("ListDesk", 127, 0, 125, 1031), ("ListDesk", 131, 0, 53, 1037), ("ListDesk", 139, 2, 112, 1042), ("ListDesk", 143, 2, 113, 1050), ("ListDesk$Code", 25, 2, 95, 618), ("ListDesk$Code", 31, 2, 94, 751), ("ListDesk$Code", 35, 0, 4, 784), ("ListDesk$Code", 39, 0, 6, 785), ("ListDesk$Functions", 43, 2, 95, 655), ("ListDesk$Functions", 49, 2, 94, 650), ("ListDesk$Functions", 53, 0, 12, 651), ("ListDesk$Heap", 33, 2, 97, 860), ("ListDesk$Heap", 39, 2, 111, 861), ("ListDesk$Heap", 43, 2, 113, 840), ("ListDesk$Heap", 47, 2, 96, 843), ("ListDesk$Heap", 51, 2, 112, 848), ("ListDesk$Machine", 25, 1, 19, 270), ("ListDesk$Machine", 32, 1, 65, 296), ("ListDesk$Machine", 55, 0, 20, 493), ("ListDesk$Machine", 58, 0, 66, 497), ("ListDesk$Machine", 75, 0, 4, 807), ("ListDesk$Machine", 84, 2, 94, 808), ("ListDesk$Machine", 93, 0, 33, 809), ("ListDesk$Machine", 97, 0, 34, 887), ("ListDesk$Machine", 100, 0, 48, 946), ("ListDesk$Machine", 104, 0, 51, 976), ("ListDesk$Machine", 109, 2, 111, 813), ("ListDesk$Machine", 113, 0, 37, 817), ("ListDesk$Machine", 119, 0, 41, 825), ("ListDesk$Machine", 123, 0, 27, 844), ("ListDesk$Machine", 127, 0, 42, 851), ("ListDesk$Machine", 130, 0, 21, 855), ("ListDesk$Machine", 134, 0, 40, 883), ("ListDesk$Machine", 138, 0, 38, 891), ("ListDesk$Machine", 142, 0, 43, 895), ("ListDesk$Machine", 145, 0, 36, 829), ("ListDesk$Machine", 148, 0, 28, 904), ("ListDesk$Machine", 152, 0, 39, 908), ("ListDesk$Machine", 156, 0, 44, 912), ("ListDesk$Machine", 160, 0, 47, 942), ("ListDesk$Machine", 163, 2, 96, 833), ("ListDesk$Machine", 166, 2, 97, 821), ("ListDesk$Machine", 172, 0, 35, 863), ("ListDesk$Machine", 175, 0, 26, 836), ("ListDesk$Machine", 182, 0, 17, 867), ("ListDesk$Machine", 186, 0, 18, 871), ("ListDesk$Machine", 190, 0, 22, 875), ("ListDesk$Machine", 193, 0, 14, 879), ("ListDesk$Machine", 196, 0, 63, 899), ("ListDesk$Machine", 202, 0, 61, 903), ("ListDesk$Machine", 205, 0, 25, 916), ("ListDesk$Machine", 209, 2, 112, 920), ("ListDesk$Machine", 212, 0, 15, 921), ("ListDesk$Machine", 215, 0, 45, 925), ("ListDesk$Machine", 218, 0, 46, 929), ("ListDesk$Machine", 221, 0, 13, 934), ("ListDesk$Machine", 224, 0, 16, 938), ("ListDesk$Machine", 227, 2, 95, 933), ("ListDesk$Machine", 230, 2, 114, 950), ("ListDesk$Machine", 234, 0, 49, 954), ("ListDesk$Machine", 237, 0, 50, 964), ("ListDesk$Machine", 241, 2, 113, 958), ("ListDesk$Machine", 244, 0, 67, 959), ("ListDesk$Machine", 247, 0, 23, 968), ("ListDesk$Machine", 250, 0, 24, 972), ("ListDesk$Machine", 253, 2, 52, 980), ("ListDesk$Names", 41, 2, 95, 693), ("ListDesk$Names", 47, 2, 94, 635), ("ListDesk$Names", 51, 0, 64, 702), ("ListDesk$Output", 19, 2, 95, 963), ("ListDesk$Output", 25, 2, 94, 1023), ("ListDesk$Reader", 31, 0, 101, 505), ("ListDesk$Reader", 36, 0, 1, 509), ("ListDesk$Reader", 41, 0, 55, 513), ("ListDesk$Reader", 44, 0, 8, 517), ("ListDesk$Reader", 50, 0, 73, 521), ("ListDesk$Reader", 54, 0, 105, 775), ("ListDesk$Reader", 58, 0, 83, 710), ("ListDesk$Reader", 61, 0, 2, 614), ("ListDesk$Reader", 65, 0, 5, 780), ("ListDesk$Reader", 75, 0, 103, 525), ("ListDesk$Reader", 79, 0, 104, 533), ("ListDesk$Reader", 82, 0, 78, 538), ("ListDesk$Reader", 86, 0, 106, 760), ("ListDesk$Reader", 89, 0, 75, 767), ("ListDesk$Reader", 92, 0, 74, 656), ("ListDesk$Reader", 98, 0, 107, 555), ("ListDesk$Reader", 105, 0, 76, 619), ("ListDesk$Reader", 108, 0, 102, 771), ("ListDesk$Reader", 112, 2, 110, 772), ("ListDesk$Reader", 116, 2, 109, 773), ("ListDesk$Reader", 119, 0, 72, 542), ("ListDesk$Reader", 122, 0, 77, 623), ("ListDesk$Reader", 125, 0, 62, 638), ("ListDesk$Reader", 128, 0, 61, 642), ("ListDesk$Reader", 131, 0, 11, 646), ("ListDesk$Reader", 134, 0, 108, 627), ("ListDesk$Reader", 137, 0, 60, 631), ("ListDesk$Reader", 140, 0, 79, 549), ("ListDesk$Reader", 144, 0, 93, 610), ("ListDesk$Reader", 158, 0, 80, 661), ("ListDesk$Reader", 162, 0, 81, 677), ("ListDesk$Reader", 178, 0, 85, 673), ("ListDesk$Reader", 181, 0, 86, 722), ("ListDesk$Reader", 184, 0, 87, 730), ("ListDesk$Reader", 187, 0, 89, 742), ("ListDesk$Reader", 190, 0, 91, 752), ("ListDesk$Reader", 193, 0, 82, 706), ("ListDesk$Reader", 196, 0, 92, 756), ("ListDesk$Reader", 199, 0, 57, 685), ("ListDesk$Reader", 203, 0, 56, 689), ("ListDesk$Reader", 209, 0, 84, 681), ("ListDesk$Reader", 219, 0, 9, 694), ("ListDesk$Reader", 225, 0, 58, 698), ("ListDesk$Reader", 228, 0, 59, 714), ("ListDesk$Reader", 231, 0, 10, 718), ("ListDesk$Reader", 234, 0, 3, 726), ("ListDesk$Reader", 237, 0, 88, 734), ("ListDesk$Reader", 240, 0, 90, 738), ("ListDesk$Reader", 241, 0, 64, 746), ("ListDesk$Reader", 245, 0, 4, 747), ("ListDesk$Tape", 19, 2, 95, 479), ("ListDesk$Tape", 31, 0, 102, 529), ("ListDesk$Tape", 35, 0, 103, 537), ("ListDesk$Tape", 39, 0, 104, 779), ("ListDesk$Tape", 42, 2, 110, 764), ("ListDesk$Tape", 54, 2, 109, 607), ("ListDesk$Value", 11, 2, 111, 953), ("ListDeskLaw", 7, 0, 116, 383), ("ListDeskLaw", 17, 0, 117, 485), ("ListDeskLaw", 20, 0, 119, 796), ("ListDeskLaw", 24, 0, 121, 986), ("ListDeskLaw", 27, 0, 122, 995), ("ListDeskLaw", 32, 0, 123, 1027), ("ListDeskLaw", 35, 0, 124, 1046), ("ListDeskLaw", 38, 1, 115, 111), ("ListDeskLaw", 41, 1, 126, 1053), ("ListDeskLaw", 44, 2, 181, 378), ("ListDeskLaw", 49, 0, 130, 1237), ("ListDeskLaw", 50, 0, 127, 1233), ("ListDeskLaw", 54, 2, 182, 482), ("ListDeskLaw", 57, 0, 154, 1248), ("ListDeskLaw", 58, 0, 118, 370), ("ListDeskLaw", 61, 0, 174, 1417), ("ListDeskLaw", 62, 2, 183, 793), ("ListDeskLaw", 65, 0, 173, 1350), ("ListDeskLaw", 66, 0, 120, 374), ("ListDeskLaw", 69, 0, 175, 1421), ("ListDeskLaw", 70, 2, 184, 983), ("ListDeskLaw", 72, 0, 176, 1425), ("ListDeskLaw", 73, 2, 185, 991), ("ListDeskLaw", 75, 0, 177, 1429), ("ListDeskLaw", 76, 2, 186, 1024), ("ListDeskLaw", 78, 0, 179, 1433), ("ListDeskLaw", 79, 2, 187, 1043), ("ListDeskLaw", 81, 0, 180, 1442), ("ListDeskModel", 116, 2, 129, 1241), ("ListDeskModel", 123, 0, 128, 1244), ("ListDeskModel", 137, 0, 132, 1260), ("ListDeskModel", 141, 0, 131, 1274), ("ListDeskModel", 157, 0, 134, 1298), ("ListDeskModel", 160, 0, 136, 1302), ("ListDeskModel", 170, 0, 135, 1322), ("ListDeskModel", 174, 0, 137, 1256), ("ListDeskModel", 178, 0, 145, 1314), ("ListDeskModel", 181, 0, 143, 1318), ("ListDeskModel", 184, 0, 144, 1326), ("ListDeskModel", 187, 0, 139, 1330), ("ListDeskModel", 191, 0, 138, 1282), ("ListDeskModel", 195, 0, 133, 1286), ("ListDeskModel", 198, 0, 140, 1294), ("ListDeskModel", 201, 0, 142, 1306), ("ListDeskModel", 204, 2, 147, 1268), ("ListDeskModel", 208, 0, 141, 1290), ("ListDeskModel", 211, 0, 150, 1278), ("ListDeskModel", 214, 0, 149, 1264), ("ListDeskModel", 217, 2, 148, 1271), ("ListDeskModel", 220, 0, 146, 1310), ("ListDeskModel", 223, 0, 151, 1334), ("ListDeskModel", 241, 0, 152, 1252), ("ListDeskModel", 244, 0, 153, 1338), ("ListDeskModel", 268, 0, 166, 1342), ("ListDeskModel", 273, 0, 159, 1373), ("ListDeskModel", 276, 0, 160, 1385), ("ListDeskModel", 279, 0, 161, 1381), ("ListDeskModel", 282, 0, 165, 1346), ("ListDeskModel", 285, 2, 155, 1358), ("ListDeskModel", 293, 2, 156, 1362), ("ListDeskModel", 297, 0, 163, 1365), ("ListDeskModel", 300, 0, 158, 1369), ("ListDeskModel", 303, 0, 162, 1377), ("ListDeskModel", 307, 0, 164, 1398), ("ListDeskModel", 310, 0, 167, 1402), ("ListDeskModel", 313, 2, 157, 1410), ("ListDeskModel", 317, 0, 169, 1394), ("ListDeskModel", 320, 0, 170, 1406), ("ListDeskModel", 323, 0, 171, 1413), ("ListDeskModel", 328, 0, 168, 1354), ("ListDeskModel", 331, 0, 172, 1390), ("ListDeskModel", 336, 0, 178, 1437)]
/-- a call's words: by its kind (0 virtual, 1 special, 2 static) -/
def am_clw (e : String × Nat × Nat × Nat × Nat) : Bool := match am_M e.2.2.2.1, am_MW[e.2.2.2.1]? with
  | some M, some p => am_wd e.2.2.2.2 (.methodLink e.1 e.2.1 (am_y M)) && (if e.2.2.1 = 2 then am_wd p.2.1 (.static (am_y M)) else am_wd p.2.1 (.instanceMethod (am_y M)) && decide (am_hh M = [])) && (if e.2.2.1 = 0 then am_wd p.2.2.1 (.selects (am_y M).cls (am_y M) (am_y M)) else true) && (if e.2.2.1 = 1 then decide ((am_y M).name = "<init>" ∧ am_rt M = none) else true)
  | _, _ => false
theorem am_CL_ok : am_CL.all am_clw = true := by decide +kernel
def am_NW : List (String × Nat × Nat × Nat × Nat × Nat) := [("ListDesk", 9, 0, 117, 118, 85), ("ListDesk", 12, 4, 140, 141, 86), ("ListDesk", 15, 1, 177, 178, 87), ("ListDesk", 18, 7, 216, 217, 88), ("ListDesk", 25, 6, 236, 237, 89), ("ListDesk", 34, 3, 262, 263, 90), ("ListDesk$Machine", 23, 2, 268, 269, 91), ("ListDesk$Machine", 30, 5, 294, 295, 92), ("ListDeskLaw", 8, 8, 109, 110, 84), ("ListDeskLaw", 39, 9, 1051, 1052, 93)]
def am_nww (e : String × Nat × Nat × Nat × Nat × Nat) : Bool := match vwCl[e.2.2.1]? with
  | some q => am_wd e.2.2.2.1 (.classLink e.1 e.2.1 q.1) && am_wd e.2.2.2.2.1 (.instantiable q.1 q.2.2) && am_wd e.2.2.2.2.2 (.initialized q.1) && decide (e.2.2.1 < 10)
  | none => false
theorem am_NW_ok : am_NW.all am_nww = true := by decide +kernel
def am_CI : List (String × Nat × Int × Nat) := [("ListDesk$Heap", 18, 52000, 274), ("ListDesk$Machine", 74, 1000000, 806), ("ListDeskModel", 79, 120000, 1057), ("ListDeskModel", 278, 119999, 1389)]
theorem am_CI_ok : am_CI.all (fun e => am_wd e.2.2.2 (.constant e.1 e.2.1 (Int32.ofInt e.2.2.1))) = true := by decide +kernel
def am_CJ : List (String × Nat × Int × Nat) := [("ListDesk", 137, 21474836480, 1041), ("ListDesk$Heap", 31, 21474836480, 859), ("ListDesk$Machine", 117, 4294967296, 824), ("ListDesk$Machine", 170, 21474836480, 862), ("ListDesk$Value", 9, 4294967295, 816), ("ListDeskLaw", 42, 4294967295, 1446), ("ListDeskModel", 271, 4294967295, 1361), ("ListDeskModel", 334, (-1), 1441)]
theorem am_CJ_ok : am_CJ.all (fun e => am_wd e.2.2.2 (.constantLong e.1 e.2.1 (Int64.ofInt e.2.2.1))) = true := by decide +kernel
theorem am_ac_int : Cond.arrayClass .int ∈ amTb := am_wd_in (i := 139) (by decide +kernel)
theorem am_ac_long : Cond.arrayClass .long ∈ amTb := am_wd_in (i := 293) (by decide +kernel)
theorem am_ac_boolean : Cond.arrayClass .boolean ∈ amTb := am_wd_in (i := 176) (by decide +kernel)
theorem am_ob1 : Cond.instanceMethod objectInit ∈ amTb := am_wd_in (i := 115) (by decide +kernel)
theorem am_ob2 : Cond.code objectInit ⟨#[0xb1]⟩ 1 none ∈ amTb := am_wd_in (i := 116) (by decide +kernel)
def am_OB : List (String × Nat × Nat) := [("ListDesk", 3, 114), ("ListDesk$Code", 5, 122), ("ListDesk$Functions", 3, 182), ("ListDesk$Heap", 3, 273), ("ListDesk$Machine", 3, 267), ("ListDesk$Names", 3, 145), ("ListDesk$Output", 3, 299), ("ListDesk$Reader", 3, 241), ("ListDesk$Tape", 3, 221), ("ListDeskModel", 1, 1056)]
theorem am_OB_ok : am_OB.all (fun e => am_wd e.2.2 (.methodLink e.1 e.2.1 objectInit)) = true := by decide +kernel
/-- the throws: where, class link, class, text, constructor -/
def am_ex (e : Nat) : String := if e = 0 then "java/lang/IllegalArgumentException" else if e = 1 then "java/lang/IllegalStateException" else "java/lang/IndexOutOfBoundsException"
def am_TH : List (String × Nat × Nat × String × Nat × Nat) := [("ListDesk$Reader", 68, 70, "the text is wrong", 72, 0), ("ListDesk", 43, 45, "one to eight bytes can be fed at once", 47, 0), ("ListDesk", 54, 56, "the tape has no room for these bytes", 58, 1), ("ListDesk", 43, 82, "fuel is 1 to 2,000", 47, 0), ("ListDesk", 54, 84, "there is no program that goes on", 58, 1), ("ListDesk", 43, 114, "there is nothing such to look at", 47, 0), ("ListDesk", 119, 121, "no such int is kept", 123, 2), ("ListDesk", 43, 146, "a way is at least 1", 47, 0), ("ListDesk", 54, 148, "there is no program that is through", 58, 1)]
/-- is the instruction what the code has, and are its links there -/
def am_dc (M : amM) (pc : Nat) (i : Instr) (n : Nat) : Bool := decide (decode (am_b M) pc = .ok (i, n))
def am_lv (M : amM) (pc len i : Nat) (a : Instr) (b : Fin 4 → Instr) : Bool := (decide (len = 2) && am_dc M pc a 2) || (decide (len = 1) && decide (i < 4) && am_dc M pc (b (Fin.ofNat 4 i)) 1)
def am_tg (pc : Nat) (t : Int) : Int := t - (pc : Int)
def am_chk (M : amM) (q : Nat × Instr × Nat × Nat) : Bool :=
  let pc := q.1; let len := q.2.2.1; let ix := q.2.2.2
  match q.2.1 with
  | .iconst n => (decide (ix = 0) && decide (len = 1) && am_dc M pc (.iconst n) 1) || (decide (ix = 1) && decide (len = 2) && am_dc M pc (.bipush n) 2 && decide ((Int8.ofInt n).toInt32 = Int32.ofInt n)) || (decide (ix = 2) && decide (len = 3) && am_dc M pc (.sipush n) 3 && decide ((Int16.ofInt n).toInt32 = Int32.ofInt n)) || (decide (10 ≤ ix) && ((decide (len = 2) && am_dc M pc (.ldc (ix - 10)) 2) || (decide (len = 3) && am_dc M pc (.ldc_w (ix - 10)) 3)) && am_CI.any (fun e => e.1 == am_own M && e.2.1 == ix - 10 && e.2.2.1 == n))
  | .jsr_w n => (decide (len = 1) && decide (n = 0 ∨ n = 1) && am_dc M pc (.lconst (Fin.ofNat 2 n.toNat)) 1) || (decide (len = 3) && am_dc M pc (.ldc2_w ix) 3 && am_CJ.any (fun e => e.1 == am_own M && e.2.1 == ix && e.2.2.1 == n))
  | .ldc _ => decide (len = 2) && am_dc M pc (.ldc ix) 2 && decide (am_own M = "ListDesk$Reader" ∧ ix = 96)
  | .iload i => am_lv M pc len i (.iload i) .iload_n
  | .lload i => am_lv M pc len i (.lload i) .lload_n
  | .aload i => am_lv M pc len i (.aload i) .aload_n
  | .istore i => am_lv M pc len i (.istore i) .istore_n
  | .lstore i => am_lv M pc len i (.lstore i) .lstore_n
  | .astore i => am_lv M pc len i (.astore i) .astore_n
  | .goto t => am_dc M pc (.goto (am_tg pc t)) 3 && decide (0 ≤ t)
  | .ifCond c t => am_dc M pc (.ifCond c (am_tg pc t)) 3 && decide (0 ≤ t)
  | .if_icmp c t => am_dc M pc (.if_icmp c (am_tg pc t)) 3 && decide (0 ≤ t)
  | .ifnonnull t => am_dc M pc (.ifnonnull (am_tg pc t)) 3 && decide (0 ≤ t)
  | .tableswitch d lo hi ts => am_dc M pc (.tableswitch (am_tg pc d) lo hi (ts.toList.map (am_tg pc)).toArray) len && decide (0 ≤ d) && ts.toList.all (fun t => decide (0 ≤ t)) && decide (lo ≤ hi ∧ ((ts.toList.length : Nat) : Int) = hi - lo + 1)
  | .getfield q => am_dc M pc (.getfield ix) 3 && (if 50000 ≤ q then decide (am_own M = "ListDesk$Reader" ∧ ((q = 50000 ∧ ix = 147) ∨ (q = 50001 ∧ ix = 248) ∨ (q = 50002 ∧ ix = 251))) else am_FL.any (fun e => e.1 == am_own M && e.2.1 == ix && e.2.2.1 == q))
  | .putfield q => am_dc M pc (.putfield ix) 3 && am_FL.any (fun e => e.1 == am_own M && e.2.1 == ix && e.2.2.1 == q) && (match vwCl[q / 100 % 100]? with
    | some r => if q / 10000 = 2 then (r.2.1 (q % 100)).2.2.2 && decide ((r.2.1 (q % 100)).1 = am_own M ∧ (am_y M).name = "<init>") else !(r.2.1 (q % 100)).2.2.2
    | none => false)
  | .getstatic q => am_dc M pc (.getstatic ix) 3 && decide (am_own M = "ListDesk$Reader" ∧ ((q = 0 ∧ ix = 165) ∨ (q = 1 ∧ ix = 169)))
  | .invokevirtual j => am_dc M pc (.invokevirtual ix) 3 && (if 900 ≤ j then decide ((am_own M = "ListDesk$Reader" ∧ ((j = 900 ∧ ix = 175) ∨ (j = 901 ∧ ix = 153))) ∨ (am_own M = "ListDesk$Tape" ∧ ((j = 901 ∧ ix = 46) ∨ (j = 902 ∧ ix = 50)))) else am_CL.any (fun e => e.1 == am_own M && e.2.1 == ix && e.2.2.1 == 0 && e.2.2.2.1 == j))
  | .invokespecial j => am_dc M pc (.invokespecial ix) 3 && (if 900 ≤ j then am_OB.any (fun e => e.1 == am_own M && e.2.1 == ix) else am_CL.any (fun e => e.1 == am_own M && e.2.1 == ix && e.2.2.1 == 1 && e.2.2.2.1 == j))
  | .invokestatic j => am_dc M pc (.invokestatic ix) 3 && am_CL.any (fun e => e.1 == am_own M && e.2.1 == ix && e.2.2.1 == 2 && e.2.2.2.1 == j)
  | .new c => if 1000 ≤ c then (match am_TH[ix]? with
      | some e => decide (e.1 = am_own M ∧ e.2.2.2.2.2 = c - 1000) && am_dc M pc (.new e.2.1) 3 && am_dc M (pc + 3) .dup 1 && am_dc M (pc + 4) (.ldc e.2.2.1) 2 && am_dc M (pc + 6) (.invokespecial e.2.2.2.2.1) 3 && am_dc M (pc + 9) .athrow 1
      | none => false) else am_dc M pc (.new ix) 3 && am_NW.any (fun e => e.1 == am_own M && e.2.1 == ix && e.2.2.1 == c)
  | .iinc i n => am_dc M pc (.iinc i n) 3
  | .newarray t => am_dc M pc (.newarray t) 2
  | i => am_dc M pc i 1
end
section
theorem am_k0 : am_mok am_m0 (121, 120, 0, 85) = true := by decide +kernel
theorem am_k1 : am_mok am_m1 (512, 510, 511, 85) = true := by decide +kernel
theorem am_k2 : am_mok am_m2 (617, 615, 616, 85) = true := by decide +kernel
theorem am_k3 : am_mok am_m3 (729, 727, 728, 85) = true := by decide +kernel
theorem am_k4 : am_mok am_m4 (750, 748, 749, 85) = true := by decide +kernel
theorem am_k5 : am_mok am_m5 (783, 781, 782, 85) = true := by decide +kernel
theorem am_k6 : am_mok am_m6 (788, 787, 24, 85) = true := by decide +kernel
theorem am_k7 : am_mok am_m7 (181, 180, 0, 87) = true := by decide +kernel
theorem am_k8 : am_mok am_m8 (520, 518, 519, 87) = true := by decide +kernel
theorem am_k9 : am_mok am_m9 (697, 695, 696, 87) = true := by decide +kernel
theorem am_k10 : am_mok am_m10 (721, 719, 720, 87) = true := by decide +kernel
theorem am_k11 : am_mok am_m11 (649, 647, 648, 87) = true := by decide +kernel
theorem am_k12 : am_mok am_m12 (654, 653, 8, 87) = true := by decide +kernel
theorem am_k13 : am_mok am_m13 (937, 935, 936, 87) = true := by decide +kernel
theorem am_k14 : am_mok am_m14 (882, 880, 881, 87) = true := by decide +kernel
theorem am_k15 : am_mok am_m15 (924, 922, 923, 87) = true := by decide +kernel
theorem am_k16 : am_mok am_m16 (941, 939, 940, 87) = true := by decide +kernel
theorem am_k17 : am_mok am_m17 (870, 868, 869, 87) = true := by decide +kernel
theorem am_k18 : am_mok am_m18 (874, 872, 873, 87) = true := by decide +kernel
theorem am_k19 : am_mok am_m19 (272, 271, 0, 91) = true := by decide +kernel
theorem am_k20 : am_mok am_m20 (496, 494, 495, 91) = true := by decide +kernel
theorem am_k21 : am_mok am_m21 (858, 856, 857, 91) = true := by decide +kernel
theorem am_k22 : am_mok am_m22 (878, 876, 877, 91) = true := by decide +kernel
theorem am_k23 : am_mok am_m23 (971, 969, 970, 91) = true := by decide +kernel
theorem am_k24 : am_mok am_m24 (975, 973, 974, 91) = true := by decide +kernel
theorem am_k25 : am_mok am_m25 (919, 917, 918, 91) = true := by decide +kernel
theorem am_k26 : am_mok am_m26 (839, 837, 838, 91) = true := by decide +kernel
theorem am_k27 : am_mok am_m27 (847, 845, 846, 91) = true := by decide +kernel
theorem am_k28 : am_mok am_m28 (907, 905, 906, 91) = true := by decide +kernel
theorem am_k29 : am_mok am_m29 (266, 265, 0, 90) = true := by decide +kernel
theorem am_k30 : am_mok am_m30 (492, 490, 491, 90) = true := by decide +kernel
theorem am_k31 : am_mok am_m31 (792, 790, 791, 90) = true := by decide +kernel
theorem am_k32 : am_mok am_m32 (805, 803, 804, 90) = true := by decide +kernel
theorem am_k33 : am_mok am_m33 (812, 811, 25, 90) = true := by decide +kernel
theorem am_k34 : am_mok am_m34 (890, 889, 32, 90) = true := by decide +kernel
theorem am_k35 : am_mok am_m35 (866, 865, 30, 90) = true := by decide +kernel
theorem am_k36 : am_mok am_m36 (832, 831, 28, 90) = true := by decide +kernel
theorem am_k37 : am_mok am_m37 (820, 819, 26, 90) = true := by decide +kernel
theorem am_k38 : am_mok am_m38 (894, 893, 33, 90) = true := by decide +kernel
theorem am_k39 : am_mok am_m39 (911, 910, 35, 90) = true := by decide +kernel
theorem am_k40 : am_mok am_m40 (886, 885, 31, 90) = true := by decide +kernel
theorem am_k41 : am_mok am_m41 (828, 827, 27, 90) = true := by decide +kernel
theorem am_k42 : am_mok am_m42 (854, 853, 29, 90) = true := by decide +kernel
theorem am_k43 : am_mok am_m43 (898, 897, 34, 90) = true := by decide +kernel
theorem am_k44 : am_mok am_m44 (915, 914, 36, 90) = true := by decide +kernel
theorem am_k45 : am_mok am_m45 (928, 927, 37, 90) = true := by decide +kernel
theorem am_k46 : am_mok am_m46 (932, 931, 38, 90) = true := by decide +kernel
theorem am_k47 : am_mok am_m47 (945, 944, 39, 90) = true := by decide +kernel
theorem am_k48 : am_mok am_m48 (949, 948, 40, 90) = true := by decide +kernel
theorem am_k49 : am_mok am_m49 (957, 956, 41, 90) = true := by decide +kernel
theorem am_k50 : am_mok am_m50 (967, 966, 42, 90) = true := by decide +kernel
theorem am_k51 : am_mok am_m51 (979, 978, 43, 90) = true := by decide +kernel
theorem am_k52 : am_mok am_m52 (982, 981, 0, 90) = true := by decide +kernel
theorem am_k53 : am_mok am_m53 (1040, 1038, 1039, 90) = true := by decide +kernel
theorem am_k54 : am_mok am_m54 (144, 143, 0, 86) = true := by decide +kernel
theorem am_k55 : am_mok am_m55 (516, 514, 515, 86) = true := by decide +kernel
theorem am_k56 : am_mok am_m56 (692, 690, 691, 86) = true := by decide +kernel
theorem am_k57 : am_mok am_m57 (688, 686, 687, 86) = true := by decide +kernel
theorem am_k58 : am_mok am_m58 (701, 699, 700, 86) = true := by decide +kernel
theorem am_k59 : am_mok am_m59 (717, 715, 716, 86) = true := by decide +kernel
theorem am_k60 : am_mok am_m60 (634, 632, 633, 86) = true := by decide +kernel
theorem am_k61 : am_mok am_m61 (645, 643, 644, 86) = true := by decide +kernel
theorem am_k62 : am_mok am_m62 (641, 639, 640, 86) = true := by decide +kernel
theorem am_k63 : am_mok am_m63 (902, 900, 901, 86) = true := by decide +kernel
theorem am_k64 : am_mok am_m64 (705, 703, 704, 86) = true := by decide +kernel
theorem am_k65 : am_mok am_m65 (298, 297, 0, 92) = true := by decide +kernel
theorem am_k66 : am_mok am_m66 (500, 498, 499, 92) = true := by decide +kernel
theorem am_k67 : am_mok am_m67 (962, 960, 961, 92) = true := by decide +kernel
theorem am_k68 : am_mok am_m68 (1002, 1000, 1001, 92) = true := by decide +kernel
theorem am_k69 : am_mok am_m69 (1022, 1020, 1021, 92) = true := by decide +kernel
theorem am_k70 : am_mok am_m70 (240, 239, 0, 89) = true := by decide +kernel
theorem am_k71 : am_mok am_m71 (504, 502, 503, 89) = true := by decide +kernel
theorem am_k72 : am_mok am_m72 (545, 544, 3, 89) = true := by decide +kernel
theorem am_k73 : am_mok am_m73 (524, 523, 1, 89) = true := by decide +kernel
theorem am_k74 : am_mok am_m74 (659, 658, 9, 89) = true := by decide +kernel
theorem am_k75 : am_mok am_m75 (770, 769, 23, 89) = true := by decide +kernel
theorem am_k76 : am_mok am_m76 (622, 621, 6, 89) = true := by decide +kernel
theorem am_k77 : am_mok am_m77 (626, 625, 7, 89) = true := by decide +kernel
theorem am_k78 : am_mok am_m78 (541, 540, 2, 89) = true := by decide +kernel
theorem am_k79 : am_mok am_m79 (552, 551, 4, 89) = true := by decide +kernel
theorem am_k80 : am_mok am_m80 (664, 663, 10, 89) = true := by decide +kernel
theorem am_k81 : am_mok am_m81 (680, 679, 12, 89) = true := by decide +kernel
theorem am_k82 : am_mok am_m82 (709, 708, 14, 89) = true := by decide +kernel
theorem am_k83 : am_mok am_m83 (713, 712, 15, 89) = true := by decide +kernel
theorem am_k84 : am_mok am_m84 (684, 683, 13, 89) = true := by decide +kernel
theorem am_k85 : am_mok am_m85 (676, 675, 11, 89) = true := by decide +kernel
theorem am_k86 : am_mok am_m86 (725, 724, 16, 89) = true := by decide +kernel
theorem am_k87 : am_mok am_m87 (733, 732, 17, 89) = true := by decide +kernel
theorem am_k88 : am_mok am_m88 (737, 736, 18, 89) = true := by decide +kernel
theorem am_k89 : am_mok am_m89 (745, 744, 20, 89) = true := by decide +kernel
theorem am_k90 : am_mok am_m90 (741, 740, 19, 89) = true := by decide +kernel
theorem am_k91 : am_mok am_m91 (755, 754, 21, 89) = true := by decide +kernel
theorem am_k92 : am_mok am_m92 (759, 758, 22, 89) = true := by decide +kernel
theorem am_k93 : am_mok am_m93 (613, 612, 5, 89) = true := by decide +kernel
theorem am_k94 : am_mok am_m94 (637, 636, 0, 99) = true := by decide +kernel
theorem am_k95 : am_mok am_m95 (481, 480, 0, 99) = true := by decide +kernel
theorem am_k96 : am_mok am_m96 (835, 834, 0, 99) = true := by decide +kernel
theorem am_k97 : am_mok am_m97 (823, 822, 0, 99) = true := by decide +kernel
theorem am_k98 : am_mok am_m98 (220, 219, 0, 88) = true := by decide +kernel
theorem am_k99 : am_mok am_m99 (458, 456, 457, 88) = true := by decide +kernel
theorem am_k100 : am_mok am_m100 (478, 476, 477, 88) = true := by decide +kernel
theorem am_k101 : am_mok am_m101 (508, 506, 507, 88) = true := by decide +kernel
theorem am_k102 : am_mok am_m102 (532, 530, 531, 88) = true := by decide +kernel
theorem am_k103 : am_mok am_m103 (528, 526, 527, 88) = true := by decide +kernel
theorem am_k104 : am_mok am_m104 (536, 534, 535, 88) = true := by decide +kernel
theorem am_k105 : am_mok am_m105 (778, 776, 777, 88) = true := by decide +kernel
theorem am_k106 : am_mok am_m106 (763, 761, 762, 88) = true := by decide +kernel
theorem am_k107 : am_mok am_m107 (558, 556, 557, 88) = true := by decide +kernel
theorem am_k108 : am_mok am_m108 (630, 628, 629, 88) = true := by decide +kernel
theorem am_k109 : am_mok am_m109 (609, 608, 0, 88) = true := by decide +kernel
theorem am_k110 : am_mok am_m110 (766, 765, 0, 88) = true := by decide +kernel
theorem am_k111 : am_mok am_m111 (815, 814, 0, 107) = true := by decide +kernel
theorem am_k112 : am_mok am_m112 (850, 849, 0, 107) = true := by decide +kernel
theorem am_k113 : am_mok am_m113 (842, 841, 0, 107) = true := by decide +kernel
theorem am_k114 : am_mok am_m114 (952, 951, 0, 107) = true := by decide +kernel
theorem am_k115 : am_mok am_m115 (113, 112, 0, 84) = true := by decide +kernel
theorem am_k116 : am_mok am_m116 (386, 384, 385, 84) = true := by decide +kernel
theorem am_k117 : am_mok am_m117 (488, 486, 487, 84) = true := by decide +kernel
theorem am_k118 : am_mok am_m118 (373, 371, 372, 84) = true := by decide +kernel
theorem am_k119 : am_mok am_m119 (799, 797, 798, 84) = true := by decide +kernel
theorem am_k120 : am_mok am_m120 (377, 375, 376, 84) = true := by decide +kernel
theorem am_k121 : am_mok am_m121 (989, 987, 988, 84) = true := by decide +kernel
theorem am_k122 : am_mok am_m122 (998, 996, 997, 84) = true := by decide +kernel
theorem am_k123 : am_mok am_m123 (1030, 1028, 1029, 84) = true := by decide +kernel
theorem am_k124 : am_mok am_m124 (1049, 1047, 1048, 84) = true := by decide +kernel
theorem am_k125 : am_mok am_m125 (1034, 1033, 44, 84) = true := by decide +kernel
theorem am_k126 : am_mok am_m126 (1055, 1054, 0, 93) = true := by decide +kernel
theorem am_k127 : am_mok am_m127 (1236, 1234, 1235, 93) = true := by decide +kernel
theorem am_k128 : am_mok am_m128 (1247, 1246, 45, 93) = true := by decide +kernel
theorem am_k129 : am_mok am_m129 (1243, 1242, 0, 93) = true := by decide +kernel
theorem am_k130 : am_mok am_m130 (1240, 1238, 1239, 93) = true := by decide +kernel
theorem am_k131 : am_mok am_m131 (1277, 1276, 50, 93) = true := by decide +kernel
theorem am_k132 : am_mok am_m132 (1263, 1262, 48, 93) = true := by decide +kernel
theorem am_k133 : am_mok am_m133 (1289, 1288, 53, 93) = true := by decide +kernel
theorem am_k134 : am_mok am_m134 (1301, 1300, 56, 93) = true := by decide +kernel
theorem am_k135 : am_mok am_m135 (1325, 1324, 62, 93) = true := by decide +kernel
theorem am_k136 : am_mok am_m136 (1305, 1304, 57, 93) = true := by decide +kernel
theorem am_k137 : am_mok am_m137 (1259, 1258, 47, 93) = true := by decide +kernel
theorem am_k138 : am_mok am_m138 (1285, 1284, 52, 93) = true := by decide +kernel
theorem am_k139 : am_mok am_m139 (1333, 1332, 64, 93) = true := by decide +kernel
theorem am_k140 : am_mok am_m140 (1297, 1296, 55, 93) = true := by decide +kernel
theorem am_k141 : am_mok am_m141 (1293, 1292, 54, 93) = true := by decide +kernel
theorem am_k142 : am_mok am_m142 (1309, 1308, 58, 93) = true := by decide +kernel
theorem am_k143 : am_mok am_m143 (1321, 1320, 61, 93) = true := by decide +kernel
theorem am_k144 : am_mok am_m144 (1329, 1328, 63, 93) = true := by decide +kernel
theorem am_k145 : am_mok am_m145 (1317, 1316, 60, 93) = true := by decide +kernel
theorem am_k146 : am_mok am_m146 (1313, 1312, 59, 93) = true := by decide +kernel
theorem am_k147 : am_mok am_m147 (1270, 1269, 0, 93) = true := by decide +kernel
theorem am_k148 : am_mok am_m148 (1273, 1272, 0, 93) = true := by decide +kernel
theorem am_k149 : am_mok am_m149 (1267, 1266, 49, 93) = true := by decide +kernel
theorem am_k150 : am_mok am_m150 (1281, 1280, 51, 93) = true := by decide +kernel
theorem am_k151 : am_mok am_m151 (1337, 1336, 65, 93) = true := by decide +kernel
theorem am_k152 : am_mok am_m152 (1255, 1254, 46, 93) = true := by decide +kernel
theorem am_k153 : am_mok am_m153 (1341, 1340, 66, 93) = true := by decide +kernel
theorem am_k154 : am_mok am_m154 (1251, 1249, 1250, 93) = true := by decide +kernel
theorem am_k155 : am_mok am_m155 (1360, 1359, 0, 93) = true := by decide +kernel
theorem am_k156 : am_mok am_m156 (1364, 1363, 0, 93) = true := by decide +kernel
theorem am_k157 : am_mok am_m157 (1412, 1411, 0, 93) = true := by decide +kernel
theorem am_k158 : am_mok am_m158 (1372, 1371, 71, 93) = true := by decide +kernel
theorem am_k159 : am_mok am_m159 (1376, 1375, 72, 93) = true := by decide +kernel
theorem am_k160 : am_mok am_m160 (1388, 1387, 75, 93) = true := by decide +kernel
theorem am_k161 : am_mok am_m161 (1384, 1383, 74, 93) = true := by decide +kernel
theorem am_k162 : am_mok am_m162 (1380, 1379, 73, 93) = true := by decide +kernel
theorem am_k163 : am_mok am_m163 (1368, 1367, 70, 93) = true := by decide +kernel
theorem am_k164 : am_mok am_m164 (1401, 1400, 78, 93) = true := by decide +kernel
theorem am_k165 : am_mok am_m165 (1349, 1348, 68, 93) = true := by decide +kernel
theorem am_k166 : am_mok am_m166 (1345, 1344, 67, 93) = true := by decide +kernel
theorem am_k167 : am_mok am_m167 (1405, 1404, 79, 93) = true := by decide +kernel
theorem am_k168 : am_mok am_m168 (1357, 1356, 69, 93) = true := by decide +kernel
theorem am_k169 : am_mok am_m169 (1397, 1396, 77, 93) = true := by decide +kernel
theorem am_k170 : am_mok am_m170 (1409, 1408, 80, 93) = true := by decide +kernel
theorem am_k171 : am_mok am_m171 (1416, 1415, 81, 93) = true := by decide +kernel
theorem am_k172 : am_mok am_m172 (1393, 1392, 76, 93) = true := by decide +kernel
theorem am_k173 : am_mok am_m173 (1353, 1351, 1352, 93) = true := by decide +kernel
theorem am_k174 : am_mok am_m174 (1420, 1418, 1419, 93) = true := by decide +kernel
theorem am_k175 : am_mok am_m175 (1424, 1422, 1423, 93) = true := by decide +kernel
theorem am_k176 : am_mok am_m176 (1428, 1426, 1427, 93) = true := by decide +kernel
theorem am_k177 : am_mok am_m177 (1432, 1430, 1431, 93) = true := by decide +kernel
theorem am_k178 : am_mok am_m178 (1440, 1439, 82, 93) = true := by decide +kernel
theorem am_k179 : am_mok am_m179 (1436, 1434, 1435, 93) = true := by decide +kernel
theorem am_k180 : am_mok am_m180 (1445, 1443, 1444, 93) = true := by decide +kernel
theorem am_k181 : am_mok am_m181 (380, 379, 0, 83) = true := by decide +kernel
theorem am_k182 : am_mok am_m182 (484, 483, 0, 83) = true := by decide +kernel
theorem am_k183 : am_mok am_m183 (795, 794, 0, 83) = true := by decide +kernel
theorem am_k184 : am_mok am_m184 (985, 984, 0, 83) = true := by decide +kernel
theorem am_k185 : am_mok am_m185 (993, 992, 0, 83) = true := by decide +kernel
theorem am_k186 : am_mok am_m186 (1026, 1025, 0, 83) = true := by decide +kernel
theorem am_k187 : am_mok am_m187 (1045, 1044, 0, 83) = true := by decide +kernel
def am_mokw (M : amM) : Prop := am_cdw M ∈ amTb ∧ Cond.initialized (am_y M).cls ∈ amTb ∧ plainName (am_y M).cls = true ∧ (am_y M).cls ≠ "java/lang/invoke/MethodHandle" ∧ (am_y M).cls ≠ "java/lang/invoke/VarHandle" ∧ (parseMethodDescriptor (am_y M).desc).map (fun d => d.parameters.length) = some (am_np M) ∧ am_own M = (am_y M).cls ∧ am_mL M ≤ 40
theorem am_mokw_of {M : amM} {p : Nat × Nat × Nat × Nat} (h : am_mok M p = true) : am_mokw M := by
  simp only [am_mok, Bool.and_eq_true, decide_eq_true_eq] at h
  obtain ⟨⟨⟨⟨⟨⟨⟨h1, h2⟩, h3⟩, h4⟩, h5⟩, h6⟩, h7⟩, h8⟩ := h
  exact ⟨am_wd_in h1, am_wd_in h2, h3, h4, h5, h6, h7, h8⟩
theorem am_kc0 : ∀ M ∈ am_Mc0, M ≠ am_m188 → am_mokw M := List.forall_mem_cons.mpr ⟨fun _ => am_mokw_of am_k0, List.forall_mem_cons.mpr ⟨fun _ => am_mokw_of am_k1, List.forall_mem_cons.mpr ⟨fun _ => am_mokw_of am_k2, List.forall_mem_cons.mpr ⟨fun _ => am_mokw_of am_k3, List.forall_mem_cons.mpr ⟨fun _ => am_mokw_of am_k4, List.forall_mem_cons.mpr ⟨fun _ => am_mokw_of am_k5, List.forall_mem_cons.mpr ⟨fun _ => am_mokw_of am_k6, List.forall_mem_cons.mpr ⟨fun _ => am_mokw_of am_k7, List.forall_mem_cons.mpr ⟨fun _ => am_mokw_of am_k8, List.forall_mem_cons.mpr ⟨fun _ => am_mokw_of am_k9, List.forall_mem_cons.mpr ⟨fun _ => am_mokw_of am_k10, List.forall_mem_cons.mpr ⟨fun _ => am_mokw_of am_k11, List.forall_mem_cons.mpr ⟨fun _ => am_mokw_of am_k12, List.forall_mem_cons.mpr ⟨fun _ => am_mokw_of am_k13, List.forall_mem_cons.mpr ⟨fun _ => am_mokw_of am_k14, List.forall_mem_cons.mpr ⟨fun _ => am_mokw_of am_k15, List.forall_mem_cons.mpr ⟨fun _ => am_mokw_of am_k16, List.forall_mem_cons.mpr ⟨fun _ => am_mokw_of am_k17, List.forall_mem_cons.mpr ⟨fun _ => am_mokw_of am_k18, List.forall_mem_cons.mpr ⟨fun _ => am_mokw_of am_k19, fun _ h => absurd h List.not_mem_nil⟩⟩⟩⟩⟩⟩⟩⟩⟩⟩⟩⟩⟩⟩⟩⟩⟩⟩⟩⟩
theorem am_kc1 : ∀ M ∈ am_Mc1, M ≠ am_m188 → am_mokw M := List.forall_mem_cons.mpr ⟨fun _ => am_mokw_of am_k20, List.forall_mem_cons.mpr ⟨fun _ => am_mokw_of am_k21, List.forall_mem_cons.mpr ⟨fun _ => am_mokw_of am_k22, List.forall_mem_cons.mpr ⟨fun _ => am_mokw_of am_k23, List.forall_mem_cons.mpr ⟨fun _ => am_mokw_of am_k24, List.forall_mem_cons.mpr ⟨fun _ => am_mokw_of am_k25, List.forall_mem_cons.mpr ⟨fun _ => am_mokw_of am_k26, List.forall_mem_cons.mpr ⟨fun _ => am_mokw_of am_k27, List.forall_mem_cons.mpr ⟨fun _ => am_mokw_of am_k28, List.forall_mem_cons.mpr ⟨fun _ => am_mokw_of am_k29, List.forall_mem_cons.mpr ⟨fun _ => am_mokw_of am_k30, List.forall_mem_cons.mpr ⟨fun _ => am_mokw_of am_k31, List.forall_mem_cons.mpr ⟨fun _ => am_mokw_of am_k32, List.forall_mem_cons.mpr ⟨fun _ => am_mokw_of am_k33, List.forall_mem_cons.mpr ⟨fun _ => am_mokw_of am_k34, List.forall_mem_cons.mpr ⟨fun _ => am_mokw_of am_k35, List.forall_mem_cons.mpr ⟨fun _ => am_mokw_of am_k36, List.forall_mem_cons.mpr ⟨fun _ => am_mokw_of am_k37, List.forall_mem_cons.mpr ⟨fun _ => am_mokw_of am_k38, List.forall_mem_cons.mpr ⟨fun _ => am_mokw_of am_k39, fun _ h => absurd h List.not_mem_nil⟩⟩⟩⟩⟩⟩⟩⟩⟩⟩⟩⟩⟩⟩⟩⟩⟩⟩⟩⟩
theorem am_kc2 : ∀ M ∈ am_Mc2, M ≠ am_m188 → am_mokw M := List.forall_mem_cons.mpr ⟨fun _ => am_mokw_of am_k40, List.forall_mem_cons.mpr ⟨fun _ => am_mokw_of am_k41, List.forall_mem_cons.mpr ⟨fun _ => am_mokw_of am_k42, List.forall_mem_cons.mpr ⟨fun _ => am_mokw_of am_k43, List.forall_mem_cons.mpr ⟨fun _ => am_mokw_of am_k44, List.forall_mem_cons.mpr ⟨fun _ => am_mokw_of am_k45, List.forall_mem_cons.mpr ⟨fun _ => am_mokw_of am_k46, List.forall_mem_cons.mpr ⟨fun _ => am_mokw_of am_k47, List.forall_mem_cons.mpr ⟨fun _ => am_mokw_of am_k48, List.forall_mem_cons.mpr ⟨fun _ => am_mokw_of am_k49, List.forall_mem_cons.mpr ⟨fun _ => am_mokw_of am_k50, List.forall_mem_cons.mpr ⟨fun _ => am_mokw_of am_k51, List.forall_mem_cons.mpr ⟨fun _ => am_mokw_of am_k52, List.forall_mem_cons.mpr ⟨fun _ => am_mokw_of am_k53, List.forall_mem_cons.mpr ⟨fun _ => am_mokw_of am_k54, List.forall_mem_cons.mpr ⟨fun _ => am_mokw_of am_k55, List.forall_mem_cons.mpr ⟨fun _ => am_mokw_of am_k56, List.forall_mem_cons.mpr ⟨fun _ => am_mokw_of am_k57, List.forall_mem_cons.mpr ⟨fun _ => am_mokw_of am_k58, List.forall_mem_cons.mpr ⟨fun _ => am_mokw_of am_k59, fun _ h => absurd h List.not_mem_nil⟩⟩⟩⟩⟩⟩⟩⟩⟩⟩⟩⟩⟩⟩⟩⟩⟩⟩⟩⟩
theorem am_kc3 : ∀ M ∈ am_Mc3, M ≠ am_m188 → am_mokw M := List.forall_mem_cons.mpr ⟨fun _ => am_mokw_of am_k60, List.forall_mem_cons.mpr ⟨fun _ => am_mokw_of am_k61, List.forall_mem_cons.mpr ⟨fun _ => am_mokw_of am_k62, List.forall_mem_cons.mpr ⟨fun _ => am_mokw_of am_k63, List.forall_mem_cons.mpr ⟨fun _ => am_mokw_of am_k64, List.forall_mem_cons.mpr ⟨fun _ => am_mokw_of am_k65, List.forall_mem_cons.mpr ⟨fun _ => am_mokw_of am_k66, List.forall_mem_cons.mpr ⟨fun _ => am_mokw_of am_k67, List.forall_mem_cons.mpr ⟨fun _ => am_mokw_of am_k68, List.forall_mem_cons.mpr ⟨fun _ => am_mokw_of am_k69, List.forall_mem_cons.mpr ⟨fun _ => am_mokw_of am_k70, List.forall_mem_cons.mpr ⟨fun _ => am_mokw_of am_k71, List.forall_mem_cons.mpr ⟨fun _ => am_mokw_of am_k72, List.forall_mem_cons.mpr ⟨fun _ => am_mokw_of am_k73, List.forall_mem_cons.mpr ⟨fun _ => am_mokw_of am_k74, List.forall_mem_cons.mpr ⟨fun _ => am_mokw_of am_k75, List.forall_mem_cons.mpr ⟨fun _ => am_mokw_of am_k76, List.forall_mem_cons.mpr ⟨fun _ => am_mokw_of am_k77, List.forall_mem_cons.mpr ⟨fun _ => am_mokw_of am_k78, List.forall_mem_cons.mpr ⟨fun _ => am_mokw_of am_k79, fun _ h => absurd h List.not_mem_nil⟩⟩⟩⟩⟩⟩⟩⟩⟩⟩⟩⟩⟩⟩⟩⟩⟩⟩⟩⟩
theorem am_kc4 : ∀ M ∈ am_Mc4, M ≠ am_m188 → am_mokw M := List.forall_mem_cons.mpr ⟨fun _ => am_mokw_of am_k80, List.forall_mem_cons.mpr ⟨fun _ => am_mokw_of am_k81, List.forall_mem_cons.mpr ⟨fun _ => am_mokw_of am_k82, List.forall_mem_cons.mpr ⟨fun _ => am_mokw_of am_k83, List.forall_mem_cons.mpr ⟨fun _ => am_mokw_of am_k84, List.forall_mem_cons.mpr ⟨fun _ => am_mokw_of am_k85, List.forall_mem_cons.mpr ⟨fun _ => am_mokw_of am_k86, List.forall_mem_cons.mpr ⟨fun _ => am_mokw_of am_k87, List.forall_mem_cons.mpr ⟨fun _ => am_mokw_of am_k88, List.forall_mem_cons.mpr ⟨fun _ => am_mokw_of am_k89, List.forall_mem_cons.mpr ⟨fun _ => am_mokw_of am_k90, List.forall_mem_cons.mpr ⟨fun _ => am_mokw_of am_k91, List.forall_mem_cons.mpr ⟨fun _ => am_mokw_of am_k92, List.forall_mem_cons.mpr ⟨fun _ => am_mokw_of am_k93, List.forall_mem_cons.mpr ⟨fun _ => am_mokw_of am_k94, List.forall_mem_cons.mpr ⟨fun _ => am_mokw_of am_k95, List.forall_mem_cons.mpr ⟨fun _ => am_mokw_of am_k96, List.forall_mem_cons.mpr ⟨fun _ => am_mokw_of am_k97, List.forall_mem_cons.mpr ⟨fun _ => am_mokw_of am_k98, List.forall_mem_cons.mpr ⟨fun _ => am_mokw_of am_k99, fun _ h => absurd h List.not_mem_nil⟩⟩⟩⟩⟩⟩⟩⟩⟩⟩⟩⟩⟩⟩⟩⟩⟩⟩⟩⟩
theorem am_kc5 : ∀ M ∈ am_Mc5, M ≠ am_m188 → am_mokw M := List.forall_mem_cons.mpr ⟨fun _ => am_mokw_of am_k100, List.forall_mem_cons.mpr ⟨fun _ => am_mokw_of am_k101, List.forall_mem_cons.mpr ⟨fun _ => am_mokw_of am_k102, List.forall_mem_cons.mpr ⟨fun _ => am_mokw_of am_k103, List.forall_mem_cons.mpr ⟨fun _ => am_mokw_of am_k104, List.forall_mem_cons.mpr ⟨fun _ => am_mokw_of am_k105, List.forall_mem_cons.mpr ⟨fun _ => am_mokw_of am_k106, List.forall_mem_cons.mpr ⟨fun _ => am_mokw_of am_k107, List.forall_mem_cons.mpr ⟨fun _ => am_mokw_of am_k108, List.forall_mem_cons.mpr ⟨fun _ => am_mokw_of am_k109, List.forall_mem_cons.mpr ⟨fun _ => am_mokw_of am_k110, List.forall_mem_cons.mpr ⟨fun _ => am_mokw_of am_k111, List.forall_mem_cons.mpr ⟨fun _ => am_mokw_of am_k112, List.forall_mem_cons.mpr ⟨fun _ => am_mokw_of am_k113, List.forall_mem_cons.mpr ⟨fun _ => am_mokw_of am_k114, List.forall_mem_cons.mpr ⟨fun _ => am_mokw_of am_k115, List.forall_mem_cons.mpr ⟨fun _ => am_mokw_of am_k116, List.forall_mem_cons.mpr ⟨fun _ => am_mokw_of am_k117, List.forall_mem_cons.mpr ⟨fun _ => am_mokw_of am_k118, List.forall_mem_cons.mpr ⟨fun _ => am_mokw_of am_k119, fun _ h => absurd h List.not_mem_nil⟩⟩⟩⟩⟩⟩⟩⟩⟩⟩⟩⟩⟩⟩⟩⟩⟩⟩⟩⟩
theorem am_kc6 : ∀ M ∈ am_Mc6, M ≠ am_m188 → am_mokw M := List.forall_mem_cons.mpr ⟨fun _ => am_mokw_of am_k120, List.forall_mem_cons.mpr ⟨fun _ => am_mokw_of am_k121, List.forall_mem_cons.mpr ⟨fun _ => am_mokw_of am_k122, List.forall_mem_cons.mpr ⟨fun _ => am_mokw_of am_k123, List.forall_mem_cons.mpr ⟨fun _ => am_mokw_of am_k124, List.forall_mem_cons.mpr ⟨fun _ => am_mokw_of am_k125, List.forall_mem_cons.mpr ⟨fun _ => am_mokw_of am_k126, List.forall_mem_cons.mpr ⟨fun _ => am_mokw_of am_k127, List.forall_mem_cons.mpr ⟨fun _ => am_mokw_of am_k128, List.forall_mem_cons.mpr ⟨fun _ => am_mokw_of am_k129, List.forall_mem_cons.mpr ⟨fun _ => am_mokw_of am_k130, List.forall_mem_cons.mpr ⟨fun _ => am_mokw_of am_k131, List.forall_mem_cons.mpr ⟨fun _ => am_mokw_of am_k132, List.forall_mem_cons.mpr ⟨fun _ => am_mokw_of am_k133, List.forall_mem_cons.mpr ⟨fun _ => am_mokw_of am_k134, List.forall_mem_cons.mpr ⟨fun _ => am_mokw_of am_k135, List.forall_mem_cons.mpr ⟨fun _ => am_mokw_of am_k136, List.forall_mem_cons.mpr ⟨fun _ => am_mokw_of am_k137, List.forall_mem_cons.mpr ⟨fun _ => am_mokw_of am_k138, List.forall_mem_cons.mpr ⟨fun _ => am_mokw_of am_k139, fun _ h => absurd h List.not_mem_nil⟩⟩⟩⟩⟩⟩⟩⟩⟩⟩⟩⟩⟩⟩⟩⟩⟩⟩⟩⟩
theorem am_kc7 : ∀ M ∈ am_Mc7, M ≠ am_m188 → am_mokw M := List.forall_mem_cons.mpr ⟨fun _ => am_mokw_of am_k140, List.forall_mem_cons.mpr ⟨fun _ => am_mokw_of am_k141, List.forall_mem_cons.mpr ⟨fun _ => am_mokw_of am_k142, List.forall_mem_cons.mpr ⟨fun _ => am_mokw_of am_k143, List.forall_mem_cons.mpr ⟨fun _ => am_mokw_of am_k144, List.forall_mem_cons.mpr ⟨fun _ => am_mokw_of am_k145, List.forall_mem_cons.mpr ⟨fun _ => am_mokw_of am_k146, List.forall_mem_cons.mpr ⟨fun _ => am_mokw_of am_k147, List.forall_mem_cons.mpr ⟨fun _ => am_mokw_of am_k148, List.forall_mem_cons.mpr ⟨fun _ => am_mokw_of am_k149, List.forall_mem_cons.mpr ⟨fun _ => am_mokw_of am_k150, List.forall_mem_cons.mpr ⟨fun _ => am_mokw_of am_k151, List.forall_mem_cons.mpr ⟨fun _ => am_mokw_of am_k152, List.forall_mem_cons.mpr ⟨fun _ => am_mokw_of am_k153, List.forall_mem_cons.mpr ⟨fun _ => am_mokw_of am_k154, List.forall_mem_cons.mpr ⟨fun _ => am_mokw_of am_k155, List.forall_mem_cons.mpr ⟨fun _ => am_mokw_of am_k156, List.forall_mem_cons.mpr ⟨fun _ => am_mokw_of am_k157, List.forall_mem_cons.mpr ⟨fun _ => am_mokw_of am_k158, List.forall_mem_cons.mpr ⟨fun _ => am_mokw_of am_k159, fun _ h => absurd h List.not_mem_nil⟩⟩⟩⟩⟩⟩⟩⟩⟩⟩⟩⟩⟩⟩⟩⟩⟩⟩⟩⟩
theorem am_kc8 : ∀ M ∈ am_Mc8, M ≠ am_m188 → am_mokw M := List.forall_mem_cons.mpr ⟨fun _ => am_mokw_of am_k160, List.forall_mem_cons.mpr ⟨fun _ => am_mokw_of am_k161, List.forall_mem_cons.mpr ⟨fun _ => am_mokw_of am_k162, List.forall_mem_cons.mpr ⟨fun _ => am_mokw_of am_k163, List.forall_mem_cons.mpr ⟨fun _ => am_mokw_of am_k164, List.forall_mem_cons.mpr ⟨fun _ => am_mokw_of am_k165, List.forall_mem_cons.mpr ⟨fun _ => am_mokw_of am_k166, List.forall_mem_cons.mpr ⟨fun _ => am_mokw_of am_k167, List.forall_mem_cons.mpr ⟨fun _ => am_mokw_of am_k168, List.forall_mem_cons.mpr ⟨fun _ => am_mokw_of am_k169, List.forall_mem_cons.mpr ⟨fun _ => am_mokw_of am_k170, List.forall_mem_cons.mpr ⟨fun _ => am_mokw_of am_k171, List.forall_mem_cons.mpr ⟨fun _ => am_mokw_of am_k172, List.forall_mem_cons.mpr ⟨fun _ => am_mokw_of am_k173, List.forall_mem_cons.mpr ⟨fun _ => am_mokw_of am_k174, List.forall_mem_cons.mpr ⟨fun _ => am_mokw_of am_k175, List.forall_mem_cons.mpr ⟨fun _ => am_mokw_of am_k176, List.forall_mem_cons.mpr ⟨fun _ => am_mokw_of am_k177, List.forall_mem_cons.mpr ⟨fun _ => am_mokw_of am_k178, List.forall_mem_cons.mpr ⟨fun _ => am_mokw_of am_k179, fun _ h => absurd h List.not_mem_nil⟩⟩⟩⟩⟩⟩⟩⟩⟩⟩⟩⟩⟩⟩⟩⟩⟩⟩⟩⟩
theorem am_kc9 : ∀ M ∈ am_Mc9, M ≠ am_m188 → am_mokw M := List.forall_mem_cons.mpr ⟨fun _ => am_mokw_of am_k180, List.forall_mem_cons.mpr ⟨fun _ => am_mokw_of am_k181, List.forall_mem_cons.mpr ⟨fun _ => am_mokw_of am_k182, List.forall_mem_cons.mpr ⟨fun _ => am_mokw_of am_k183, List.forall_mem_cons.mpr ⟨fun _ => am_mokw_of am_k184, List.forall_mem_cons.mpr ⟨fun _ => am_mokw_of am_k185, List.forall_mem_cons.mpr ⟨fun _ => am_mokw_of am_k186, List.forall_mem_cons.mpr ⟨fun _ => am_mokw_of am_k187, List.forall_mem_cons.mpr ⟨fun h => absurd rfl h, fun _ h => absurd h List.not_mem_nil⟩⟩⟩⟩⟩⟩⟩⟩⟩
theorem am_k_all : ∀ M ∈ am_Ms, M ≠ am_m188 → am_mokw M := List.forall_mem_append.mpr ⟨am_kc0, List.forall_mem_append.mpr ⟨am_kc1, List.forall_mem_append.mpr ⟨am_kc2, List.forall_mem_append.mpr ⟨am_kc3, List.forall_mem_append.mpr ⟨am_kc4, List.forall_mem_append.mpr ⟨am_kc5, List.forall_mem_append.mpr ⟨am_kc6, List.forall_mem_append.mpr ⟨am_kc7, List.forall_mem_append.mpr ⟨am_kc8, am_kc9⟩⟩⟩⟩⟩⟩⟩⟩⟩
end
section
theorem am_c0 : (am_cd am_m0).all (am_chk am_m0) = true := by decide +kernel
theorem am_c1 : (am_cd am_m1).all (am_chk am_m1) = true := by decide +kernel
theorem am_c2 : (am_cd am_m2).all (am_chk am_m2) = true := by decide +kernel
theorem am_c3 : (am_cd am_m3).all (am_chk am_m3) = true := by decide +kernel
theorem am_c4 : (am_cd am_m4).all (am_chk am_m4) = true := by decide +kernel
theorem am_c5 : (am_cd am_m5).all (am_chk am_m5) = true := by decide +kernel
theorem am_c6 : (am_cd am_m6).all (am_chk am_m6) = true := by decide +kernel
theorem am_c7 : (am_cd am_m7).all (am_chk am_m7) = true := by decide +kernel
theorem am_c8 : (am_cd am_m8).all (am_chk am_m8) = true := by decide +kernel
theorem am_c9 : (am_cd am_m9).all (am_chk am_m9) = true := by decide +kernel
theorem am_c10 : (am_cd am_m10).all (am_chk am_m10) = true := by decide +kernel
theorem am_c11 : (am_cd am_m11).all (am_chk am_m11) = true := by decide +kernel
theorem am_c12 : (am_cd am_m12).all (am_chk am_m12) = true := by decide +kernel
theorem am_c13 : (am_cd am_m13).all (am_chk am_m13) = true := by decide +kernel
theorem am_c14 : (am_cd am_m14).all (am_chk am_m14) = true := by decide +kernel
theorem am_c15 : (am_cd am_m15).all (am_chk am_m15) = true := by decide +kernel
theorem am_c16 : (am_cd am_m16).all (am_chk am_m16) = true := by decide +kernel
theorem am_c17 : (am_cd am_m17).all (am_chk am_m17) = true := by decide +kernel
theorem am_c18 : (am_cd am_m18).all (am_chk am_m18) = true := by decide +kernel
theorem am_c19 : (am_cd am_m19).all (am_chk am_m19) = true := by decide +kernel
theorem am_c20 : (am_cd am_m20).all (am_chk am_m20) = true := by decide +kernel
theorem am_c21 : (am_cd am_m21).all (am_chk am_m21) = true := by decide +kernel
theorem am_c22 : (am_cd am_m22).all (am_chk am_m22) = true := by decide +kernel
theorem am_c23 : (am_cd am_m23).all (am_chk am_m23) = true := by decide +kernel
theorem am_c24 : (am_cd am_m24).all (am_chk am_m24) = true := by decide +kernel
theorem am_c25 : (am_cd am_m25).all (am_chk am_m25) = true := by decide +kernel
theorem am_c26 : (am_cd am_m26).all (am_chk am_m26) = true := by decide +kernel
theorem am_c27 : (am_cd am_m27).all (am_chk am_m27) = true := by decide +kernel
theorem am_c28 : (am_cd am_m28).all (am_chk am_m28) = true := by decide +kernel
theorem am_c29 : (am_cd am_m29).all (am_chk am_m29) = true := by decide +kernel
theorem am_c30 : (am_cd am_m30).all (am_chk am_m30) = true := by decide +kernel
theorem am_c31 : (am_cd am_m31).all (am_chk am_m31) = true := by decide +kernel
theorem am_c32 : (am_cd am_m32).all (am_chk am_m32) = true := by decide +kernel
theorem am_c33 : (am_cd am_m33).all (am_chk am_m33) = true := by decide +kernel
theorem am_c34 : (am_cd am_m34).all (am_chk am_m34) = true := by decide +kernel
theorem am_c35 : (am_cd am_m35).all (am_chk am_m35) = true := by decide +kernel
theorem am_c36 : (am_cd am_m36).all (am_chk am_m36) = true := by decide +kernel
theorem am_c37 : (am_cd am_m37).all (am_chk am_m37) = true := by decide +kernel
theorem am_c38 : (am_cd am_m38).all (am_chk am_m38) = true := by decide +kernel
theorem am_c39 : (am_cd am_m39).all (am_chk am_m39) = true := by decide +kernel
theorem am_c40 : (am_cd am_m40).all (am_chk am_m40) = true := by decide +kernel
theorem am_c41 : (am_cd am_m41).all (am_chk am_m41) = true := by decide +kernel
theorem am_c42 : (am_cd am_m42).all (am_chk am_m42) = true := by decide +kernel
theorem am_c43 : (am_cd am_m43).all (am_chk am_m43) = true := by decide +kernel
theorem am_c44 : (am_cd am_m44).all (am_chk am_m44) = true := by decide +kernel
theorem am_c45 : (am_cd am_m45).all (am_chk am_m45) = true := by decide +kernel
theorem am_c46 : (am_cd am_m46).all (am_chk am_m46) = true := by decide +kernel
theorem am_c47 : (am_cd am_m47).all (am_chk am_m47) = true := by decide +kernel
theorem am_c48 : (am_cd am_m48).all (am_chk am_m48) = true := by decide +kernel
theorem am_c49 : (am_cd am_m49).all (am_chk am_m49) = true := by decide +kernel
theorem am_c50 : (am_cd am_m50).all (am_chk am_m50) = true := by decide +kernel
theorem am_c51 : (am_cd am_m51).all (am_chk am_m51) = true := by decide +kernel
theorem am_c52 : (am_cd am_m52).all (am_chk am_m52) = true := by decide +kernel
theorem am_c53 : (am_cd am_m53).all (am_chk am_m53) = true := by decide +kernel
theorem am_c54 : (am_cd am_m54).all (am_chk am_m54) = true := by decide +kernel
theorem am_c55 : (am_cd am_m55).all (am_chk am_m55) = true := by decide +kernel
theorem am_c56 : (am_cd am_m56).all (am_chk am_m56) = true := by decide +kernel
theorem am_c57 : (am_cd am_m57).all (am_chk am_m57) = true := by decide +kernel
theorem am_c58 : (am_cd am_m58).all (am_chk am_m58) = true := by decide +kernel
theorem am_c59 : (am_cd am_m59).all (am_chk am_m59) = true := by decide +kernel
theorem am_c60 : (am_cd am_m60).all (am_chk am_m60) = true := by decide +kernel
theorem am_c61 : (am_cd am_m61).all (am_chk am_m61) = true := by decide +kernel
theorem am_c62 : (am_cd am_m62).all (am_chk am_m62) = true := by decide +kernel
theorem am_c63 : (am_cd am_m63).all (am_chk am_m63) = true := by decide +kernel
theorem am_c64 : (am_cd am_m64).all (am_chk am_m64) = true := by decide +kernel
theorem am_c65 : (am_cd am_m65).all (am_chk am_m65) = true := by decide +kernel
theorem am_c66 : (am_cd am_m66).all (am_chk am_m66) = true := by decide +kernel
theorem am_c67 : (am_cd am_m67).all (am_chk am_m67) = true := by decide +kernel
theorem am_c68 : (am_cd am_m68).all (am_chk am_m68) = true := by decide +kernel
theorem am_c69 : (am_cd am_m69).all (am_chk am_m69) = true := by decide +kernel
theorem am_c70 : (am_cd am_m70).all (am_chk am_m70) = true := by decide +kernel
theorem am_c71 : (am_cd am_m71).all (am_chk am_m71) = true := by decide +kernel
theorem am_c72 : (am_cd am_m72).all (am_chk am_m72) = true := by decide +kernel
theorem am_c73 : (am_cd am_m73).all (am_chk am_m73) = true := by decide +kernel
theorem am_c74 : (am_cd am_m74).all (am_chk am_m74) = true := by decide +kernel
theorem am_c75 : (am_cd am_m75).all (am_chk am_m75) = true := by decide +kernel
theorem am_c76 : (am_cd am_m76).all (am_chk am_m76) = true := by decide +kernel
theorem am_c77 : (am_cd am_m77).all (am_chk am_m77) = true := by decide +kernel
theorem am_c78 : (am_cd am_m78).all (am_chk am_m78) = true := by decide +kernel
theorem am_c79 : (am_cd am_m79).all (am_chk am_m79) = true := by decide +kernel
theorem am_c80 : (am_cd am_m80).all (am_chk am_m80) = true := by decide +kernel
theorem am_c81 : (am_cd am_m81).all (am_chk am_m81) = true := by decide +kernel
theorem am_c82 : (am_cd am_m82).all (am_chk am_m82) = true := by decide +kernel
theorem am_c83 : (am_cd am_m83).all (am_chk am_m83) = true := by decide +kernel
theorem am_c84 : (am_cd am_m84).all (am_chk am_m84) = true := by decide +kernel
theorem am_c85 : (am_cd am_m85).all (am_chk am_m85) = true := by decide +kernel
theorem am_c86 : (am_cd am_m86).all (am_chk am_m86) = true := by decide +kernel
theorem am_c87 : (am_cd am_m87).all (am_chk am_m87) = true := by decide +kernel
theorem am_c88 : (am_cd am_m88).all (am_chk am_m88) = true := by decide +kernel
theorem am_c89 : (am_cd am_m89).all (am_chk am_m89) = true := by decide +kernel
theorem am_c90 : (am_cd am_m90).all (am_chk am_m90) = true := by decide +kernel
theorem am_c91 : (am_cd am_m91).all (am_chk am_m91) = true := by decide +kernel
theorem am_c92 : (am_cd am_m92).all (am_chk am_m92) = true := by decide +kernel
theorem am_c93 : (am_cd am_m93).all (am_chk am_m93) = true := by decide +kernel
theorem am_c94 : (am_cd am_m94).all (am_chk am_m94) = true := by decide +kernel
theorem am_c95 : (am_cd am_m95).all (am_chk am_m95) = true := by decide +kernel
theorem am_c96 : (am_cd am_m96).all (am_chk am_m96) = true := by decide +kernel
theorem am_c97 : (am_cd am_m97).all (am_chk am_m97) = true := by decide +kernel
theorem am_c98 : (am_cd am_m98).all (am_chk am_m98) = true := by decide +kernel
theorem am_c99 : (am_cd am_m99).all (am_chk am_m99) = true := by decide +kernel
theorem am_c100 : (am_cd am_m100).all (am_chk am_m100) = true := by decide +kernel
theorem am_c101 : (am_cd am_m101).all (am_chk am_m101) = true := by decide +kernel
theorem am_c102 : (am_cd am_m102).all (am_chk am_m102) = true := by decide +kernel
theorem am_c103 : (am_cd am_m103).all (am_chk am_m103) = true := by decide +kernel
theorem am_c104 : (am_cd am_m104).all (am_chk am_m104) = true := by decide +kernel
theorem am_c105 : (am_cd am_m105).all (am_chk am_m105) = true := by decide +kernel
theorem am_c106 : (am_cd am_m106).all (am_chk am_m106) = true := by decide +kernel
theorem am_c107 : (am_cd am_m107).all (am_chk am_m107) = true := by decide +kernel
theorem am_c108 : (am_cd am_m108).all (am_chk am_m108) = true := by decide +kernel
theorem am_c109 : (am_cd am_m109).all (am_chk am_m109) = true := by decide +kernel
theorem am_c110 : (am_cd am_m110).all (am_chk am_m110) = true := by decide +kernel
theorem am_c111 : (am_cd am_m111).all (am_chk am_m111) = true := by decide +kernel
theorem am_c112 : (am_cd am_m112).all (am_chk am_m112) = true := by decide +kernel
theorem am_c113 : (am_cd am_m113).all (am_chk am_m113) = true := by decide +kernel
theorem am_c114 : (am_cd am_m114).all (am_chk am_m114) = true := by decide +kernel
theorem am_c115 : (am_cd am_m115).all (am_chk am_m115) = true := by decide +kernel
theorem am_c116 : (am_cd am_m116).all (am_chk am_m116) = true := by decide +kernel
theorem am_c117 : (am_cd am_m117).all (am_chk am_m117) = true := by decide +kernel
theorem am_c118 : (am_cd am_m118).all (am_chk am_m118) = true := by decide +kernel
theorem am_c119 : (am_cd am_m119).all (am_chk am_m119) = true := by decide +kernel
theorem am_c120 : (am_cd am_m120).all (am_chk am_m120) = true := by decide +kernel
theorem am_c121 : (am_cd am_m121).all (am_chk am_m121) = true := by decide +kernel
theorem am_c122 : (am_cd am_m122).all (am_chk am_m122) = true := by decide +kernel
theorem am_c123 : (am_cd am_m123).all (am_chk am_m123) = true := by decide +kernel
theorem am_c124 : (am_cd am_m124).all (am_chk am_m124) = true := by decide +kernel
theorem am_c125 : (am_cd am_m125).all (am_chk am_m125) = true := by decide +kernel
theorem am_c126 : (am_cd am_m126).all (am_chk am_m126) = true := by decide +kernel
theorem am_c127 : (am_cd am_m127).all (am_chk am_m127) = true := by decide +kernel
theorem am_c128 : (am_cd am_m128).all (am_chk am_m128) = true := by decide +kernel
theorem am_c129 : (am_cd am_m129).all (am_chk am_m129) = true := by decide +kernel
theorem am_c130 : (am_cd am_m130).all (am_chk am_m130) = true := by decide +kernel
theorem am_c131 : (am_cd am_m131).all (am_chk am_m131) = true := by decide +kernel
theorem am_c132 : (am_cd am_m132).all (am_chk am_m132) = true := by decide +kernel
theorem am_c133 : (am_cd am_m133).all (am_chk am_m133) = true := by decide +kernel
theorem am_c134 : (am_cd am_m134).all (am_chk am_m134) = true := by decide +kernel
theorem am_c135 : (am_cd am_m135).all (am_chk am_m135) = true := by decide +kernel
theorem am_c136 : (am_cd am_m136).all (am_chk am_m136) = true := by decide +kernel
theorem am_c137 : (am_cd am_m137).all (am_chk am_m137) = true := by decide +kernel
theorem am_c138 : (am_cd am_m138).all (am_chk am_m138) = true := by decide +kernel
theorem am_c139 : (am_cd am_m139).all (am_chk am_m139) = true := by decide +kernel
theorem am_c140 : (am_cd am_m140).all (am_chk am_m140) = true := by decide +kernel
theorem am_c141 : (am_cd am_m141).all (am_chk am_m141) = true := by decide +kernel
theorem am_c142 : (am_cd am_m142).all (am_chk am_m142) = true := by decide +kernel
theorem am_c143 : (am_cd am_m143).all (am_chk am_m143) = true := by decide +kernel
theorem am_c144 : (am_cd am_m144).all (am_chk am_m144) = true := by decide +kernel
theorem am_c145 : (am_cd am_m145).all (am_chk am_m145) = true := by decide +kernel
theorem am_c146 : (am_cd am_m146).all (am_chk am_m146) = true := by decide +kernel
theorem am_c147 : (am_cd am_m147).all (am_chk am_m147) = true := by decide +kernel
theorem am_c148 : (am_cd am_m148).all (am_chk am_m148) = true := by decide +kernel
theorem am_c149 : (am_cd am_m149).all (am_chk am_m149) = true := by decide +kernel
theorem am_c150 : (am_cd am_m150).all (am_chk am_m150) = true := by decide +kernel
theorem am_c151 : (am_cd am_m151).all (am_chk am_m151) = true := by decide +kernel
theorem am_c152 : (am_cd am_m152).all (am_chk am_m152) = true := by decide +kernel
theorem am_c153 : (am_cd am_m153).all (am_chk am_m153) = true := by decide +kernel
theorem am_c154 : (am_cd am_m154).all (am_chk am_m154) = true := by decide +kernel
theorem am_c155 : (am_cd am_m155).all (am_chk am_m155) = true := by decide +kernel
theorem am_c156 : (am_cd am_m156).all (am_chk am_m156) = true := by decide +kernel
theorem am_c157 : (am_cd am_m157).all (am_chk am_m157) = true := by decide +kernel
theorem am_c158 : (am_cd am_m158).all (am_chk am_m158) = true := by decide +kernel
theorem am_c159 : (am_cd am_m159).all (am_chk am_m159) = true := by decide +kernel
theorem am_c160 : (am_cd am_m160).all (am_chk am_m160) = true := by decide +kernel
theorem am_c161 : (am_cd am_m161).all (am_chk am_m161) = true := by decide +kernel
theorem am_c162 : (am_cd am_m162).all (am_chk am_m162) = true := by decide +kernel
theorem am_c163 : (am_cd am_m163).all (am_chk am_m163) = true := by decide +kernel
theorem am_c164 : (am_cd am_m164).all (am_chk am_m164) = true := by decide +kernel
theorem am_c165 : (am_cd am_m165).all (am_chk am_m165) = true := by decide +kernel
theorem am_c166 : (am_cd am_m166).all (am_chk am_m166) = true := by decide +kernel
theorem am_c167 : (am_cd am_m167).all (am_chk am_m167) = true := by decide +kernel
theorem am_c168 : (am_cd am_m168).all (am_chk am_m168) = true := by decide +kernel
theorem am_c169 : (am_cd am_m169).all (am_chk am_m169) = true := by decide +kernel
theorem am_c170 : (am_cd am_m170).all (am_chk am_m170) = true := by decide +kernel
theorem am_c171 : (am_cd am_m171).all (am_chk am_m171) = true := by decide +kernel
theorem am_c172 : (am_cd am_m172).all (am_chk am_m172) = true := by decide +kernel
theorem am_c173 : (am_cd am_m173).all (am_chk am_m173) = true := by decide +kernel
theorem am_c174 : (am_cd am_m174).all (am_chk am_m174) = true := by decide +kernel
theorem am_c175 : (am_cd am_m175).all (am_chk am_m175) = true := by decide +kernel
theorem am_c176 : (am_cd am_m176).all (am_chk am_m176) = true := by decide +kernel
theorem am_c177 : (am_cd am_m177).all (am_chk am_m177) = true := by decide +kernel
theorem am_c178 : (am_cd am_m178).all (am_chk am_m178) = true := by decide +kernel
theorem am_c179 : (am_cd am_m179).all (am_chk am_m179) = true := by decide +kernel
theorem am_c180 : (am_cd am_m180).all (am_chk am_m180) = true := by decide +kernel
theorem am_c181 : (am_cd am_m181).all (am_chk am_m181) = true := by decide +kernel
theorem am_c182 : (am_cd am_m182).all (am_chk am_m182) = true := by decide +kernel
theorem am_c183 : (am_cd am_m183).all (am_chk am_m183) = true := by decide +kernel
theorem am_c184 : (am_cd am_m184).all (am_chk am_m184) = true := by decide +kernel
theorem am_c185 : (am_cd am_m185).all (am_chk am_m185) = true := by decide +kernel
theorem am_c186 : (am_cd am_m186).all (am_chk am_m186) = true := by decide +kernel
theorem am_c187 : (am_cd am_m187).all (am_chk am_m187) = true := by decide +kernel
theorem am_c188 : (am_cd am_m188).all (am_chk am_m188) = true := by decide +kernel
theorem am_cc0 : ∀ M ∈ am_Mc0, (am_cd M).all (am_chk M) = true := (List.forall_mem_cons.mpr ⟨am_c0, List.forall_mem_cons.mpr ⟨am_c1, List.forall_mem_cons.mpr ⟨am_c2, List.forall_mem_cons.mpr ⟨am_c3, List.forall_mem_cons.mpr ⟨am_c4, List.forall_mem_cons.mpr ⟨am_c5, List.forall_mem_cons.mpr ⟨am_c6, List.forall_mem_cons.mpr ⟨am_c7, List.forall_mem_cons.mpr ⟨am_c8, List.forall_mem_cons.mpr ⟨am_c9, List.forall_mem_cons.mpr ⟨am_c10, List.forall_mem_cons.mpr ⟨am_c11, List.forall_mem_cons.mpr ⟨am_c12, List.forall_mem_cons.mpr ⟨am_c13, List.forall_mem_cons.mpr ⟨am_c14, List.forall_mem_cons.mpr ⟨am_c15, List.forall_mem_cons.mpr ⟨am_c16, List.forall_mem_cons.mpr ⟨am_c17, List.forall_mem_cons.mpr ⟨am_c18, List.forall_mem_cons.mpr ⟨am_c19, fun _ h => absurd h List.not_mem_nil⟩⟩⟩⟩⟩⟩⟩⟩⟩⟩⟩⟩⟩⟩⟩⟩⟩⟩⟩⟩)
theorem am_cc1 : ∀ M ∈ am_Mc1, (am_cd M).all (am_chk M) = true := (List.forall_mem_cons.mpr ⟨am_c20, List.forall_mem_cons.mpr ⟨am_c21, List.forall_mem_cons.mpr ⟨am_c22, List.forall_mem_cons.mpr ⟨am_c23, List.forall_mem_cons.mpr ⟨am_c24, List.forall_mem_cons.mpr ⟨am_c25, List.forall_mem_cons.mpr ⟨am_c26, List.forall_mem_cons.mpr ⟨am_c27, List.forall_mem_cons.mpr ⟨am_c28, List.forall_mem_cons.mpr ⟨am_c29, List.forall_mem_cons.mpr ⟨am_c30, List.forall_mem_cons.mpr ⟨am_c31, List.forall_mem_cons.mpr ⟨am_c32, List.forall_mem_cons.mpr ⟨am_c33, List.forall_mem_cons.mpr ⟨am_c34, List.forall_mem_cons.mpr ⟨am_c35, List.forall_mem_cons.mpr ⟨am_c36, List.forall_mem_cons.mpr ⟨am_c37, List.forall_mem_cons.mpr ⟨am_c38, List.forall_mem_cons.mpr ⟨am_c39, fun _ h => absurd h List.not_mem_nil⟩⟩⟩⟩⟩⟩⟩⟩⟩⟩⟩⟩⟩⟩⟩⟩⟩⟩⟩⟩)
theorem am_cc2 : ∀ M ∈ am_Mc2, (am_cd M).all (am_chk M) = true := (List.forall_mem_cons.mpr ⟨am_c40, List.forall_mem_cons.mpr ⟨am_c41, List.forall_mem_cons.mpr ⟨am_c42, List.forall_mem_cons.mpr ⟨am_c43, List.forall_mem_cons.mpr ⟨am_c44, List.forall_mem_cons.mpr ⟨am_c45, List.forall_mem_cons.mpr ⟨am_c46, List.forall_mem_cons.mpr ⟨am_c47, List.forall_mem_cons.mpr ⟨am_c48, List.forall_mem_cons.mpr ⟨am_c49, List.forall_mem_cons.mpr ⟨am_c50, List.forall_mem_cons.mpr ⟨am_c51, List.forall_mem_cons.mpr ⟨am_c52, List.forall_mem_cons.mpr ⟨am_c53, List.forall_mem_cons.mpr ⟨am_c54, List.forall_mem_cons.mpr ⟨am_c55, List.forall_mem_cons.mpr ⟨am_c56, List.forall_mem_cons.mpr ⟨am_c57, List.forall_mem_cons.mpr ⟨am_c58, List.forall_mem_cons.mpr ⟨am_c59, fun _ h => absurd h List.not_mem_nil⟩⟩⟩⟩⟩⟩⟩⟩⟩⟩⟩⟩⟩⟩⟩⟩⟩⟩⟩⟩)
theorem am_cc3 : ∀ M ∈ am_Mc3, (am_cd M).all (am_chk M) = true := (List.forall_mem_cons.mpr ⟨am_c60, List.forall_mem_cons.mpr ⟨am_c61, List.forall_mem_cons.mpr ⟨am_c62, List.forall_mem_cons.mpr ⟨am_c63, List.forall_mem_cons.mpr ⟨am_c64, List.forall_mem_cons.mpr ⟨am_c65, List.forall_mem_cons.mpr ⟨am_c66, List.forall_mem_cons.mpr ⟨am_c67, List.forall_mem_cons.mpr ⟨am_c68, List.forall_mem_cons.mpr ⟨am_c69, List.forall_mem_cons.mpr ⟨am_c70, List.forall_mem_cons.mpr ⟨am_c71, List.forall_mem_cons.mpr ⟨am_c72, List.forall_mem_cons.mpr ⟨am_c73, List.forall_mem_cons.mpr ⟨am_c74, List.forall_mem_cons.mpr ⟨am_c75, List.forall_mem_cons.mpr ⟨am_c76, List.forall_mem_cons.mpr ⟨am_c77, List.forall_mem_cons.mpr ⟨am_c78, List.forall_mem_cons.mpr ⟨am_c79, fun _ h => absurd h List.not_mem_nil⟩⟩⟩⟩⟩⟩⟩⟩⟩⟩⟩⟩⟩⟩⟩⟩⟩⟩⟩⟩)
theorem am_cc4 : ∀ M ∈ am_Mc4, (am_cd M).all (am_chk M) = true := (List.forall_mem_cons.mpr ⟨am_c80, List.forall_mem_cons.mpr ⟨am_c81, List.forall_mem_cons.mpr ⟨am_c82, List.forall_mem_cons.mpr ⟨am_c83, List.forall_mem_cons.mpr ⟨am_c84, List.forall_mem_cons.mpr ⟨am_c85, List.forall_mem_cons.mpr ⟨am_c86, List.forall_mem_cons.mpr ⟨am_c87, List.forall_mem_cons.mpr ⟨am_c88, List.forall_mem_cons.mpr ⟨am_c89, List.forall_mem_cons.mpr ⟨am_c90, List.forall_mem_cons.mpr ⟨am_c91, List.forall_mem_cons.mpr ⟨am_c92, List.forall_mem_cons.mpr ⟨am_c93, List.forall_mem_cons.mpr ⟨am_c94, List.forall_mem_cons.mpr ⟨am_c95, List.forall_mem_cons.mpr ⟨am_c96, List.forall_mem_cons.mpr ⟨am_c97, List.forall_mem_cons.mpr ⟨am_c98, List.forall_mem_cons.mpr ⟨am_c99, fun _ h => absurd h List.not_mem_nil⟩⟩⟩⟩⟩⟩⟩⟩⟩⟩⟩⟩⟩⟩⟩⟩⟩⟩⟩⟩)
theorem am_cc5 : ∀ M ∈ am_Mc5, (am_cd M).all (am_chk M) = true := (List.forall_mem_cons.mpr ⟨am_c100, List.forall_mem_cons.mpr ⟨am_c101, List.forall_mem_cons.mpr ⟨am_c102, List.forall_mem_cons.mpr ⟨am_c103, List.forall_mem_cons.mpr ⟨am_c104, List.forall_mem_cons.mpr ⟨am_c105, List.forall_mem_cons.mpr ⟨am_c106, List.forall_mem_cons.mpr ⟨am_c107, List.forall_mem_cons.mpr ⟨am_c108, List.forall_mem_cons.mpr ⟨am_c109, List.forall_mem_cons.mpr ⟨am_c110, List.forall_mem_cons.mpr ⟨am_c111, List.forall_mem_cons.mpr ⟨am_c112, List.forall_mem_cons.mpr ⟨am_c113, List.forall_mem_cons.mpr ⟨am_c114, List.forall_mem_cons.mpr ⟨am_c115, List.forall_mem_cons.mpr ⟨am_c116, List.forall_mem_cons.mpr ⟨am_c117, List.forall_mem_cons.mpr ⟨am_c118, List.forall_mem_cons.mpr ⟨am_c119, fun _ h => absurd h List.not_mem_nil⟩⟩⟩⟩⟩⟩⟩⟩⟩⟩⟩⟩⟩⟩⟩⟩⟩⟩⟩⟩)
theorem am_cc6 : ∀ M ∈ am_Mc6, (am_cd M).all (am_chk M) = true := (List.forall_mem_cons.mpr ⟨am_c120, List.forall_mem_cons.mpr ⟨am_c121, List.forall_mem_cons.mpr ⟨am_c122, List.forall_mem_cons.mpr ⟨am_c123, List.forall_mem_cons.mpr ⟨am_c124, List.forall_mem_cons.mpr ⟨am_c125, List.forall_mem_cons.mpr ⟨am_c126, List.forall_mem_cons.mpr ⟨am_c127, List.forall_mem_cons.mpr ⟨am_c128, List.forall_mem_cons.mpr ⟨am_c129, List.forall_mem_cons.mpr ⟨am_c130, List.forall_mem_cons.mpr ⟨am_c131, List.forall_mem_cons.mpr ⟨am_c132, List.forall_mem_cons.mpr ⟨am_c133, List.forall_mem_cons.mpr ⟨am_c134, List.forall_mem_cons.mpr ⟨am_c135, List.forall_mem_cons.mpr ⟨am_c136, List.forall_mem_cons.mpr ⟨am_c137, List.forall_mem_cons.mpr ⟨am_c138, List.forall_mem_cons.mpr ⟨am_c139, fun _ h => absurd h List.not_mem_nil⟩⟩⟩⟩⟩⟩⟩⟩⟩⟩⟩⟩⟩⟩⟩⟩⟩⟩⟩⟩)
theorem am_cc7 : ∀ M ∈ am_Mc7, (am_cd M).all (am_chk M) = true := (List.forall_mem_cons.mpr ⟨am_c140, List.forall_mem_cons.mpr ⟨am_c141, List.forall_mem_cons.mpr ⟨am_c142, List.forall_mem_cons.mpr ⟨am_c143, List.forall_mem_cons.mpr ⟨am_c144, List.forall_mem_cons.mpr ⟨am_c145, List.forall_mem_cons.mpr ⟨am_c146, List.forall_mem_cons.mpr ⟨am_c147, List.forall_mem_cons.mpr ⟨am_c148, List.forall_mem_cons.mpr ⟨am_c149, List.forall_mem_cons.mpr ⟨am_c150, List.forall_mem_cons.mpr ⟨am_c151, List.forall_mem_cons.mpr ⟨am_c152, List.forall_mem_cons.mpr ⟨am_c153, List.forall_mem_cons.mpr ⟨am_c154, List.forall_mem_cons.mpr ⟨am_c155, List.forall_mem_cons.mpr ⟨am_c156, List.forall_mem_cons.mpr ⟨am_c157, List.forall_mem_cons.mpr ⟨am_c158, List.forall_mem_cons.mpr ⟨am_c159, fun _ h => absurd h List.not_mem_nil⟩⟩⟩⟩⟩⟩⟩⟩⟩⟩⟩⟩⟩⟩⟩⟩⟩⟩⟩⟩)
theorem am_cc8 : ∀ M ∈ am_Mc8, (am_cd M).all (am_chk M) = true := (List.forall_mem_cons.mpr ⟨am_c160, List.forall_mem_cons.mpr ⟨am_c161, List.forall_mem_cons.mpr ⟨am_c162, List.forall_mem_cons.mpr ⟨am_c163, List.forall_mem_cons.mpr ⟨am_c164, List.forall_mem_cons.mpr ⟨am_c165, List.forall_mem_cons.mpr ⟨am_c166, List.forall_mem_cons.mpr ⟨am_c167, List.forall_mem_cons.mpr ⟨am_c168, List.forall_mem_cons.mpr ⟨am_c169, List.forall_mem_cons.mpr ⟨am_c170, List.forall_mem_cons.mpr ⟨am_c171, List.forall_mem_cons.mpr ⟨am_c172, List.forall_mem_cons.mpr ⟨am_c173, List.forall_mem_cons.mpr ⟨am_c174, List.forall_mem_cons.mpr ⟨am_c175, List.forall_mem_cons.mpr ⟨am_c176, List.forall_mem_cons.mpr ⟨am_c177, List.forall_mem_cons.mpr ⟨am_c178, List.forall_mem_cons.mpr ⟨am_c179, fun _ h => absurd h List.not_mem_nil⟩⟩⟩⟩⟩⟩⟩⟩⟩⟩⟩⟩⟩⟩⟩⟩⟩⟩⟩⟩)
theorem am_cc9 : ∀ M ∈ am_Mc9, (am_cd M).all (am_chk M) = true := (List.forall_mem_cons.mpr ⟨am_c180, List.forall_mem_cons.mpr ⟨am_c181, List.forall_mem_cons.mpr ⟨am_c182, List.forall_mem_cons.mpr ⟨am_c183, List.forall_mem_cons.mpr ⟨am_c184, List.forall_mem_cons.mpr ⟨am_c185, List.forall_mem_cons.mpr ⟨am_c186, List.forall_mem_cons.mpr ⟨am_c187, List.forall_mem_cons.mpr ⟨am_c188, fun _ h => absurd h List.not_mem_nil⟩⟩⟩⟩⟩⟩⟩⟩⟩)
theorem am_chk_all : ∀ M ∈ am_Ms, (am_cd M).all (am_chk M) = true := List.forall_mem_append.mpr ⟨am_cc0, List.forall_mem_append.mpr ⟨am_cc1, List.forall_mem_append.mpr ⟨am_cc2, List.forall_mem_append.mpr ⟨am_cc3, List.forall_mem_append.mpr ⟨am_cc4, List.forall_mem_append.mpr ⟨am_cc5, List.forall_mem_append.mpr ⟨am_cc6, List.forall_mem_append.mpr ⟨am_cc7, List.forall_mem_append.mpr ⟨am_cc8, am_cc9⟩⟩⟩⟩⟩⟩⟩⟩⟩
end
section
theorem am_08 : True := trivial
end
section
/-! AM: a small machine over the same program, its links resolved. A cell: ints or booleans (0 or 1, length, contents), longs, an object (class, fields). A world: the cells, how many exceptions were made, slots. A frame: pc, locals, stack. -/
abbrev amC : Type := (Nat × Nat × (Nat → Int32)) ⊕ (Nat × (Nat → Int64)) ⊕ (Nat × List Value)
abbrev amW : Type := List amC × Nat × Nat
abbrev amF : Type := Nat × List (Nat × Value) × List Value
abbrev amO : Type := Option Value ⊕ Nat
abbrev amX : Type := Nat × (Nat → Int32)
abbrev amR : Type := Option (amF × amW)
def am_ld (lv : List (Nat × Value)) (i : Nat) : Option Value := (lv.find? (fun q => q.1 == i)).map (fun q => q.2)
def am_st1 (lv : List (Nat × Value)) (i : Nat) (v : Value) : List (Nat × Value) := (i, v) :: lv.filter (fun q => !(q.1 == i) && !(q.1 + 1 == i && q.2.category == 2))
def am_st2 (lv : List (Nat × Value)) (i : Nat) (v : Value) : List (Nat × Value) := (i, v) :: lv.filter (fun q => !(q.1 == i) && (!(q.1 == i + 1) && !(q.1 + 1 == i && q.2.category == 2)))
/-- the enum's constants: texts, operands, orders; where a switch over them goes -/
def am_tx : List (List Int32) := [[108, 97, 109, 98, 100, 97], [105, 102], [108, 101, 116], [108, 101, 116, 114, 101, 99], [115, 101, 116, 33], [98, 101, 103, 105, 110], [43], [45], [42], [60], [61], [101, 113, 63], [99, 111, 110, 115], [99, 97, 114], [99, 100, 114], [112, 97, 105, 114, 63], [110, 117, 108, 108, 63], [110, 111, 116], [111, 117, 116], [110, 105, 108]]
def am_opn : List Int32 := [0, 0, 0, 0, 0, 0, 2, 2, 2, 2, 2, 2, 2, 1, 1, 1, 1, 1, 1]
def am_ord : List Int32 := [0, 0, 0, 0, 0, 0, 25, 26, 27, 28, 29, 23, 24, 17, 18, 19, 20, 21, 22]
def am_sw : List Int32 := [1, 2, 3, 4, 5, 6, 0, 0, 0, 0, 0, 0, 0, 0, 0, 0, 0, 0, 0]
/-- the ints of the array a: the script is 2000, the switch's table 1201 -/
def am_ai (X : amX) (w : amW) (a : Nat) : Option amX := if a = 2000 then some X else if a = 1201 then some (19, fun j => am_sw.getD j 0) else match w.1[a]? with
  | some (.inl (0, n, f)) => some (n, f)
  | _ => none
def am_len (X : amX) (w : amW) (a : Nat) : Option Nat := if a = 2000 then some X.1 else if a = 1200 then some 19 else match w.1[a]? with
  | some (.inl (_, n, _)) => some n
  | some (.inr (.inl (n, _))) => some n
  | _ => none
def am_fit (ty : FieldType) (v : Value) : Bool := match ty, v with
  | .int, .int _ => true
  | .long, .long _ => true
  | .boolean, .int x => x == 0 || x == 1
  | .array _, .ref _ => true
  | .object _, .ref _ => true
  | _, _ => false
def am_tys : List (Nat → FieldType) := [tyX1, tyX2, tyX3, tyX4, tyX5, tyX6, tyX7, tyX9, tyX12, tyX13]
def am_ns : List Nat := [4, 10, 5, 15, 9, 2, 6, 4, 3, 58]
def am_ty (c k : Nat) : FieldType := (am_tys.getD c (fun _ => .int)) k
def am_new (c : Nat) : amC := .inr (.inr (c, (List.range (am_ns.getD c 0)).map (fun k => defaultValue (am_ty c k))))
def am_holds (c : ClassFile.Cond) (x y : Int32) : Bool := match c with
  | .eq => decide (x = y)
  | .ne => decide (¬ x = y)
  | .lt => decide (x < y)
  | .ge => decide (y ≤ x)
  | .gt => decide (y < x)
  | .le => decide (x ≤ y)
/-! what an instruction does, by the form of its operands -/
def am_push (len : Nat) (v : Value) (fr : amF) (w : amW) : amR := some ((fr.1 + len, fr.2.1, v :: fr.2.2), w)
def am_iload (len i : Nat) (fr : amF) (w : amW) : amR := match am_ld fr.2.1 i with
  | some (.int x) => am_push len (.int x) fr w
  | _ => none
def am_lload (len i : Nat) (fr : amF) (w : amW) : amR := match am_ld fr.2.1 i with
  | some (.long x) => am_push len (.long x) fr w
  | _ => none
def am_aload (len i : Nat) (fr : amF) (w : amW) : amR := match am_ld fr.2.1 i with
  | some (.ref x) => am_push len (.ref x) fr w
  | some .null => am_push len .null fr w
  | _ => none
def am_istore (mL len i : Nat) (fr : amF) (w : amW) : amR := match fr.2.2 with
  | .int x :: st => if i < mL then some ((fr.1 + len, am_st1 fr.2.1 i (.int x), st), w) else none
  | _ => none
def am_lstore (mL len i : Nat) (fr : amF) (w : amW) : amR := match fr.2.2 with
  | .long x :: st => if i + 1 < mL then some ((fr.1 + len, am_st2 fr.2.1 i (.long x), st), w) else none
  | _ => none
def am_astore (mL len i : Nat) (fr : amF) (w : amW) : amR := match fr.2.2 with
  | .ref x :: st => if i < mL then some ((fr.1 + len, am_st1 fr.2.1 i (.ref x), st), w) else none
  | .null :: st => if i < mL then some ((fr.1 + len, am_st1 fr.2.1 i .null, st), w) else none
  | _ => none
def am_iinc (mL i : Nat) (n : Int) (fr : amF) (w : amW) : amR := match am_ld fr.2.1 i with
  | some (.int x) => if i < mL then some ((fr.1 + 3, am_st1 fr.2.1 i (.int (x + Int32.ofInt n)), fr.2.2), w) else none
  | _ => none
def am_ii (f : Int32 → Int32 → Int32) (fr : amF) (w : amW) : amR := match fr.2.2 with
  | .int y :: .int x :: st => some ((fr.1 + 1, fr.2.1, .int (f x y) :: st), w)
  | _ => none
def am_irem (fr : amF) (w : amW) : amR := match fr.2.2 with
  | .int y :: .int x :: st => if y = 0 then none else some ((fr.1 + 1, fr.2.1, .int (x - x / y * y) :: st), w)
  | _ => none
def am_i1 (f : Int32 → Value) (fr : amF) (w : amW) : amR := match fr.2.2 with
  | .int x :: st => some ((fr.1 + 1, fr.2.1, f x :: st), w)
  | _ => none
def am_l1 (f : Int64 → Value) (fr : amF) (w : amW) : amR := match fr.2.2 with
  | .long x :: st => some ((fr.1 + 1, fr.2.1, f x :: st), w)
  | _ => none
def am_ll (f : Int64 → Int64 → Value) (fr : amF) (w : amW) : amR := match fr.2.2 with
  | .long y :: .long x :: st => some ((fr.1 + 1, fr.2.1, f x y :: st), w)
  | _ => none
def am_li (f : Int64 → Int32 → Int64) (fr : amF) (w : amW) : amR := match fr.2.2 with
  | .int y :: .long x :: st => some ((fr.1 + 1, fr.2.1, .long (f x y) :: st), w)
  | _ => none
def am_dup (fr : amF) (w : amW) : amR := match fr.2.2 with
  | v :: st => if v.category = 1 then some ((fr.1 + 1, fr.2.1, v :: v :: st), w) else none
  | _ => none
def am_dup2 (fr : amF) (w : amW) : amR := match fr.2.2 with
  | v :: st => if v.category = 2 then some ((fr.1 + 1, fr.2.1, v :: v :: st), w) else match st with
    | u :: st => if v.category = 1 ∧ u.category = 1 then some ((fr.1 + 1, fr.2.1, v :: u :: v :: u :: st), w) else none
    | _ => none
  | _ => none
def am_pop (fr : amF) (w : amW) : amR := match fr.2.2 with
  | v :: st => if v.category = 1 then some ((fr.1 + 1, fr.2.1, st), w) else none
  | _ => none
def am_pop2 (fr : amF) (w : amW) : amR := match fr.2.2 with
  | v :: st => if v.category = 2 then some ((fr.1 + 1, fr.2.1, st), w) else none
  | _ => none
def am_if (c : ClassFile.Cond) (t : Int) (fr : amF) (w : amW) : amR := match fr.2.2 with
  | .int x :: st => some ((if am_holds c x 0 then t.toNat else fr.1 + 3, fr.2.1, st), w)
  | _ => none
def am_icmp (c : ClassFile.Cond) (t : Int) (fr : amF) (w : amW) : amR := match fr.2.2 with
  | .int y :: .int x :: st => some ((if am_holds c x y then t.toNat else fr.1 + 3, fr.2.1, st), w)
  | _ => none
def am_ifnn (t : Int) (fr : amF) (w : amW) : amR := match fr.2.2 with
  | .ref _ :: st => some ((t.toNat, fr.2.1, st), w)
  | .null :: st => some ((fr.1 + 3, fr.2.1, st), w)
  | _ => none
def am_table (d lo hi : Int) (ts : Array Int) (fr : amF) (w : amW) : amR := match fr.2.2 with
  | .int x :: st => some ((if x.toInt < lo ∨ hi < x.toInt then d.toNat else (ts.toList.getD (x.toInt - lo).toNat 0).toNat, fr.2.1, st), w)
  | _ => none
/-- fields: 10000 times the way of the link, 100 times the class, the field; 50000 on: of an enum's constant -/
def am_getf (q : Nat) (fr : amF) (w : amW) : amR := match fr.2.2 with
  | .ref a :: st => if 50000 ≤ q then (if 1000 ≤ a ∧ a < 1019 then (if q = 50000 then some ((fr.1 + 3, fr.2.1, .ref (a + 100) :: st), w) else if q = 50001 then some ((fr.1 + 3, fr.2.1, .int (am_opn.getD (a - 1000) 0) :: st), w) else some ((fr.1 + 3, fr.2.1, .int (am_ord.getD (a - 1000) 0) :: st), w)) else none)
    else match w.1[a]? with
    | some (.inr (.inr (c, fs))) => if c = q / 100 % 100 then (match fs[q % 100]? with
      | some v => some ((fr.1 + 3, fr.2.1, v :: st), w)
      | none => none) else none
    | _ => none
  | _ => none
def am_putf (q : Nat) (fr : amF) (w : amW) : amR := match fr.2.2 with
  | v :: .ref a :: st => match w.1[a]? with
    | some (.inr (.inr (c, fs))) => if c = q / 100 % 100 ∧ q % 100 < fs.length ∧ am_fit (am_ty c (q % 100)) v = true then some ((fr.1 + 3, fr.2.1, st), (w.1.set a (.inr (.inr (c, fs.set (q % 100) v))), w.2)) else none
    | _ => none
  | _ => none
def am_gets (q : Nat) (fr : amF) (w : amW) : amR := if q = 0 then am_push 3 (.ref 1200) fr w else if q = 1 then am_push 3 (.ref 1201) fr w else none
def am_alen (X : amX) (fr : amF) (w : amW) : amR := match fr.2.2 with
  | .ref a :: st => match am_len X w a with
    | some n => some ((fr.1 + 1, fr.2.1, .int (Int32.ofNat n) :: st), w)
    | none => none
  | _ => none
def am_iald (X : amX) (fr : amF) (w : amW) : amR := match fr.2.2 with
  | .int i :: .ref a :: st => match am_ai X w a with
    | some (n, f) => if i < 0 ∨ n ≤ i.toNatClampNeg then none else some ((fr.1 + 1, fr.2.1, .int (f i.toNatClampNeg) :: st), w)
    | none => none
  | _ => none
def am_lald (fr : amF) (w : amW) : amR := match fr.2.2 with
  | .int i :: .ref a :: st => match w.1[a]? with
    | some (.inr (.inl (n, f))) => if i < 0 ∨ n ≤ i.toNatClampNeg then none else some ((fr.1 + 1, fr.2.1, .long (f i.toNatClampNeg) :: st), w)
    | _ => none
  | _ => none
def am_zald (fr : amF) (w : amW) : amR := match fr.2.2 with
  | .int i :: .ref a :: st => match w.1[a]? with
    | some (.inl (1, n, f)) => if i < 0 ∨ n ≤ i.toNatClampNeg then none else some ((fr.1 + 1, fr.2.1, .int (f i.toNatClampNeg) :: st), w)
    | _ => none
  | _ => none
def am_aald (fr : amF) (w : amW) : amR := match fr.2.2 with
  | .int i :: .ref a :: st => if a = 1200 ∧ ¬ (i < 0 ∨ 19 ≤ i.toNatClampNeg) then some ((fr.1 + 1, fr.2.1, .ref (1000 + i.toNatClampNeg) :: st), w) else none
  | _ => none
def am_iast (fr : amF) (w : amW) : amR := match fr.2.2 with
  | .int x :: .int i :: .ref a :: st => match w.1[a]? with
    | some (.inl (0, n, f)) => if i < 0 ∨ n ≤ i.toNatClampNeg then none else some ((fr.1 + 1, fr.2.1, st), (w.1.set a (.inl (0, n, upd f i.toNatClampNeg x)), w.2))
    | _ => none
  | _ => none
def am_last (fr : amF) (w : amW) : amR := match fr.2.2 with
  | .long x :: .int i :: .ref a :: st => match w.1[a]? with
    | some (.inr (.inl (n, f))) => if i < 0 ∨ n ≤ i.toNatClampNeg then none else some ((fr.1 + 1, fr.2.1, st), (w.1.set a (.inr (.inl (n, vp_updL f i.toNatClampNeg x))), w.2))
    | _ => none
  | _ => none
def am_zast (fr : amF) (w : amW) : amR := match fr.2.2 with
  | .int x :: .int i :: .ref a :: st => match w.1[a]? with
    | some (.inl (1, n, f)) => if i < 0 ∨ n ≤ i.toNatClampNeg then none else some ((fr.1 + 1, fr.2.1, st), (w.1.set a (.inl (1, n, upd f i.toNatClampNeg (vp_nar .boolean x))), w.2))
    | _ => none
  | _ => none
def am_newo (c : Nat) (fr : amF) (w : amW) : amR := if c < 10 ∧ w.2.1 = 0 ∧ w.1.length < 1000 then some ((fr.1 + 3, fr.2.1, .ref w.1.length :: fr.2.2), (w.1 ++ [am_new c], w.2.1, w.2.2 + am_ns.getD c 0)) else none
def am_newa (t : ArrayType) (fr : amF) (w : amW) : amR := match fr.2.2 with
  | .int n :: st => if ¬ n < 0 ∧ n.toNatClampNeg ≤ 1000000 ∧ w.2.1 = 0 ∧ w.1.length < 1000 then (match t with
    | .int => some ((fr.1 + 2, fr.2.1, .ref w.1.length :: st), (w.1 ++ [.inl (0, n.toNatClampNeg, fun _ => 0)], w.2.1, w.2.2 + n.toNatClampNeg))
    | .boolean => some ((fr.1 + 2, fr.2.1, .ref w.1.length :: st), (w.1 ++ [.inl (1, n.toNatClampNeg, fun _ => 0)], w.2.1, w.2.2 + n.toNatClampNeg))
    | .long => some ((fr.1 + 2, fr.2.1, .ref w.1.length :: st), (w.1 ++ [.inr (.inl (n.toNatClampNeg, fun _ => 0))], w.2.1, w.2.2 + n.toNatClampNeg))
    | _ => none) else none
  | _ => none
/-- Enum.ordinal, String.length, String.charAt, Object() -/
def am_bi (q : Nat) (fr : amF) (w : amW) : amR :=
  if (fr.2.2.map fun v => v.category).sum ≤ 8 then (match fr.2.2 with
    | .ref a :: st => if q = 900 ∧ 1000 ≤ a ∧ a < 1019 then some ((fr.1 + 3, fr.2.1, .int (Int32.ofNat (a - 1000)) :: st), w)
      else if q = 901 ∧ 1100 ≤ a ∧ a < 1120 then some ((fr.1 + 3, fr.2.1, .int (Int32.ofNat (am_tx.getD (a - 1100) []).length) :: st), w) else none
    | .int i :: .ref a :: st => if q = 902 ∧ 1100 ≤ a ∧ a < 1120 ∧ ¬ (i < 0 ∨ (am_tx.getD (a - 1100) []).length ≤ i.toNatClampNeg) then some ((fr.1 + 3, fr.2.1, .int ((am_tx.getD (a - 1100) []).getD i.toNatClampNeg 0) :: st), w) else none
    | _ => none) else none
def am_oi (q : Nat) (fr : amF) (w : amW) : amR := match fr.2.2 with
  | .ref _ :: st => if q = 903 ∧ (st.map fun v => v.category).sum ≤ 8 then some ((fr.1 + 3, fr.2.1, st), w) else none
  | _ => none
/-- one plain instruction -/
def am_next (X : amX) (mL : Nat) (ins : Instr) (len : Nat) (fr : amF) (w : amW) : amR := match ins with
  | .aconst_null => am_push 1 .null fr w
  | .iconst n => am_push len (.int (Int32.ofInt n)) fr w
  | .jsr_w n => am_push len (.long (Int64.ofInt n)) fr w
  | .ldc q => if q = 1119 then am_push 2 (.ref 1119) fr w else none
  | .iload i => am_iload len i fr w
  | .lload i => am_lload len i fr w
  | .aload i => am_aload len i fr w
  | .istore i => am_istore mL len i fr w
  | .lstore i => am_lstore mL len i fr w
  | .astore i => am_astore mL len i fr w
  | .iinc i n => am_iinc mL i n fr w
  | .iadd => am_ii (fun x y => x + y) fr w
  | .isub => am_ii (fun x y => x - y) fr w
  | .imul => am_ii (fun x y => x * y) fr w
  | .iand => am_ii (fun x y => x &&& y) fr w
  | .ishr => am_ii (fun x y => x >>> (y &&& 31)) fr w
  | .iushr => am_ii (fun x y => (x.toUInt32 >>> (y.toUInt32 &&& Int32.toUInt32 31)).toInt32) fr w
  | .irem => am_irem fr w
  | .ineg => am_i1 (fun x => .int (-x)) fr w
  | .i2l => am_i1 (fun x => .long x.toInt64) fr w
  | .l2i => am_l1 (fun x => .int x.toInt32) fr w
  | .land => am_ll (fun x y => .long (x &&& y)) fr w
  | .lor => am_ll (fun x y => .long (x ||| y)) fr w
  | .lcmp => am_ll (fun x y => .int (lg_cmp x y)) fr w
  | .lshl => am_li (fun x y => x <<< (y.toInt64 &&& 63)) fr w
  | .lshr => am_li (fun x y => x >>> (y.toInt64 &&& 63)) fr w
  | .lushr => am_li (fun x y => (x.toUInt64 >>> (y.toInt64.toUInt64 &&& Int64.toUInt64 63)).toInt64) fr w
  | .dup => am_dup fr w
  | .dup2 => am_dup2 fr w
  | .pop => am_pop fr w
  | .pop2 => am_pop2 fr w
  | .goto t => some ((t.toNat, fr.2.1, fr.2.2), w)
  | .ifCond c t => am_if c t fr w
  | .if_icmp c t => am_icmp c t fr w
  | .ifnonnull t => am_ifnn t fr w
  | .tableswitch d lo hi ts => am_table d lo hi ts fr w
  | .getfield q => am_getf q fr w
  | .putfield q => am_putf q fr w
  | .getstatic q => am_gets q fr w
  | .arraylength => am_alen X fr w
  | .iaload => am_iald X fr w
  | .laload => am_lald fr w
  | .baload => am_zald fr w
  | .aaload => am_aald fr w
  | .iastore => am_iast fr w
  | .lastore => am_last fr w
  | .bastore => am_zast fr w
  | .new c => am_newo c fr w
  | .newarray t => am_newa t fr w
  | .invokevirtual q => if 900 ≤ q then am_bi q fr w else none
  | .invokespecial q => if 900 ≤ q then am_oi q fr w else none
  | _ => none
/-- an end -/
def am_ret (rt : Option FieldType) (ins : Instr) (st : List Value) : Option (Option Value) := match ins, rt, st with
  | .return_, none, [] => some none
  | .ireturn, some .int, [.int x] => some (some (.int x))
  | .ireturn, some .boolean, [.int x] => if x = 0 ∨ x = 1 then some (some (.int x)) else none
  | .lreturn, some .long, [.long x] => some (some (.long x))
  | .areturn, some (.object _), [.ref a] => some (some (.ref a))
  | .areturn, some (.object _), [.null] => some (some .null)
  | _, _, _ => none
/-- the class of which a method is, by its number; 99 for the static ones -/
def am_MC : List Nat := [0, 0, 0, 0, 0, 0, 0, 1, 1, 1, 1, 1, 1, 1, 1, 1, 1, 1, 1, 2, 2, 2, 2, 2, 2, 2, 2, 2, 2, 3, 3, 3, 3, 3, 3, 3, 3, 3, 3, 3, 3, 3, 3, 3, 3, 3, 3, 3, 3, 3, 3, 3, 3, 3, 4, 4, 4, 4, 4, 4, 4, 4, 4, 4, 4, 5, 5, 5, 5, 5, 6, 6, 6, 6, 6, 6, 6, 6, 6, 6, 6, 6, 6, 6, 6, 6, 6, 6, 6, 6, 6, 6, 6, 6, 99, 99, 99, 99, 7, 7, 7, 7, 7, 7, 7, 7, 7, 7, 7, 7, 7, 99, 99, 99, 99, 8, 8, 8, 8, 8, 8, 8, 8, 8, 8, 8, 9, 9, 9, 9, 9, 9, 9, 9, 9, 9, 9, 9, 9, 9, 9, 9, 9, 9, 9, 9, 9, 9, 9, 9, 9, 9, 9, 9, 9, 9, 9, 9, 9, 9, 9, 9, 9, 9, 9, 9, 9, 9, 9, 9, 9, 9, 9, 9, 9, 9, 9, 9, 9, 9, 9, 99, 99, 99, 99, 99, 99, 99, 99]
def am_isC (w : amW) (b ci : Nat) : Bool := match w.1[b]? with
  | some (.inr (.inr (c, _))) => c == ci
  | _ => false
/-- a call: whose, its arguments, the rest of the stack -/
def am_inv (ins : Instr) (w : amW) (st : List Value) : Option (Nat × List Value × List Value) := match ins with
  | .invokevirtual j => match am_M j with
    | some M => match st.drop (am_np M) with
      | .ref b :: rest => if (st.take (am_np M)).length = am_np M ∧ (rest.map fun v => v.category).sum ≤ 8 ∧ am_isC w b (am_MC.getD j 99) = true then some (j, .ref b :: (st.take (am_np M)).reverse, rest) else none
      | _ => none
    | none => none
  | .invokespecial j => match am_M j with
    | some M => match st.drop (am_np M) with
      | .ref b :: rest => if (st.take (am_np M)).length = am_np M ∧ (rest.map fun v => v.category).sum ≤ 8 then some (j, .ref b :: (st.take (am_np M)).reverse, rest) else none
      | _ => none
    | none => none
  | .invokestatic j => match am_M j with
    | some M => if (st.take (am_np M)).length = am_np M ∧ ((st.drop (am_np M)).map fun v => v.category).sum ≤ 8 then some (j, (st.take (am_np M)).reverse, st.drop (am_np M)) else none
    | none => none
  | _ => none
def am_thr (ins : Instr) (st : List Value) : Option Nat := match ins with
  | .new q => if 1000 ≤ q ∧ q < 1003 ∧ (st.map fun v => v.category).sum ≤ 8 then some (q - 1000) else none
  | _ => none
def am_at (M : amM) (pc : Nat) : Option (Instr × Nat × Nat) := ((am_cd M).find? (fun q => q.1 == pc)).map (fun q => q.2)
/-- the handler of an exception e at pc: 13, 15, 30 are the law's own pool entries of the three classes -/
def am_exn (e : Nat) : Nat := if e = 0 then 13 else if e = 1 then 15 else 30
def am_hnd (M : amM) (pc e : Nat) : Option Nat := ((am_hh M).find? (fun h => decide (h.1 ≤ pc ∧ pc < h.2.1) && h.2.2.2 == am_exn e)).map (fun h => h.2.2.1)
abbrev amK : Type := Nat → List Value → amW → amO → amW → Prop
/-- a frame's run to its end, in at most n instructions of its own; calls by 'call' -/
def AMl (X : amX) (call : amK) (M : amM) : Nat → amF → amW → amO → amW → Prop
  | 0, _, _, _, _ => False
  | n + 1, fr, w, o, w' => ∃ ins len ix, am_at M fr.1 = some (ins, len, ix) ∧
    ((∃ fr1 w1, am_next X (am_mL M) ins len fr w = some (fr1, w1) ∧ AMl X call M n fr1 w1 o w') ∨
     (∃ v, am_ret (am_rt M) ins fr.2.2 = some v ∧ o = .inl v ∧ w' = w) ∨
     (∃ j as rest v w1, am_inv ins w fr.2.2 = some (j, as, rest) ∧ call j as w (.inl v) w1 ∧ AMl X call M n (fr.1 + 3, fr.2.1, v.toList ++ rest) w1 o w') ∨
     (∃ j as rest e w1, am_inv ins w fr.2.2 = some (j, as, rest) ∧ call j as w (.inr e) w1 ∧ (∀ i, ins ≠ .invokespecial i) ∧ am_hh M = [] ∧ o = .inr e ∧ w' = w1) ∨
     (∃ j as rest e w1 h k ln ix', am_inv ins w fr.2.2 = some (j, as, rest) ∧ call j as w (.inr e) w1 ∧ (∀ i, ins ≠ .invokespecial i) ∧ am_hnd M fr.1 e = some h ∧ am_at M h = some (.astore k, ln, ix') ∧ k < am_mL M ∧ AMl X call M n (h + ln, (am_st1 fr.2.1 k .null).drop 1, []) w1 o w') ∨
     (∃ e, am_thr ins fr.2.2 = some e ∧ am_hh M = [] ∧ o = .inr e ∧ w' = (w.1, w.2.1 + 1, w.2.2 + 6)))
/-- a method's run, d calls deep at most -/
def AMc (X : amX) : Nat → amK
  | 0 => fun _ _ _ _ _ => False
  | d + 1 => fun j as w o w' => ∃ M n, am_M j = some M ∧ (am_y M).name ≠ "law" ∧ (lg_sl as).length ≤ am_mL M ∧ AMl X (AMc X d) M n (0, lv_args 0 as, []) w o w'
end
section
/-! a world of AM in the heap: cell i stands at the address ρ i -/
def am_rv (ρ : Nat → Nat) : Value → Value
  | .ref a => .ref (ρ a)
  | v => v
theorem am_rv_cat (ρ : Nat → Nat) (v : Value) : (am_rv ρ v).category = v.category := by cases v <;> rfl
def am_rl (ρ : Nat → Nat) (q : Nat × Value) : Nat × Value := (q.1, am_rv ρ q.2)
def am_E (ρ : Nat → Nat) (cI cJ cZ : ClassId) : amC → va_E
  | .inl (0, n, f) => .inl (cI, n, .inl f)
  | .inl (_ + 1, n, f) => .inl (cZ, n, .inl f)
  | .inr (.inl (n, f)) => .inl (cJ, n, .inr (.inl f))
  | .inr (.inr (c, fs)) => .inr (c, fs.map (am_rv ρ))
def am_ws (ρ : Nat → Nat) (cI cJ cZ : ClassId) (cs : List amC) : va_W := cs.mapIdx (fun i c => (ρ i, am_E ρ cI cJ cZ c))
theorem am_ws_at {ρ : Nat → Nat} {cI cJ cZ : ClassId} {cs : List amC} {i : Nat} {c : amC} (h : cs[i]? = some c) : (am_ws ρ cI cJ cZ cs)[i]? = some (ρ i, am_E ρ cI cJ cZ c) := by
  simp [am_ws, List.getElem?_mapIdx, h]
theorem am_ws_of {ρ : Nat → Nat} {cI cJ cZ : ClassId} {cs : List amC} {i : Nat} {q : Nat × va_E} (h : (am_ws ρ cI cJ cZ cs)[i]? = some q) : i < cs.length ∧ q.1 = ρ i := by
  simp only [am_ws, List.getElem?_mapIdx, Option.map_eq_some_iff] at h
  obtain ⟨c, h1, rfl⟩ := h
  exact ⟨(List.getElem?_eq_some_iff.mp h1).1, rfl⟩
theorem am_ws_set {ρ : Nat → Nat} {cI cJ cZ : ClassId} {cs : List amC} {i : Nat} {c : amC} : (am_ws ρ cI cJ cZ cs).set i (ρ i, am_E ρ cI cJ cZ c) = am_ws ρ cI cJ cZ (cs.set i c) := by
  apply List.ext_getElem?
  intro j
  simp only [am_ws, List.getElem?_set, List.getElem?_mapIdx, List.length_mapIdx]
  by_cases hij : i = j
  · subst hij
    by_cases hl : i < cs.length
    · simp [hl]
    · simp [hl]
  · simp [hij]
theorem am_ws_push {ρ : Nat → Nat} {cI cJ cZ : ClassId} {cs : List amC} {c : amC} : am_ws ρ cI cJ cZ (cs ++ [c]) = am_ws ρ cI cJ cZ cs ++ [(ρ cs.length, am_E ρ cI cJ cZ c)] := by
  simp [am_ws, List.mapIdx_append]
/-- the heap below the start's end is as it was -/
def am_Ba (Hb H : Heap) : Prop := Hb.size ≤ H.size ∧ ∀ q : Nat, q < Hb.size → H[q]? = Hb[q]?
def am_A (Hb : Heap) : Nat → Prop := fun q => Hb.size ≤ q
def am_Rep (ρ : Nat → Nat) (D : va_G) (cI cJ cZ : ClassId) (Hb : Heap) (w : amW) (H : Heap) : Prop :=
  va_P D vwCl (am_ws ρ cI cJ cZ w.1) H ∧ w.1.length ≤ 1000 ∧ (w.2.1 = 0 → H.size = Hb.size + w.1.length) ∧ am_Ba Hb H
def am_ρ (ρ : Nat → Nat) (Hb : Heap) : Prop := ∀ i, i < 1000 → ρ i = Hb.size + i
theorem am_D {ρ : Nat → Nat} {cI cJ cZ : ClassId} {Hb : Heap} (hρ : am_ρ ρ Hb) {cs : List amC} (hl : cs.length ≤ 1000) : va_D (am_A Hb) (am_ws ρ cI cJ cZ cs) := by
  refine ⟨fun i j p q hi hj e => ?_, fun k q hk => ?_⟩
  · obtain ⟨h1, h2⟩ := am_ws_of hi
    obtain ⟨h3, h4⟩ := am_ws_of hj
    rw [h2, h4, hρ i (by omega), hρ j (by omega)] at e
    omega
  · obtain ⟨h1, h2⟩ := am_ws_of hk
    show Hb.size ≤ q.1
    rw [h2, hρ k (by omega)]
    omega
def am_cN (w : amW) : Nat := w.1.length + w.2.1
def am_sN (w : amW) : Nat := w.2.2
/-! locals -/
theorem am_ld_mem {lv : List (Nat × Value)} {i : Nat} {v : Value} (h : am_ld lv i = some v) : (i, v) ∈ lv := by
  simp only [am_ld, Option.map_eq_some_iff] at h
  obtain ⟨q, h1, rfl⟩ := h
  have h2 := List.find?_some h1
  have h3 := List.mem_of_find?_eq_some h1
  have h4 : q.1 = i := by simpa using h2
  rw [← h4]
  exact h3
theorem am_lget {ρ : Nat → Nat} {ls : Array Slot} {nL : Nat} {lv : List (Nat × Value)} {i : Nat} {v : Value} (hl : lv_has ls nL (lv.map (am_rl ρ))) (h : am_ld lv i = some v) : ls[i]? = some (.val (am_rv ρ v)) :=
  hl.2.2 (am_rl ρ (i, v)) (List.mem_map_of_mem (am_ld_mem h))
theorem am_st1_map (ρ : Nat → Nat) (lv : List (Nat × Value)) (i : Nat) (v : Value) : (i, am_rv ρ v) :: (lv.map (am_rl ρ)).filter (fun q => !(q.1 == i) && !(q.1 + 1 == i && q.2.category == 2)) = (am_st1 lv i v).map (am_rl ρ) := by
  simp only [am_st1, List.map_cons, List.filter_map]
  congr 3
  funext q
  simp [am_rl, am_rv_cat]
theorem am_st2_map (ρ : Nat → Nat) (lv : List (Nat × Value)) (i : Nat) (v : Value) : (i, am_rv ρ v) :: (lv.map (am_rl ρ)).filter (fun q => !(q.1 == i) && (!(q.1 == i + 1) && !(q.1 + 1 == i && q.2.category == 2))) = (am_st2 lv i v).map (am_rl ρ) := by
  simp only [am_st2, List.map_cons, List.filter_map]
  congr 3
  funext q
  simp [am_rl, am_rv_cat]
/-! what an instruction found -/
theorem am_iload_inv {len i : Nat} {fr : amF} {w : amW} {r : amF × amW} (h : am_iload len i fr w = some r) : ∃ x, am_ld fr.2.1 i = some (.int x) ∧ r = ((fr.1 + len, fr.2.1, .int x :: fr.2.2), w) := by
  unfold am_iload at h
  split at h
  · next x e => exact ⟨x, e, (Option.some.inj h).symm⟩
  · cases h
theorem am_lload_inv {len i : Nat} {fr : amF} {w : amW} {r : amF × amW} (h : am_lload len i fr w = some r) : ∃ x, am_ld fr.2.1 i = some (.long x) ∧ r = ((fr.1 + len, fr.2.1, .long x :: fr.2.2), w) := by
  unfold am_lload at h
  split at h
  · next x e => exact ⟨x, e, (Option.some.inj h).symm⟩
  · cases h
theorem am_aload_inv {len i : Nat} {fr : amF} {w : amW} {r : amF × amW} (h : am_aload len i fr w = some r) : (∃ x, am_ld fr.2.1 i = some (.ref x) ∧ r = ((fr.1 + len, fr.2.1, .ref x :: fr.2.2), w)) ∨ (am_ld fr.2.1 i = some .null ∧ r = ((fr.1 + len, fr.2.1, .null :: fr.2.2), w)) := by
  unfold am_aload at h
  split at h
  · next x e => exact Or.inl ⟨x, e, (Option.some.inj h).symm⟩
  · next e => exact Or.inr ⟨e, (Option.some.inj h).symm⟩
  · cases h
theorem am_istore_inv {mL len i : Nat} {fr : amF} {w : amW} {r : amF × amW} (h : am_istore mL len i fr w = some r) : ∃ x st, fr.2.2 = .int x :: st ∧ i < mL ∧ r = ((fr.1 + len, am_st1 fr.2.1 i (.int x), st), w) := by
  unfold am_istore at h
  split at h
  · next x st e =>
    split at h
    · next hi => exact ⟨x, st, e, hi, (Option.some.inj h).symm⟩
    · cases h
  · cases h
theorem am_lstore_inv {mL len i : Nat} {fr : amF} {w : amW} {r : amF × amW} (h : am_lstore mL len i fr w = some r) : ∃ x st, fr.2.2 = .long x :: st ∧ i + 1 < mL ∧ r = ((fr.1 + len, am_st2 fr.2.1 i (.long x), st), w) := by
  unfold am_lstore at h
  split at h
  · next x st e =>
    split at h
    · next hi => exact ⟨x, st, e, hi, (Option.some.inj h).symm⟩
    · cases h
  · cases h
theorem am_astore_inv {mL len i : Nat} {fr : amF} {w : amW} {r : amF × amW} (h : am_astore mL len i fr w = some r) : ∃ v st, (v = .null ∨ ∃ x, v = .ref x) ∧ fr.2.2 = v :: st ∧ i < mL ∧ r = ((fr.1 + len, am_st1 fr.2.1 i v, st), w) := by
  unfold am_astore at h
  split at h
  · next x st e =>
    split at h
    · next hi => exact ⟨_, st, Or.inr ⟨x, rfl⟩, e, hi, (Option.some.inj h).symm⟩
    · cases h
  · next st e =>
    split at h
    · next hi => exact ⟨_, st, Or.inl rfl, e, hi, (Option.some.inj h).symm⟩
    · cases h
  · cases h
theorem am_iinc_inv {mL i : Nat} {n : Int} {fr : amF} {w : amW} {r : amF × amW} (h : am_iinc mL i n fr w = some r) : ∃ x, am_ld fr.2.1 i = some (.int x) ∧ i < mL ∧ r = ((fr.1 + 3, am_st1 fr.2.1 i (.int (x + Int32.ofInt n)), fr.2.2), w) := by
  unfold am_iinc at h
  split at h
  · next x e =>
    split at h
    · next hi => exact ⟨x, e, hi, (Option.some.inj h).symm⟩
    · cases h
  · cases h
theorem am_ii_inv {f : Int32 → Int32 → Int32} {fr : amF} {w : amW} {r : amF × amW} (h : am_ii f fr w = some r) : ∃ x y st, fr.2.2 = .int y :: .int x :: st ∧ r = ((fr.1 + 1, fr.2.1, .int (f x y) :: st), w) := by
  unfold am_ii at h
  split at h
  · next y x st e => exact ⟨x, y, st, e, (Option.some.inj h).symm⟩
  · cases h
theorem am_irem_inv {fr : amF} {w : amW} {r : amF × amW} (h : am_irem fr w = some r) : ∃ x y st, fr.2.2 = .int y :: .int x :: st ∧ ¬ y = 0 ∧ r = ((fr.1 + 1, fr.2.1, .int (x - x / y * y) :: st), w) := by
  unfold am_irem at h
  split at h
  · next y x st e =>
    split at h
    · cases h
    · next hy => exact ⟨x, y, st, e, hy, (Option.some.inj h).symm⟩
  · cases h
theorem am_i1_inv {f : Int32 → Value} {fr : amF} {w : amW} {r : amF × amW} (h : am_i1 f fr w = some r) : ∃ x st, fr.2.2 = .int x :: st ∧ r = ((fr.1 + 1, fr.2.1, f x :: st), w) := by
  unfold am_i1 at h
  split at h
  · next x st e => exact ⟨x, st, e, (Option.some.inj h).symm⟩
  · cases h
theorem am_l1_inv {f : Int64 → Value} {fr : amF} {w : amW} {r : amF × amW} (h : am_l1 f fr w = some r) : ∃ x st, fr.2.2 = .long x :: st ∧ r = ((fr.1 + 1, fr.2.1, f x :: st), w) := by
  unfold am_l1 at h
  split at h
  · next x st e => exact ⟨x, st, e, (Option.some.inj h).symm⟩
  · cases h
theorem am_ll_inv {f : Int64 → Int64 → Value} {fr : amF} {w : amW} {r : amF × amW} (h : am_ll f fr w = some r) : ∃ x y st, fr.2.2 = .long y :: .long x :: st ∧ r = ((fr.1 + 1, fr.2.1, f x y :: st), w) := by
  unfold am_ll at h
  split at h
  · next y x st e => exact ⟨x, y, st, e, (Option.some.inj h).symm⟩
  · cases h
theorem am_li_inv {f : Int64 → Int32 → Int64} {fr : amF} {w : amW} {r : amF × amW} (h : am_li f fr w = some r) : ∃ x y st, fr.2.2 = .int y :: .long x :: st ∧ r = ((fr.1 + 1, fr.2.1, .long (f x y) :: st), w) := by
  unfold am_li at h
  split at h
  · next y x st e => exact ⟨x, y, st, e, (Option.some.inj h).symm⟩
  · cases h
theorem am_dup_inv {fr : amF} {w : amW} {r : amF × amW} (h : am_dup fr w = some r) : ∃ v st, fr.2.2 = v :: st ∧ v.category = 1 ∧ r = ((fr.1 + 1, fr.2.1, v :: v :: st), w) := by
  unfold am_dup at h
  split at h
  · next v st e =>
    split at h
    · next hv => exact ⟨v, st, e, hv, (Option.some.inj h).symm⟩
    · cases h
  · cases h
theorem am_dup2_inv {fr : amF} {w : amW} {r : amF × amW} (h : am_dup2 fr w = some r) : (∃ v st, fr.2.2 = v :: st ∧ v.category = 2 ∧ r = ((fr.1 + 1, fr.2.1, v :: v :: st), w)) ∨ (∃ v u st, fr.2.2 = v :: u :: st ∧ v.category = 1 ∧ u.category = 1 ∧ r = ((fr.1 + 1, fr.2.1, v :: u :: v :: u :: st), w)) := by
  unfold am_dup2 at h
  split at h
  · next v st e =>
    split at h
    · next hv => exact Or.inl ⟨v, st, e, hv, (Option.some.inj h).symm⟩
    · split at h
      · next u st2 =>
        split at h
        · next hv => exact Or.inr ⟨v, u, st2, e, hv.1, hv.2, (Option.some.inj h).symm⟩
        · cases h
      · cases h
  · cases h
theorem am_pop_inv {fr : amF} {w : amW} {r : amF × amW} (h : am_pop fr w = some r) : ∃ v st, fr.2.2 = v :: st ∧ v.category = 1 ∧ r = ((fr.1 + 1, fr.2.1, st), w) := by
  unfold am_pop at h
  split at h
  · next v st e =>
    split at h
    · next hv => exact ⟨v, st, e, hv, (Option.some.inj h).symm⟩
    · cases h
  · cases h
theorem am_pop2_inv {fr : amF} {w : amW} {r : amF × amW} (h : am_pop2 fr w = some r) : ∃ v st, fr.2.2 = v :: st ∧ v.category = 2 ∧ r = ((fr.1 + 1, fr.2.1, st), w) := by
  unfold am_pop2 at h
  split at h
  · next v st e =>
    split at h
    · next hv => exact ⟨v, st, e, hv, (Option.some.inj h).symm⟩
    · cases h
  · cases h
theorem am_if_inv {c : ClassFile.Cond} {t : Int} {fr : amF} {w : amW} {r : amF × amW} (h : am_if c t fr w = some r) : ∃ x st, fr.2.2 = .int x :: st ∧ r = ((if am_holds c x 0 then t.toNat else fr.1 + 3, fr.2.1, st), w) := by
  unfold am_if at h
  split at h
  · next x st e => exact ⟨x, st, e, (Option.some.inj h).symm⟩
  · cases h
theorem am_icmp_inv {c : ClassFile.Cond} {t : Int} {fr : amF} {w : amW} {r : amF × amW} (h : am_icmp c t fr w = some r) : ∃ x y st, fr.2.2 = .int y :: .int x :: st ∧ r = ((if am_holds c x y then t.toNat else fr.1 + 3, fr.2.1, st), w) := by
  unfold am_icmp at h
  split at h
  · next y x st e => exact ⟨x, y, st, e, (Option.some.inj h).symm⟩
  · cases h
theorem am_ifnn_inv {t : Int} {fr : amF} {w : amW} {r : amF × amW} (h : am_ifnn t fr w = some r) : (∃ a st, fr.2.2 = .ref a :: st ∧ r = ((t.toNat, fr.2.1, st), w)) ∨ (∃ st, fr.2.2 = .null :: st ∧ r = ((fr.1 + 3, fr.2.1, st), w)) := by
  unfold am_ifnn at h
  split at h
  · next a st e => exact Or.inl ⟨a, st, e, (Option.some.inj h).symm⟩
  · next st e => exact Or.inr ⟨st, e, (Option.some.inj h).symm⟩
  · cases h
theorem am_table_inv {d lo hi : Int} {ts : Array Int} {fr : amF} {w : amW} {r : amF × amW} (h : am_table d lo hi ts fr w = some r) : ∃ x st, fr.2.2 = .int x :: st ∧ r = ((if x.toInt < lo ∨ hi < x.toInt then d.toNat else (ts.toList.getD (x.toInt - lo).toNat 0).toNat, fr.2.1, st), w) := by
  unfold am_table at h
  split at h
  · next x st e => exact ⟨x, st, e, (Option.some.inj h).symm⟩
  · cases h
theorem am_getf_inv {q : Nat} {fr : amF} {w : amW} {r : amF × amW} (h : am_getf q fr w = some r) : ∃ (a : Nat) (st : List Value), fr.2.2 = .ref a :: st ∧
    ((50000 ≤ q ∧ 1000 ≤ a ∧ a < 1019 ∧ ((q = 50000 ∧ r = ((fr.1 + 3, fr.2.1, .ref (a + 100) :: st), w)) ∨ (q = 50001 ∧ r = ((fr.1 + 3, fr.2.1, .int (am_opn.getD (a - 1000) 0) :: st), w)) ∨ (¬ q = 50000 ∧ ¬ q = 50001 ∧ r = ((fr.1 + 3, fr.2.1, .int (am_ord.getD (a - 1000) 0) :: st), w)))) ∨
     (¬ 50000 ≤ q ∧ ∃ fs v, w.1[a]? = some (.inr (.inr (q / 100 % 100, fs))) ∧ fs[q % 100]? = some v ∧ r = ((fr.1 + 3, fr.2.1, v :: st), w))) := by
  unfold am_getf at h
  split at h
  · next a st e =>
    refine ⟨a, st, e, ?_⟩
    split at h
    · next h5 =>
      left
      split at h
      · next ha =>
        refine ⟨h5, ha.1, ha.2, ?_⟩
        split at h
        · next h6 => exact Or.inl ⟨h6, (Option.some.inj h).symm⟩
        · next h6 =>
          split at h
          · next h7 => exact Or.inr (Or.inl ⟨h7, (Option.some.inj h).symm⟩)
          · next h7 => exact Or.inr (Or.inr ⟨h6, h7, (Option.some.inj h).symm⟩)
      · cases h
    · next h5 =>
      right
      refine ⟨h5, ?_⟩
      split at h
      · next c fs e2 =>
        split at h
        · next hc =>
          split at h
          · next v hv =>
            rw [hc] at e2
            exact ⟨fs, v, e2, hv, (Option.some.inj h).symm⟩
          · cases h
        · cases h
      · cases h
  · cases h
theorem am_putf_inv {q : Nat} {fr : amF} {w : amW} {r : amF × amW} (h : am_putf q fr w = some r) : ∃ v a st fs, fr.2.2 = v :: .ref a :: st ∧ w.1[a]? = some (.inr (.inr (q / 100 % 100, fs))) ∧ q % 100 < fs.length ∧ am_fit (am_ty (q / 100 % 100) (q % 100)) v = true ∧ r = ((fr.1 + 3, fr.2.1, st), (w.1.set a (.inr (.inr (q / 100 % 100, fs.set (q % 100) v))), w.2)) := by
  unfold am_putf at h
  split at h
  · next v a st e =>
    split at h
    · next c fs e2 =>
      split at h
      · next hc =>
        obtain ⟨h1, h2, h3⟩ := hc
        subst h1
        exact ⟨v, a, st, fs, e, e2, h2, h3, (Option.some.inj h).symm⟩
      · cases h
    · cases h
  · cases h
theorem am_alen_inv {X : amX} {fr : amF} {w : amW} {r : amF × amW} (h : am_alen X fr w = some r) : ∃ a st n, fr.2.2 = .ref a :: st ∧ am_len X w a = some n ∧ r = ((fr.1 + 1, fr.2.1, .int (Int32.ofNat n) :: st), w) := by
  unfold am_alen at h
  split at h
  · next a st e =>
    split at h
    · next n e2 => exact ⟨a, st, n, e, e2, (Option.some.inj h).symm⟩
    · cases h
  · cases h
theorem am_iald_inv {X : amX} {fr : amF} {w : amW} {r : amF × amW} (h : am_iald X fr w = some r) : ∃ i a st n f, fr.2.2 = .int i :: .ref a :: st ∧ am_ai X w a = some (n, f) ∧ vp_in i n ∧ r = ((fr.1 + 1, fr.2.1, .int (f i.toNatClampNeg) :: st), w) := by
  unfold am_iald at h
  split at h
  · next i a st e =>
    split at h
    · next n f e2 =>
      split at h
      · cases h
      · next hi => exact ⟨i, a, st, n, f, e, e2, hi, (Option.some.inj h).symm⟩
    · cases h
  · cases h
theorem am_lald_inv {fr : amF} {w : amW} {r : amF × amW} (h : am_lald fr w = some r) : ∃ i a st n f, fr.2.2 = .int i :: .ref a :: st ∧ w.1[a]? = some (.inr (.inl (n, f))) ∧ vp_in i n ∧ r = ((fr.1 + 1, fr.2.1, .long (f i.toNatClampNeg) :: st), w) := by
  unfold am_lald at h
  split at h
  · next i a st e =>
    split at h
    · next n f e2 =>
      split at h
      · cases h
      · next hi => exact ⟨i, a, st, n, f, e, e2, hi, (Option.some.inj h).symm⟩
    · cases h
  · cases h
theorem am_zald_inv {fr : amF} {w : amW} {r : amF × amW} (h : am_zald fr w = some r) : ∃ i a st n f, fr.2.2 = .int i :: .ref a :: st ∧ w.1[a]? = some (.inl (1, n, f)) ∧ vp_in i n ∧ r = ((fr.1 + 1, fr.2.1, .int (f i.toNatClampNeg) :: st), w) := by
  unfold am_zald at h
  split at h
  · next i a st e =>
    split at h
    · next n f e2 =>
      split at h
      · cases h
      · next hi => exact ⟨i, a, st, n, f, e, e2, hi, (Option.some.inj h).symm⟩
    · cases h
  · cases h
theorem am_aald_inv {fr : amF} {w : amW} {r : amF × amW} (h : am_aald fr w = some r) : ∃ i st, fr.2.2 = .int i :: .ref 1200 :: st ∧ vp_in i 19 ∧ r = ((fr.1 + 1, fr.2.1, .ref (1000 + i.toNatClampNeg) :: st), w) := by
  unfold am_aald at h
  split at h
  · next i a st e =>
    split at h
    · next hi =>
      rw [hi.1] at e
      exact ⟨i, st, e, hi.2, (Option.some.inj h).symm⟩
    · cases h
  · cases h
theorem am_iast_inv {fr : amF} {w : amW} {r : amF × amW} (h : am_iast fr w = some r) : ∃ x i a st n f, fr.2.2 = .int x :: .int i :: .ref a :: st ∧ w.1[a]? = some (.inl (0, n, f)) ∧ vp_in i n ∧ r = ((fr.1 + 1, fr.2.1, st), (w.1.set a (.inl (0, n, upd f i.toNatClampNeg x)), w.2)) := by
  unfold am_iast at h
  split at h
  · next x i a st e =>
    split at h
    · next n f e2 =>
      split at h
      · cases h
      · next hi => exact ⟨x, i, a, st, n, f, e, e2, hi, (Option.some.inj h).symm⟩
    · cases h
  · cases h
theorem am_last_inv {fr : amF} {w : amW} {r : amF × amW} (h : am_last fr w = some r) : ∃ x i a st n f, fr.2.2 = .long x :: .int i :: .ref a :: st ∧ w.1[a]? = some (.inr (.inl (n, f))) ∧ vp_in i n ∧ r = ((fr.1 + 1, fr.2.1, st), (w.1.set a (.inr (.inl (n, vp_updL f i.toNatClampNeg x))), w.2)) := by
  unfold am_last at h
  split at h
  · next x i a st e =>
    split at h
    · next n f e2 =>
      split at h
      · cases h
      · next hi => exact ⟨x, i, a, st, n, f, e, e2, hi, (Option.some.inj h).symm⟩
    · cases h
  · cases h
theorem am_zast_inv {fr : amF} {w : amW} {r : amF × amW} (h : am_zast fr w = some r) : ∃ x i a st n f, fr.2.2 = .int x :: .int i :: .ref a :: st ∧ w.1[a]? = some (.inl (1, n, f)) ∧ vp_in i n ∧ r = ((fr.1 + 1, fr.2.1, st), (w.1.set a (.inl (1, n, upd f i.toNatClampNeg (vp_nar .boolean x))), w.2)) := by
  unfold am_zast at h
  split at h
  · next x i a st e =>
    split at h
    · next n f e2 =>
      split at h
      · cases h
      · next hi => exact ⟨x, i, a, st, n, f, e, e2, hi, (Option.some.inj h).symm⟩
    · cases h
  · cases h
theorem am_newo_inv {c : Nat} {fr : amF} {w : amW} {r : amF × amW} (h : am_newo c fr w = some r) : c < 10 ∧ w.2.1 = 0 ∧ w.1.length < 1000 ∧ r = ((fr.1 + 3, fr.2.1, .ref w.1.length :: fr.2.2), (w.1 ++ [am_new c], w.2.1, w.2.2 + am_ns.getD c 0)) := by
  unfold am_newo at h
  split at h
  · next hc => exact ⟨hc.1, hc.2.1, hc.2.2, (Option.some.inj h).symm⟩
  · cases h
theorem am_newa_inv {t : ArrayType} {fr : amF} {w : amW} {r : amF × amW} (h : am_newa t fr w = some r) : ∃ n st c, fr.2.2 = .int n :: st ∧ ¬ n < 0 ∧ n.toNatClampNeg ≤ 1000000 ∧ w.2.1 = 0 ∧ w.1.length < 1000 ∧ r = ((fr.1 + 2, fr.2.1, .ref w.1.length :: st), (w.1 ++ [c], w.2.1, w.2.2 + n.toNatClampNeg)) ∧ ((t = .int ∧ c = .inl (0, n.toNatClampNeg, fun _ => 0)) ∨ (t = .boolean ∧ c = .inl (1, n.toNatClampNeg, fun _ => 0)) ∨ (t = .long ∧ c = .inr (.inl (n.toNatClampNeg, fun _ => 0)))) := by
  unfold am_newa at h
  split at h
  · next n st e =>
    split at h
    · next hn =>
      obtain ⟨h1, h2, h3, h4⟩ := hn
      split at h
      · exact ⟨n, st, _, e, h1, h2, h3, h4, (Option.some.inj h).symm, Or.inl ⟨rfl, rfl⟩⟩
      · exact ⟨n, st, _, e, h1, h2, h3, h4, (Option.some.inj h).symm, Or.inr (Or.inl ⟨rfl, rfl⟩)⟩
      · exact ⟨n, st, _, e, h1, h2, h3, h4, (Option.some.inj h).symm, Or.inr (Or.inr ⟨rfl, rfl⟩)⟩
      · cases h
    · cases h
  · cases h
theorem am_oi_inv {q : Nat} {fr : amF} {w : amW} {r : amF × amW} (h : am_oi q fr w = some r) : ∃ a st, fr.2.2 = .ref a :: st ∧ q = 903 ∧ (st.map fun v => v.category).sum ≤ 8 ∧ r = ((fr.1 + 3, fr.2.1, st), w) := by
  unfold am_oi at h
  split at h
  · next a st e =>
    split at h
    · next hq => exact ⟨a, st, e, hq.1, hq.2, (Option.some.inj h).symm⟩
    · cases h
  · cases h
end
section
/-! one plain instruction of AM is one of the JVM -/
theorem am_cls (c : Nat) (h : c < 10) : ∃ q, vwCl[c]? = some q ∧ (∀ w ∈ u_ws q.1 q.2.1 q.2.2, w ∈ amTb) ∧ (∀ k, k < q.2.2 → parseFieldDescriptor (q.2.1 k).2.2.1 = some (am_ty c k)) ∧ (∀ a, a < q.2.2 → ∀ b, b < q.2.2 → a ≠ b → (q.2.1 a).2.1 ≠ (q.2.1 b).2.1) ∧ q.2.2 = am_ns.getD c 0 := by
  match c, h with
  | 0, _ => exact ⟨_, rfl, inX1, tyX1_ok, nmX1, rfl⟩
  | 1, _ => exact ⟨_, rfl, inX2, tyX2_ok, nmX2, rfl⟩
  | 2, _ => exact ⟨_, rfl, inX3, tyX3_ok, nmX3, rfl⟩
  | 3, _ => exact ⟨_, rfl, inX4, tyX4_ok, nmX4, rfl⟩
  | 4, _ => exact ⟨_, rfl, inX5, tyX5_ok, nmX5, rfl⟩
  | 5, _ => exact ⟨_, rfl, inX6, tyX6_ok, nmX6, rfl⟩
  | 6, _ => exact ⟨_, rfl, inX7, tyX7_ok, nmX7, rfl⟩
  | 7, _ => exact ⟨_, rfl, inX9, tyX9_ok, nmX9, rfl⟩
  | 8, _ => exact ⟨_, rfl, inX12, tyX12_ok, nmX12, rfl⟩
  | 9, _ => exact ⟨_, rfl, inX13, tyX13_ok, nmX13, rfl⟩
  | n + 10, h => exact absurd h (by omega)
theorem am_cls_lt {c : Nat} {q : vw_C} (h : vwCl[c]? = some q) : c < 10 := (List.getElem?_eq_some_iff.mp h).1
theorem am_fit_ok {ρ : Nat → Nat} {ty : FieldType} {v : Value} (h : am_fit ty v = true) : narrow ty (am_rv ρ v) = am_rv ρ v ∧ fits ty (am_rv ρ v) = true := by
  unfold am_fit at h
  split at h
  · exact ⟨rfl, rfl⟩
  · exact ⟨rfl, rfl⟩
  · next x =>
    have h1 : x = 0 ∨ x = 1 := by simpa using h
    rcases h1 with rfl | rfl
    · exact ⟨(by decide : narrow .boolean (.int 0) = .int 0), (by decide : fits .boolean (.int 0) = true)⟩
    · exact ⟨(by decide : narrow .boolean (.int 1) = .int 1), (by decide : fits .boolean (.int 1) = true)⟩
  · exact ⟨rfl, rfl⟩
  · exact ⟨rfl, rfl⟩
  · cases h
theorem am_FL_get {own : String} {ix q : Nat} (h : am_FL.any (fun e => e.1 == own && e.2.1 == ix && e.2.2.1 == q) = true) : ∃ r, vwCl[q / 100 % 100]? = some r ∧ q % 100 < r.2.2 ∧ ((q / 10000 = 1 ∧ Cond.fieldLinkNest own ix (r.2.1 (q % 100)).1 (r.2.1 (q % 100)).2.1 (r.2.1 (q % 100)).2.2.1 "ListDesk" ∈ lw_tbl) ∨ (¬ q / 10000 = 1 ∧ Cond.fieldLink own ix (r.2.1 (q % 100)).1 (r.2.1 (q % 100)).2.1 (r.2.1 (q % 100)).2.2.1 ∈ amTb)) := by
  obtain ⟨e, he, h1⟩ := List.any_eq_true.mp h
  simp only [Bool.and_eq_true, beq_iff_eq] at h1
  obtain ⟨⟨rfl, rfl⟩, rfl⟩ := h1
  have h2 := List.all_eq_true.mp am_FL_ok e he
  unfold am_flw at h2
  split at h2
  · next r hr =>
    simp only [Bool.and_eq_true, decide_eq_true_eq] at h2
    refine ⟨r, hr, h2.1, ?_⟩
    have h3 := h2.2
    split at h3
    · next h4 => exact Or.inl ⟨h4, List.mem_of_getElem? (of_decide_eq_true h3)⟩
    · next h4 => exact Or.inr ⟨h4, am_wd_in h3⟩
  · cases h2
/-- the texts of the enum's words and 'nil', and what the library's own text members read -/
def am_lens : List Nat := [6, 2, 3, 6, 4, 5, 1, 1, 1, 1, 1, 3, 4, 3, 3, 5, 5, 3, 3, 3]
def am_St (adK adV : Nat → Nat) (Hb : Heap) (U : State) : Prop := ∀ i : Nat, i < 20 → va_O "java/lang/String" (adK i) (am_A Hb) U Hb ∧ va_OF "java/lang/String" "coder" "B" (.int 0) (adK i) (am_A Hb) U Hb ∧ va_OF "java/lang/String" "value" "[B" (.ref (adV i)) (adK i) (am_A Hb) U Hb ∧ va_T .byte (adV i) (am_lens.getD i 0) (fun j => .int ((am_tx.getD i []).getD j 0)) (am_A Hb) U Hb
def am_J (ρ : Nat → Nat) (Hb : Heap) (U : State) : Prop := (∃ adV : Nat → Nat, am_St (fun i => ρ (1100 + i)) adV Hb U) ∧ va_Z "java/lang/String" "COMPACT_STRINGS" "Z" (.int 1) (am_A Hb) U Hb ∧ va_Zq "jdk/internal/util/Preconditions" "SIOOBE_FORMATTER" "Ljava/util/function/BiFunction;" (am_A Hb) U Hb
theorem am_J.moved {ρ : Nat → Nat} {Hb : Heap} {u U : State} (ha : u.vm.Alike U.vm) (h : am_J ρ Hb u) : am_J ρ Hb U := by
  obtain ⟨⟨adV, h1⟩, h2, h3⟩ := h
  exact ⟨⟨adV, fun i hi => ⟨va_O.moved ha (h1 i hi).1, va_OF.moved ha (h1 i hi).2.1, va_OF.moved ha (h1 i hi).2.2.1, va_T.moved ha (h1 i hi).2.2.2⟩⟩, va_Z.moved ha h2, va_Zq.moved ha h3⟩
/-- what holds of a state in which AM's worlds are read: the classes, the nest's links, the things that stand from the start -/
def am_U (ρ : Nat → Nat) (D : va_G) (cI cJ cZ : ClassId) (Hb : Heap) (X : amX) (U : State) : Prop :=
  va_K D vwCl [(cI, .int), (cJ, .long), (cZ, .boolean)] U ∧
  (∀ a i b n d, Cond.fieldLinkNest a i b n d "ListDesk" ∈ lw_tbl → va_Nw (.fieldLinkNest a i b n d "ListDesk") U) ∧
  (va_X (ρ 2000) X.1 X.2 U Hb ∧ ρ 2000 < Hb.size) ∧
  (va_Z "ListDesk$1" "$SwitchMap$ListDesk$Word" "[I" (.ref (ρ 1201)) (am_A Hb) U Hb ∧ va_T .int (ρ 1201) 19 (fun j => .int (am_sw.getD j 0)) (am_A Hb) U Hb) ∧
  (va_Z "ListDesk$Word" "ALL" "[LListDesk$Word;" (.ref (ρ 1200)) (am_A Hb) U Hb ∧ va_T (.object "ListDesk$Word") (ρ 1200) 19 (fun j => .ref (ρ (1000 + j))) (am_A Hb) U Hb) ∧
  (∀ i, i < 19 → va_O "ListDesk$Word" (ρ (1000 + i)) (am_A Hb) U Hb ∧ va_OF "java/lang/Enum" "ordinal" "I" (.int (Int32.ofNat i)) (ρ (1000 + i)) (am_A Hb) U Hb ∧ va_OF "ListDesk$Word" "operands" "I" (.int (am_opn.getD i 0)) (ρ (1000 + i)) (am_A Hb) U Hb ∧ va_OF "ListDesk$Word" "order" "I" (.int (am_ord.getD i 0)) (ρ (1000 + i)) (am_A Hb) U Hb ∧ va_OF "ListDesk$Word" "text" "Ljava/lang/String;" (.ref (ρ (1100 + i))) (ρ (1000 + i)) (am_A Hb) U Hb) ∧
  vk_R "ListDesk$Reader" 96 "nil" (ρ 1119) U ∧ am_J ρ Hb U
theorem am_U.warm {ρ : Nat → Nat} {D : va_G} {cI cJ cZ : ClassId} {Hb : Heap} {X : amX} {s U : State} (hW : s.WarmedH U.vm) (h : am_U ρ D cI cJ cZ Hb X s) : am_U ρ D cI cJ cZ Hb X U := by
  obtain ⟨h1, h2, h3, h4, h5, h6, h7, h8⟩ := h
  have ha := hW.alike
  exact ⟨va_K.moved ha h1, fun a i b n d hm => va_Nw.warmF hW (h2 a i b n d hm), ⟨va_X.moved ha h3.1, h3.2⟩, ⟨va_Z.moved ha h4.1, va_T.moved ha h4.2⟩, ⟨va_Z.moved ha h5.1, va_T.moved ha h5.2⟩,
    fun i hi => ⟨va_O.moved ha (h6 i hi).1, va_OF.moved ha (h6 i hi).2.1, va_OF.moved ha (h6 i hi).2.2.1, va_OF.moved ha (h6 i hi).2.2.2.1, va_OF.moved ha (h6 i hi).2.2.2.2⟩, vk_R.warm hW h7, am_J.moved ha h8⟩
theorem am_nest1 : Cond.fieldLinkNest "ListDesk$Reader" 165 "ListDesk$Word" "ALL" "[LListDesk$Word;" "ListDesk" ∈ lw_tbl := by decide +kernel
theorem am_nest2 : Cond.fieldLinkNest "ListDesk$Reader" 147 "ListDesk$Word" "text" "Ljava/lang/String;" "ListDesk" ∈ lw_tbl := by decide +kernel
theorem am_nest3 : Cond.fieldLinkNest "ListDesk$Reader" 248 "ListDesk$Word" "operands" "I" "ListDesk" ∈ lw_tbl := by decide +kernel
theorem am_nest4 : Cond.fieldLinkNest "ListDesk$Reader" 251 "ListDesk$Word" "order" "I" "ListDesk" ∈ lw_tbl := by decide +kernel
theorem am_gs1 : Cond.fieldLink "ListDesk$Reader" 169 "ListDesk$1" "$SwitchMap$ListDesk$Word" "[I" ∈ amTb := am_wd_in (i := 665) (by decide +kernel)
section PLAIN
variable {p : Program} {l : Launch} {e : Env} {R : Room} {s : State} {m : MethodId} {args : Array Value} {below : List Frame} {meth : Method} {c : Code} {H : Heap} {locs : List Loc} {cells slots : Nat} {Q : State → Prop}
variable {ρ : Nat → Nat} {D : va_G} {cI cJ cZ : ClassId} {Hb : Heap} {X : amX} {M : amM}
/-- what a frame of the method M stands on -/
def am_Fr (p : Program) (R : Room) (s : State) (m : MethodId) (args : Array Value) (meth : Method) (c : Code) (ρ : Nat → Nat) (D : va_G) (cI cJ cZ : ClassId) (Hb : Heap) (X : amX) (M : amM) : Prop :=
  p.tables.exec = Jvm.exec ∧ c.code = am_b M ∧ s.vm.findClass (am_own M) = some m.cls ∧ (∀ w ∈ amTb, w.before args s = true) ∧ am_U ρ D cI cJ cZ Hb X s ∧ ((am_y M).name = "<init>" → meth.name = "<init>") ∧ c.maxLocals = am_mL M ∧ am_Ba Hb s.heap ∧ am_ρ ρ Hb ∧ 10 ≤ R.frames ∧ 400 ≤ R.locals
theorem am_S (hb : am_Ba Hb s.heap) (hB : am_Ba Hb H) (hs : s.heap.size ≤ H.size) (hl : ∀ z ∈ locs, Hb.size ≤ z.base) : va_S (am_A Hb) s.heap H locs :=
  ⟨hs, fun q _ h2 => by
    have h3 : q < Hb.size := Nat.not_le.mp h2
    rw [hB.2 q h3, hb.2 q h3], hl⟩
theorem am_Sb (hB : am_Ba Hb H) (hl : ∀ z ∈ locs, Hb.size ≤ z.base) : va_S (am_A Hb) Hb H locs := ⟨hB.1, fun q h1 _ => hB.2 q h1, hl⟩
theorem am_Ba_of {A0 : Heap} {H1 : Heap} {locs1 : List Loc} (h : va_S (am_A A0) A0 H1 locs1) : am_Ba A0 H1 := ⟨h.1, fun q hq => h.2.1 q hq (Nat.not_le.mpr hq)⟩
/-- a step that leaves the world -/
theorem am_keep {fr1 : amF} {w w1 : amW} {pc1 : Nat} {lv1 : List (Nat × Value)} {st1 : List Value} {ls1 : Array Slot}
    (he : (fr1, w1) = ((pc1, lv1, st1), w)) (hR : am_Rep ρ D cI cJ cZ Hb w H) (hlocs : ∀ z ∈ locs, Hb.size ≤ z.base) (hs : s.heap.size ≤ H.size) (hL1 : lv_has ls1 (am_mL M) (lv1.map (am_rl ρ)))
    (kk : ∀ (H1 : Heap) (locs1 : List Loc) (ls1 : Array Slot), am_Rep ρ D cI cJ cZ Hb w1 H1 → lv_has ls1 (am_mL M) (fr1.2.1.map (am_rl ρ)) → (∀ z ∈ locs1, Hb.size ≤ z.base) → s.heap.size ≤ H1.size → W p l e R s m args below meth c H1 locs1 (cells + (am_cN w1 - am_cN w)) (slots + (am_sN w1 - am_sN w)) Q (F0 m fr1.1 ls1 (fr1.2.2.map (am_rv ρ)))) :
    W p l e R s m args below meth c H locs cells slots Q (F0 m pc1 ls1 (st1.map (am_rv ρ))) := by
  cases he
  have h1 := kk H locs ls1 hR hL1 hlocs hs
  rw [Nat.sub_self, Nat.sub_self, Nat.add_zero, Nat.add_zero] at h1
  exact h1
/-- a step that writes a cell -/
theorem am_wrote {fr1 : amF} {w w1 : amW} {pc1 a : Nat} {lv1 : List (Nat × Value)} {st1 : List Value} {ls1 : Array Slot} {cl1 : amC} {H1 : Heap} {locs1 : List Loc}
    (he : (fr1, w1) = ((pc1, lv1, st1), (w.1.set a cl1, w.2))) (hR : am_Rep ρ D cI cJ cZ Hb w H) (hs : s.heap.size ≤ H.size) (hL1 : lv_has ls1 (am_mL M) (lv1.map (am_rl ρ))) (hz : H1.size = H.size)
    (hP1 : va_P D vwCl ((am_ws ρ cI cJ cZ w.1).set a (ρ a, am_E ρ cI cJ cZ cl1)) H1) (hS1 : va_S (am_A Hb) Hb H1 locs1)
    (kk : ∀ (H1 : Heap) (locs1 : List Loc) (ls1 : Array Slot), am_Rep ρ D cI cJ cZ Hb w1 H1 → lv_has ls1 (am_mL M) (fr1.2.1.map (am_rl ρ)) → (∀ z ∈ locs1, Hb.size ≤ z.base) → s.heap.size ≤ H1.size → W p l e R s m args below meth c H1 locs1 (cells + (am_cN w1 - am_cN w)) (slots + (am_sN w1 - am_sN w)) Q (F0 m fr1.1 ls1 (fr1.2.2.map (am_rv ρ)))) :
    W p l e R s m args below meth c H1 locs1 cells slots Q (F0 m pc1 ls1 (st1.map (am_rv ρ))) := by
  cases he
  rw [am_ws_set] at hP1
  have hl : (w.1.set a cl1).length = w.1.length := List.length_set
  have h1 := kk H1 locs1 ls1 ⟨hP1, by rw [hl]; exact hR.2.1, fun h0 => by rw [hz, hl]; exact hR.2.2.1 h0, am_Ba_of hS1⟩ hL1 hS1.2.2 (by rw [hz]; exact hs)
  have e1 : am_cN (w.1.set a cl1, w.2) = am_cN w := by simp [am_cN]
  have e2 : am_sN (w.1.set a cl1, w.2) = am_sN w := rfl
  rw [e1, e2, Nat.sub_self, Nat.sub_self, Nat.add_zero, Nat.add_zero] at h1
  exact h1

section WR
variable {p : Program} {l : Launch} {e : Env} {R : Room} {s : State} {m : MethodId} {args : Array Value} {below : List Frame} {meth : Method} {c : Code} {H : Heap} {locs : List Loc} {cells slots : Nat} {Q : State → Prop}
variable {cc : ByteArray} {pc : Nat} {ls : Array Slot} {rest : List Value} {D : va_G} {A : Nat → Prop} {a : Nat} {tys : List (ClassId × FieldType)} {ws : va_W} {H0 : Heap}
/-! stores, with the heap's size kept in sight -/
theorem am_wi (hx : p.tables.exec = Jvm.exec) (hb : c.code = cc) (hK : va_K D vwCl tys s) (hP : va_P D vwCl ws H) (hD : va_D A ws) (hS : va_S A H0 H locs) (q0 t0 : Nat) {cA : ClassId} {n : Nat} {f : Nat → Int32} (ha : ws[q0]? = some (a, .inl (cA, n, .inl f))) (ht : tys[t0]? = some (cA, .int)) {i x : Int32} (hin : vp_in i n) (hdg : decode cc pc = .ok (.iastore, 1))
    (kk : ∀ (H1 : Heap) (locs1 : List Loc), H1.size = H.size → va_P D vwCl (ws.set q0 (a, .inl (cA, n, .inl (upd f i.toNatClampNeg x)))) H1 → va_S A H0 H1 locs1 → W p l e R s m args below meth c H1 locs1 cells slots Q (F0 m (pc + 1) ls rest)) : W p l e R s m args below meth c H locs cells slots Q (F0 m pc ls (.int x :: .int i :: .ref a :: rest)) := by
  refine W.iast hx hb (hP q0 _ ha) ((hK.2 t0 _ ht).1 n (fun j => .int (f j))) (fun q => by cases q) (by show ¬ (i < 0 ∨ (arrV _ _ _).slots.size ≤ _); rw [arrV_size]; exact hin) rfl rfl hdg fun H1 e1 z oq => ?_
  refine kk H1 _ z (hP.set hD ha ?_ oq) (hS.put z oq (hD.2 q0 _ ha))
  show H1[a]? = some (vp_cell cA (n, .inl (upd f i.toNatClampNeg x)))
  rw [e1, vp_cell_i, vp_cell_i, arrV_store]
  congr 2
  funext q
  by_cases hq : q = i.toNatClampNeg <;> simp [updV, upd, hq]
theorem am_wz (hx : p.tables.exec = Jvm.exec) (hb : c.code = cc) (hK : va_K D vwCl tys s) (hP : va_P D vwCl ws H) (hD : va_D A ws) (hS : va_S A H0 H locs) (q0 t0 : Nat) {cA : ClassId} {n : Nat} {f : Nat → Int32} (ha : ws[q0]? = some (a, .inl (cA, n, .inl f))) (ht : tys[t0]? = some (cA, .boolean)) {i x : Int32} (hin : vp_in i n) (hdg : decode cc pc = .ok (.bastore, 1))
    (kk : ∀ (H1 : Heap) (locs1 : List Loc), H1.size = H.size → va_P D vwCl (ws.set q0 (a, .inl (cA, n, .inl (upd f i.toNatClampNeg (vp_nar .boolean x))))) H1 → va_S A H0 H1 locs1 → W p l e R s m args below meth c H1 locs1 cells slots Q (F0 m (pc + 1) ls rest)) : W p l e R s m args below meth c H locs cells slots Q (F0 m pc ls (.int x :: .int i :: .ref a :: rest)) := by
  refine W.zast hx hb (hP q0 _ ha) ((hK.2 t0 _ ht).1 n (fun j => .int (f j))) (fun q => by cases q) (by show ¬ (i < 0 ∨ (arrV _ _ _).slots.size ≤ _); rw [arrV_size]; exact hin) rfl rfl hdg fun H1 e1 z oq => ?_
  refine kk H1 _ z (hP.set hD ha ?_ oq) (hS.put z oq (hD.2 q0 _ ha))
  show H1[a]? = some (vp_cell cA (n, .inl (upd f i.toNatClampNeg (vp_nar .boolean x))))
  rw [e1, vp_cell_i, vp_cell_i, arrV_store]
  congr 2
  funext q
  by_cases hq : q = i.toNatClampNeg
  · subst hq
    simp [updV, upd, vp_nar]
    try rfl
  · simp [updV, upd, hq]
theorem am_wl (hx : p.tables.exec = Jvm.exec) (hb : c.code = cc) (hK : va_K D vwCl tys s) (hP : va_P D vwCl ws H) (hD : va_D A ws) (hS : va_S A H0 H locs) (q0 t0 : Nat) {cA : ClassId} {n : Nat} {f : Nat → Int64} (ha : ws[q0]? = some (a, .inl (cA, n, .inr (.inl f)))) (ht : tys[t0]? = some (cA, .long)) {i : Int32} {x : Int64} (hin : vp_in i n) (hdg : decode cc pc = .ok (.lastore, 1))
    (kk : ∀ (H1 : Heap) (locs1 : List Loc), H1.size = H.size → va_P D vwCl (ws.set q0 (a, .inl (cA, n, .inr (.inl (vp_updL f i.toNatClampNeg x))))) H1 → va_S A H0 H1 locs1 → W p l e R s m args below meth c H1 locs1 cells slots Q (F0 m (pc + 1) ls rest)) : W p l e R s m args below meth c H locs cells slots Q (F0 m pc ls (.long x :: .int i :: .ref a :: rest)) := by
  refine W.last hx hb (hP q0 _ ha) ((hK.2 t0 _ ht).1 n (fun j => .long (f j))) (fun q => by cases q) (by show ¬ (i < 0 ∨ (arrV _ _ _).slots.size ≤ _); rw [arrV_size]; exact hin) rfl rfl hdg fun H1 e1 z oq => ?_
  refine kk H1 _ z (hP.set hD ha ?_ oq) (hS.put z oq (hD.2 q0 _ ha))
  show H1[a]? = some (vp_cell cA (n, .inr (.inl (vp_updL f i.toNatClampNeg x))))
  rw [e1, vp_cell_l, vp_cell_l, arrV_store]
  congr 2
  funext q
  by_cases hq : q = i.toNatClampNeg <;> simp [updV, vp_updL, hq]
/-- putfield: by a plain link (0), a nest mate's (1), a final field in its constructor (2) -/
theorem am_wp (hx : p.tables.exec = Jvm.exec) (hb : c.code = cc) {own C : String} {T : u_T} {N ci index : Nat} (hts : ∀ w ∈ amTb, w.before args s = true) (hin : ∀ w ∈ u_ws C T N, w ∈ amTb) (ty0 : Nat → FieldType) (hty : ∀ k, k < N → parseFieldDescriptor (T k).2.2.1 = some (ty0 k)) (hnm : ∀ a, a < N → ∀ b, b < N → a ≠ b → (T a).2.1 ≠ (T b).2.1) (hown : s.vm.findClass own = some m.cls) (hK : va_K D vwCl tys s) (hP : va_P D vwCl ws H) (hD : va_D A ws) (hS0 : va_S A H0 H locs) (q0 : Nat) {fs : List Value} (he : ws[q0]? = some (a, .inr (ci, fs))) (hc : vwCl[ci]? = some (C, T, N)) (k : Nat) (hk : k < N)
    (hmode : ((T k).2.2.2 = false ∧ (Cond.fieldLink own index (T k).1 (T k).2.1 (T k).2.2.1).before args s = true) ∨ ((T k).2.2.2 = false ∧ (Cond.fieldLinkNest own index (T k).1 (T k).2.1 (T k).2.2.1 "ListDesk").before args s = true) ∨ ((T k).2.2.2 = true ∧ meth.name = "<init>" ∧ (T k).1 = own ∧ (Cond.fieldLink own index (T k).1 (T k).2.1 (T k).2.2.1).before args s = true))
    {v : Value} (hn : narrow (ty0 k) v = v) (hfit : fits (ty0 k) v = true) (hl : k < fs.length) (hdg : decode cc pc = .ok (.putfield index, 3))
    (kk : ∀ (H1 : Heap) (locs1 : List Loc), H1.size = H.size → va_P D vwCl (ws.set q0 (a, .inr (ci, fs.set k v))) H1 → va_S A H0 H1 locs1 → W p l e R s m args below meth c H1 locs1 cells slots Q (F0 m (pc + 3) ls rest)) : W p l e R s m args below meth c H locs cells slots Q (F0 m pc ls (v :: .ref a :: rest)) := by
  have hap := va_apart (own := own) hts hin ty0 hty hnm hK hc
  obtain ⟨r, h1, cell, q1, q2, q3, q4⟩ := hP q0 _ he
  have hr : r = (C, T, N) := Option.some.inj (h1.symm.trans hc)
  subst hr
  obtain ⟨hS, hfc, kC, hkC, hkind⟩ := hK.1 ci _ hc
  obtain ⟨cf, kf, fi, f, hi, hsl⟩ := hS k hk
  have hlay := hts _ (hin _ (u_in_lay hk))
  unfold u_lay at hlay
  have hst := (u_facts hfc hkC (u_lays hts hin hk) hi).1
  have hend : ∀ (H' : Heap), H'[a]? = some (cell.setSlot f.slot v) → H'.size = H.size → (∀ q, q ≠ a → H'[q]? = H[q]?) → W p l e R s m args below meth c H' (locs ++ [⟨a, f.slot⟩]) cells slots Q (F0 m (pc + 3) ls rest) := fun H' e1 e2 e3 => by
    rw [hsl] at e1 ⊢
    exact kk H' _ e2 (hP.set hD he ⟨_, hc, t_OB.to (V := updV (vp_V fs) k v) ⟨_, e1, q2, q3, t_set q4 hap hk v⟩ (fun j _ => vp_updV_set hl v j)⟩ e3) (hS0.put e2 e3 (hD.2 q0 _ he))
  rcases hmode with ⟨hf, hlk⟩ | ⟨hf, hlk⟩ | ⟨hf, hin2, hdecl, hlk⟩
  · rw [if_neg (by rw [hf]; decide)] at hlay
    have h6 := u_store hfc hkC hkind hlay hi (hty k hk) hn hfit
    exact W.putK hx hb (f := f) ⟨hown, hlk, ⟨_, _, _, hi⟩, hst⟩ (by rw [q2]; exact h6) q1 q3 (by rw [hsl]; exact k2_hasslot (q4 k hk)) rfl rfl hdg hend
  · rw [if_neg (by rw [hf]; decide)] at hlay
    have h6 := u_store hfc hkC hkind hlay hi (hty k hk) hn hfit
    exact va_WputK hx hb (f := f) hown hlk hi hst (by rw [q2]; exact h6) q1 q3 (by rw [hsl]; exact k2_hasslot (q4 k hk)) rfl rfl hdg hend
  · rw [if_pos hf] at hlay
    have hcf : m.cls = cf := by
      obtain ⟨_, _, c', _, _, _, -, -, hf', -, -, -, hown2, -⟩ := Cond.laysFinal_spec hlay
      have e1 : c' = cf := by have := hi.symm.trans hf'; simp at this; exact this.1.symm
      rw [hdecl] at hown2
      rw [← e1]; exact Option.some.inj (hown.symm.trans hown2)
    have h6 := u_fits hfc hkC hkind (Or.inr hlay) hi (hty k hk) hn hfit
    exact W.putFinK hx hb hown hlk hi hst hcf hin2 (by rw [q2]; exact h6) q1 q3 (by rw [hsl]; exact k2_hasslot (q4 k hk)) rfl rfl hdg hend
end WR

theorem am_fin4 {i : Nat} (h : i < 4) : ((Fin.ofNat 4 i : Fin 4) : Nat) = i := Nat.mod_eq_of_lt h
theorem am_dvs {ρ : Nat → Nat} {q j : Nat} (hj : j < am_ns.getD q 0) : defaultValue (am_ty q j) = vp_V (((List.range (am_ns.getD q 0)).map (fun k => defaultValue (am_ty q k))).map (am_rv ρ)) j := by
  have h1 : am_rv ρ (defaultValue (am_ty q j)) = defaultValue (am_ty q j) := by cases am_ty q j <;> rfl
  unfold vp_V
  rw [List.getD_eq_getElem?_getD, List.getElem?_map, List.getElem?_map, List.getElem?_range hj]
  exact h1.symm

set_option maxHeartbeats 4000000 in
set_option maxRecDepth 100000 in
theorem am_plain (hF : am_Fr p R s m args meth c ρ D cI cJ cZ Hb X M) {pc len ix : Nat} {ins : Instr} {lv : List (Nat × Value)} {st : List Value} {w w1 : amW} {fr1 : amF} {ls : Array Slot}
    (hchk : am_chk M (pc, ins, len, ix) = true) (hn : am_next X (am_mL M) ins len (pc, lv, st) w = some (fr1, w1))
    (hR : am_Rep ρ D cI cJ cZ Hb w H) (hL : lv_has ls (am_mL M) (lv.map (am_rl ρ))) (hlocs : ∀ z ∈ locs, Hb.size ≤ z.base) (hs : s.heap.size ≤ H.size)
    (hcc : cells + (am_cN w1 - am_cN w) ≤ R.cells) (hcs : slots + (am_sN w1 - am_sN w) ≤ R.slots)
    (hbi : ∀ j, ins = .invokevirtual j → 900 ≤ j → W p l e R s m args below meth c H locs cells slots Q (F0 m pc ls (st.map (am_rv ρ))))
    (kk : ∀ (H1 : Heap) (locs1 : List Loc) (ls1 : Array Slot), am_Rep ρ D cI cJ cZ Hb w1 H1 → lv_has ls1 (am_mL M) (fr1.2.1.map (am_rl ρ)) → (∀ z ∈ locs1, Hb.size ≤ z.base) → s.heap.size ≤ H1.size → W p l e R s m args below meth c H1 locs1 (cells + (am_cN w1 - am_cN w)) (slots + (am_sN w1 - am_sN w)) Q (F0 m fr1.1 ls1 (fr1.2.2.map (am_rv ρ)))) :
    W p l e R s m args below meth c H locs cells slots Q (F0 m pc ls (st.map (am_rv ρ))) := by
  obtain ⟨hx, hb, hown, hts, hU, hini, hml, hBs, hρ, hRf, hRl⟩ := hF
  have hSs := am_S hBs hR.2.2.2 hs hlocs
  have hSb := am_Sb hR.2.2.2 hlocs
  have hD : va_D (am_A Hb) (am_ws ρ cI cJ cZ w.1) := am_D hρ hR.2.1
  have hK := hU.1
  cases ins with
  | aconst_null =>
    have h : (fr1, w1) = ((pc + 1, lv, .null :: st), w) := (Option.some.inj hn).symm
    have hdg : decode (am_b M) pc = .ok (.aconst_null, 1) := of_decide_eq_true hchk
    exact lv_null hx hb hdg (am_keep (st1 := .null :: st) h hR hlocs hs hL kk)
  | iconst n =>
    have h : (fr1, w1) = ((pc + len, lv, .int (Int32.ofInt n) :: st), w) := (Option.some.inj hn).symm
    have hend : W p l e R s m args below meth c H locs cells slots Q (F0 m (pc + len) ls (.int (Int32.ofInt n) :: st.map (am_rv ρ))) := am_keep (st1 := .int (Int32.ofInt n) :: st) h hR hlocs hs hL kk
    have h1 : ((decide (ix = 0) && decide (len = 1) && am_dc M pc (.iconst n) 1) || (decide (ix = 1) && decide (len = 2) && am_dc M pc (.bipush n) 2 && decide ((Int8.ofInt n).toInt32 = Int32.ofInt n)) || (decide (ix = 2) && decide (len = 3) && am_dc M pc (.sipush n) 3 && decide ((Int16.ofInt n).toInt32 = Int32.ofInt n)) || (decide (10 ≤ ix) && ((decide (len = 2) && am_dc M pc (.ldc (ix - 10)) 2) || (decide (len = 3) && am_dc M pc (.ldc_w (ix - 10)) 3)) && am_CI.any (fun e => e.1 == am_own M && e.2.1 == ix - 10 && e.2.2.1 == n))) = true := hchk
    simp only [Bool.or_eq_true, Bool.and_eq_true, decide_eq_true_eq, am_dc] at h1
    rcases h1 with ((⟨⟨-, rfl⟩, hdg⟩ | ⟨⟨⟨-, rfl⟩, hdg⟩, hv⟩) | ⟨⟨⟨-, rfl⟩, hdg⟩, hv⟩) | ⟨⟨-, hdg⟩, hv⟩
    · exact lv_iconst hx hb hdg rfl hend
    · exact lv_bipush hx hb hdg hv hend
    · exact lv_sipush hx hb hdg hv hend
    · obtain ⟨e1, he1, he2⟩ := List.any_eq_true.mp hv
      simp only [Bool.and_eq_true, beq_iff_eq] at he2
      obtain ⟨⟨h7, h8⟩, h9⟩ := he2
      have h10 := am_wd_in (List.all_eq_true.mp am_CI_ok e1 he1)
      rw [h7, h8, h9] at h10
      rcases hdg with ⟨rfl, hdg⟩ | ⟨rfl, hdg⟩
      · exact lv_ldc hx hb hown (hts _ h10) hdg hend
      · exact lv_ldcw hx hb hown (hts _ h10) hdg hend
  | jsr_w n =>
    have h : (fr1, w1) = ((pc + len, lv, .long (Int64.ofInt n) :: st), w) := (Option.some.inj hn).symm
    have hend : W p l e R s m args below meth c H locs cells slots Q (F0 m (pc + len) ls (.long (Int64.ofInt n) :: st.map (am_rv ρ))) := am_keep (st1 := .long (Int64.ofInt n) :: st) h hR hlocs hs hL kk
    have h1 : ((decide (len = 1) && decide (n = 0 ∨ n = 1) && am_dc M pc (.lconst (Fin.ofNat 2 n.toNat)) 1) || (decide (len = 3) && am_dc M pc (.ldc2_w ix) 3 && am_CJ.any (fun e => e.1 == am_own M && e.2.1 == ix && e.2.2.1 == n))) = true := hchk
    simp only [Bool.or_eq_true, Bool.and_eq_true, decide_eq_true_eq, am_dc] at h1
    rcases h1 with ⟨⟨rfl, hv⟩, hdg⟩ | ⟨⟨rfl, hdg⟩, hv⟩
    · rcases hv with rfl | rfl
      · exact lv_lconst hx hb hdg (by decide) hend
      · exact lv_lconst hx hb hdg (by decide) hend
    · obtain ⟨e1, he1, he2⟩ := List.any_eq_true.mp hv
      simp only [Bool.and_eq_true, beq_iff_eq] at he2
      obtain ⟨⟨h7, h8⟩, h9⟩ := he2
      have h10 := am_wd_in (List.all_eq_true.mp am_CJ_ok e1 he1)
      rw [h7, h8, h9] at h10
      exact lv_ldc2 hx hb hown (hts _ h10) hdg hend
  | ldc q =>
    have hn1 : (if q = 1119 then am_push 2 (.ref 1119) (pc, lv, st) w else none) = some (fr1, w1) := hn
    split at hn1
    · have h : (fr1, w1) = ((pc + 2, lv, .ref 1119 :: st), w) := (Option.some.inj hn1).symm
      have h1 : (decide (len = 2) && am_dc M pc (.ldc ix) 2 && decide (am_own M = "ListDesk$Reader" ∧ ix = 96)) = true := hchk
      simp only [Bool.and_eq_true, decide_eq_true_eq, am_dc] at h1
      obtain ⟨⟨-, hdg⟩, ho, rfl⟩ := h1
      have hnil := hU.2.2.2.2.2.2.1
      rw [ho] at hown
      intro T hT X9
      obtain ⟨t, a1, b1⟩ := (am_keep (st1 := .ref 1119 :: st) h hR hlocs hs hL kk) T hT X9
      exact ⟨t, X9.ldcString hx (own := "ListDesk$Reader") (text := "nil") (index := 96) (a := ρ 1119) hown hnil.1 hnil.2 (g := F0 m pc ls (st.map (am_rv ρ))) rfl (by rw [hb]; exact hdg) t a1, b1⟩
    · cases hn1
  | iload i =>
    obtain ⟨x, e1, h⟩ := am_iload_inv hn
    have hg1 := am_lget hL e1
    have h1 : ((decide (len = 2) && am_dc M pc (.iload i) 2) || (decide (len = 1) && decide (i < 4) && am_dc M pc (.iload_n (Fin.ofNat 4 i)) 1)) = true := hchk
    simp only [Bool.or_eq_true, Bool.and_eq_true, decide_eq_true_eq, am_dc] at h1
    rcases h1 with ⟨rfl, hdg⟩ | ⟨⟨rfl, hi⟩, hdg⟩
    · exact lv_iload hx hb hdg hg1 (am_keep (st1 := .int x :: st) h hR hlocs hs hL kk)
    · exact lv_iload_n hx hb hdg (am_fin4 hi) hg1 (am_keep (st1 := .int x :: st) h hR hlocs hs hL kk)
  | lload i =>
    obtain ⟨x, e1, h⟩ := am_lload_inv hn
    have hg1 := am_lget hL e1
    have h1 : ((decide (len = 2) && am_dc M pc (.lload i) 2) || (decide (len = 1) && decide (i < 4) && am_dc M pc (.lload_n (Fin.ofNat 4 i)) 1)) = true := hchk
    simp only [Bool.or_eq_true, Bool.and_eq_true, decide_eq_true_eq, am_dc] at h1
    rcases h1 with ⟨rfl, hdg⟩ | ⟨⟨rfl, hi⟩, hdg⟩
    · exact lv_lload hx hb hdg hg1 (am_keep (st1 := .long x :: st) h hR hlocs hs hL kk)
    · exact lv_lload_n hx hb hdg (am_fin4 hi) hg1 (am_keep (st1 := .long x :: st) h hR hlocs hs hL kk)
  | aload i =>
    have h1 : ((decide (len = 2) && am_dc M pc (.aload i) 2) || (decide (len = 1) && decide (i < 4) && am_dc M pc (.aload_n (Fin.ofNat 4 i)) 1)) = true := hchk
    simp only [Bool.or_eq_true, Bool.and_eq_true, decide_eq_true_eq, am_dc] at h1
    rcases am_aload_inv hn with ⟨x, e1, h⟩ | ⟨e1, h⟩
    · have hg1 := am_lget hL e1
      rcases h1 with ⟨rfl, hdg⟩ | ⟨⟨rfl, hi⟩, hdg⟩
      · exact lv_aload hx hb hdg hg1 (am_keep (st1 := .ref x :: st) h hR hlocs hs hL kk)
      · exact lv_aload_n hx hb hdg (am_fin4 hi) hg1 (am_keep (st1 := .ref x :: st) h hR hlocs hs hL kk)
    · have hg1 := am_lget hL e1
      rcases h1 with ⟨rfl, hdg⟩ | ⟨⟨rfl, hi⟩, hdg⟩
      · exact lv_aloadN hx hb hdg hg1 (am_keep (st1 := .null :: st) h hR hlocs hs hL kk)
      · exact lv_aload_nN hx hb hdg (am_fin4 hi) hg1 (am_keep (st1 := .null :: st) h hR hlocs hs hL kk)
  | istore i =>
    obtain ⟨x, st', e1, hi, h⟩ := am_istore_inv hn
    have e1 : st = .int x :: st' := e1
    subst e1
    have h1 : ((decide (len = 2) && am_dc M pc (.istore i) 2) || (decide (len = 1) && decide (i < 4) && am_dc M pc (.istore_n (Fin.ofNat 4 i)) 1)) = true := hchk
    simp only [Bool.or_eq_true, Bool.and_eq_true, decide_eq_true_eq, am_dc] at h1
    show W p l e R s m args below meth c H locs cells slots Q (F0 m pc ls (.int x :: st'.map (am_rv ρ)))
    rcases h1 with ⟨rfl, hdg⟩ | ⟨⟨rfl, hi4⟩, hdg⟩
    · exact lv_istore hx hb hdg hL hi (am_st1_map ρ lv i (.int x)) (fun ls1 hl1 => am_keep h hR hlocs hs hl1 kk)
    · exact lv_istore_n hx hb hdg (am_fin4 hi4) hL hi (am_st1_map ρ lv i (.int x)) (fun ls1 hl1 => am_keep h hR hlocs hs hl1 kk)
  | lstore i =>
    obtain ⟨x, st', e1, hi, h⟩ := am_lstore_inv hn
    have e1 : st = .long x :: st' := e1
    subst e1
    have h1 : ((decide (len = 2) && am_dc M pc (.lstore i) 2) || (decide (len = 1) && decide (i < 4) && am_dc M pc (.lstore_n (Fin.ofNat 4 i)) 1)) = true := hchk
    simp only [Bool.or_eq_true, Bool.and_eq_true, decide_eq_true_eq, am_dc] at h1
    show W p l e R s m args below meth c H locs cells slots Q (F0 m pc ls (.long x :: st'.map (am_rv ρ)))
    rcases h1 with ⟨rfl, hdg⟩ | ⟨⟨rfl, hi4⟩, hdg⟩
    · exact lv_lstore hx hb hdg hL hi (am_st2_map ρ lv i (.long x)) (fun ls1 hl1 => am_keep h hR hlocs hs hl1 kk)
    · exact lv_lstore_n hx hb hdg (am_fin4 hi4) hL hi (am_st2_map ρ lv i (.long x)) (fun ls1 hl1 => am_keep h hR hlocs hs hl1 kk)
  | astore i =>
    obtain ⟨v, st', hv, e1, hi, h⟩ := am_astore_inv hn
    have e1 : st = v :: st' := e1
    subst e1
    have h1 : ((decide (len = 2) && am_dc M pc (.astore i) 2) || (decide (len = 1) && decide (i < 4) && am_dc M pc (.astore_n (Fin.ofNat 4 i)) 1)) = true := hchk
    simp only [Bool.or_eq_true, Bool.and_eq_true, decide_eq_true_eq, am_dc] at h1
    rcases hv with rfl | ⟨x, rfl⟩
    · show W p l e R s m args below meth c H locs cells slots Q (F0 m pc ls (.null :: st'.map (am_rv ρ)))
      rcases h1 with ⟨rfl, hdg⟩ | ⟨⟨rfl, hi4⟩, hdg⟩
      · exact lv_astoreN hx hb hdg hL hi (am_st1_map ρ lv i .null) (fun ls1 hl1 => am_keep h hR hlocs hs hl1 kk)
      · exact lv_astore_nN hx hb hdg (am_fin4 hi4) hL hi (am_st1_map ρ lv i .null) (fun ls1 hl1 => am_keep h hR hlocs hs hl1 kk)
    · show W p l e R s m args below meth c H locs cells slots Q (F0 m pc ls (.ref (ρ x) :: st'.map (am_rv ρ)))
      rcases h1 with ⟨rfl, hdg⟩ | ⟨⟨rfl, hi4⟩, hdg⟩
      · exact lv_astore hx hb hdg hL hi (am_st1_map ρ lv i (.ref x)) (fun ls1 hl1 => am_keep h hR hlocs hs hl1 kk)
      · exact lv_astore_n hx hb hdg (am_fin4 hi4) hL hi (am_st1_map ρ lv i (.ref x)) (fun ls1 hl1 => am_keep h hR hlocs hs hl1 kk)
  | iinc i n =>
    obtain ⟨x, e1, hi, h⟩ := am_iinc_inv hn
    have hdg : decode (am_b M) pc = .ok (.iinc i n, 3) := of_decide_eq_true hchk
    obtain ⟨k, hk⟩ := List.getElem?_of_mem (List.mem_map_of_mem (f := am_rl ρ) (am_ld_mem e1))
    exact lv_iinc (k := k) hx hb hdg hL hk rfl hi (am_st1_map ρ lv i (.int (x + Int32.ofInt n))) (fun ls1 hl1 => am_keep h hR hlocs hs hl1 kk)
  | iadd =>
    obtain ⟨x, y, st', e1, h⟩ := am_ii_inv hn
    have e1 : st = .int y :: .int x :: st' := e1
    subst e1
    have hdg : decode (am_b M) pc = .ok (.iadd, 1) := of_decide_eq_true hchk
    exact lv_iadd hx hb hdg (am_keep (st1 := .int (x + y) :: st') h hR hlocs hs hL kk)
  | isub =>
    obtain ⟨x, y, st', e1, h⟩ := am_ii_inv hn
    have e1 : st = .int y :: .int x :: st' := e1
    subst e1
    have hdg : decode (am_b M) pc = .ok (.isub, 1) := of_decide_eq_true hchk
    exact lv_isub hx hb hdg (am_keep (st1 := .int (x - y) :: st') h hR hlocs hs hL kk)
  | imul =>
    obtain ⟨x, y, st', e1, h⟩ := am_ii_inv hn
    have e1 : st = .int y :: .int x :: st' := e1
    subst e1
    have hdg : decode (am_b M) pc = .ok (.imul, 1) := of_decide_eq_true hchk
    exact lv_imul hx hb hdg (am_keep (st1 := .int (x * y) :: st') h hR hlocs hs hL kk)
  | iand =>
    obtain ⟨x, y, st', e1, h⟩ := am_ii_inv hn
    have e1 : st = .int y :: .int x :: st' := e1
    subst e1
    have hdg : decode (am_b M) pc = .ok (.iand, 1) := of_decide_eq_true hchk
    exact lv_iand hx hb hdg (am_keep (st1 := .int (x &&& y) :: st') h hR hlocs hs hL kk)
  | ishr =>
    obtain ⟨x, y, st', e1, h⟩ := am_ii_inv hn
    have e1 : st = .int y :: .int x :: st' := e1
    subst e1
    have hdg : decode (am_b M) pc = .ok (.ishr, 1) := of_decide_eq_true hchk
    exact lv_ishr hx hb hdg (am_keep (st1 := .int (x >>> (y &&& 31)) :: st') h hR hlocs hs hL kk)
  | iushr =>
    obtain ⟨x, y, st', e1, h⟩ := am_ii_inv hn
    have e1 : st = .int y :: .int x :: st' := e1
    subst e1
    have hdg : decode (am_b M) pc = .ok (.iushr, 1) := of_decide_eq_true hchk
    exact lv_iushr hx hb hdg rfl (am_keep (st1 := .int _ :: st') h hR hlocs hs hL kk)
  | irem =>
    obtain ⟨x, y, st', e1, hy, h⟩ := am_irem_inv hn
    have e1 : st = .int y :: .int x :: st' := e1
    subst e1
    have hdg : decode (am_b M) pc = .ok (.irem, 1) := of_decide_eq_true hchk
    exact lv_irem hx hb hdg hy (am_keep (st1 := .int (x - x / y * y) :: st') h hR hlocs hs hL kk)
  | ineg =>
    obtain ⟨x, st', e1, h⟩ := am_i1_inv hn
    have e1 : st = .int x :: st' := e1
    subst e1
    have hdg : decode (am_b M) pc = .ok (.ineg, 1) := of_decide_eq_true hchk
    exact lv_ineg hx hb hdg (am_keep (st1 := .int (-x) :: st') h hR hlocs hs hL kk)
  | i2l =>
    obtain ⟨x, st', e1, h⟩ := am_i1_inv hn
    have e1 : st = .int x :: st' := e1
    subst e1
    have hdg : decode (am_b M) pc = .ok (.i2l, 1) := of_decide_eq_true hchk
    exact lv_i2l hx hb hdg rfl (am_keep (st1 := .long x.toInt64 :: st') h hR hlocs hs hL kk)
  | l2i =>
    obtain ⟨x, st', e1, h⟩ := am_l1_inv hn
    have e1 : st = .long x :: st' := e1
    subst e1
    have hdg : decode (am_b M) pc = .ok (.l2i, 1) := of_decide_eq_true hchk
    exact lv_l2i hx hb hdg rfl (am_keep (st1 := .int x.toInt32 :: st') h hR hlocs hs hL kk)
  | land =>
    obtain ⟨x, y, st', e1, h⟩ := am_ll_inv hn
    have e1 : st = .long y :: .long x :: st' := e1
    subst e1
    have hdg : decode (am_b M) pc = .ok (.land, 1) := of_decide_eq_true hchk
    exact lv_land hx hb hdg (am_keep (st1 := .long (x &&& y) :: st') h hR hlocs hs hL kk)
  | lor =>
    obtain ⟨x, y, st', e1, h⟩ := am_ll_inv hn
    have e1 : st = .long y :: .long x :: st' := e1
    subst e1
    have hdg : decode (am_b M) pc = .ok (.lor, 1) := of_decide_eq_true hchk
    exact lv_lor hx hb hdg (am_keep (st1 := .long (x ||| y) :: st') h hR hlocs hs hL kk)
  | lcmp =>
    obtain ⟨x, y, st', e1, h⟩ := am_ll_inv hn
    have e1 : st = .long y :: .long x :: st' := e1
    subst e1
    have hdg : decode (am_b M) pc = .ok (.lcmp, 1) := of_decide_eq_true hchk
    exact W.lcmp hx hb hdg (am_keep (st1 := .int (lg_cmp x y) :: st') h hR hlocs hs hL kk)
  | lshl =>
    obtain ⟨x, y, st', e1, h⟩ := am_li_inv hn
    have e1 : st = .int y :: .long x :: st' := e1
    subst e1
    have hdg : decode (am_b M) pc = .ok (.lshl, 1) := of_decide_eq_true hchk
    exact lv_lshl hx hb hdg rfl (am_keep (st1 := .long _ :: st') h hR hlocs hs hL kk)
  | lshr =>
    obtain ⟨x, y, st', e1, h⟩ := am_li_inv hn
    have e1 : st = .int y :: .long x :: st' := e1
    subst e1
    have hdg : decode (am_b M) pc = .ok (.lshr, 1) := of_decide_eq_true hchk
    exact lv_lshr hx hb hdg rfl (am_keep (st1 := .long _ :: st') h hR hlocs hs hL kk)
  | lushr =>
    obtain ⟨x, y, st', e1, h⟩ := am_li_inv hn
    have e1 : st = .int y :: .long x :: st' := e1
    subst e1
    have hdg : decode (am_b M) pc = .ok (.lushr, 1) := of_decide_eq_true hchk
    exact lv_lushr hx hb hdg rfl (am_keep (st1 := .long _ :: st') h hR hlocs hs hL kk)
  | dup =>
    obtain ⟨v, st', e1, hv, h⟩ := am_dup_inv hn
    have e1 : st = v :: st' := e1
    subst e1
    have hdg : decode (am_b M) pc = .ok (.dup, 1) := of_decide_eq_true hchk
    exact lv_dup hx hb hdg ((am_rv_cat ρ v).trans hv) (am_keep (st1 := v :: v :: st') h hR hlocs hs hL kk)
  | dup2 =>
    have hdg : decode (am_b M) pc = .ok (.dup2, 1) := of_decide_eq_true hchk
    rcases am_dup2_inv hn with ⟨v, st', e1, hv, h⟩ | ⟨v, u, st', e1, hv, hu, h⟩
    · have e1 : st = v :: st' := e1
      subst e1
      exact lv_dup2_2 hx hb hdg ((am_rv_cat ρ v).trans hv) (am_keep (st1 := v :: v :: st') h hR hlocs hs hL kk)
    · have e1 : st = v :: u :: st' := e1
      subst e1
      exact lv_dup2_11 hx hb hdg ((am_rv_cat ρ v).trans hv) ((am_rv_cat ρ u).trans hu) (am_keep (st1 := v :: u :: v :: u :: st') h hR hlocs hs hL kk)
  | pop =>
    obtain ⟨v, st', e1, hv, h⟩ := am_pop_inv hn
    have e1 : st = v :: st' := e1
    subst e1
    have hdg : decode (am_b M) pc = .ok (.pop, 1) := of_decide_eq_true hchk
    exact lv_pop hx hb hdg ((am_rv_cat ρ v).trans hv) (am_keep (st1 := st') h hR hlocs hs hL kk)
  | pop2 =>
    obtain ⟨v, st', e1, hv, h⟩ := am_pop2_inv hn
    have e1 : st = v :: st' := e1
    subst e1
    have hdg : decode (am_b M) pc = .ok (.pop2, 1) := of_decide_eq_true hchk
    exact lv_pop2_2 hx hb hdg ((am_rv_cat ρ v).trans hv) (am_keep (st1 := st') h hR hlocs hs hL kk)
  | goto t =>
    have h : (fr1, w1) = ((t.toNat, lv, st), w) := (Option.some.inj hn).symm
    have h1 : (am_dc M pc (.goto (am_tg pc t)) 3 && decide (0 ≤ t)) = true := hchk
    simp only [Bool.and_eq_true, decide_eq_true_eq, am_dc] at h1
    obtain ⟨hdg, ht0⟩ := h1
    have ht : (pc : Int) + am_tg pc t = (t.toNat : Int) := by unfold am_tg; omega
    exact lv_goto hx hb hdg ht (am_keep h hR hlocs hs hL kk)
  | ifCond cd t =>
    obtain ⟨x, st', e1, h⟩ := am_if_inv hn
    have e1 : st = .int x :: st' := e1
    subst e1
    have h1 : (am_dc M pc (.ifCond cd (am_tg pc t)) 3 && decide (0 ≤ t)) = true := hchk
    simp only [Bool.and_eq_true, decide_eq_true_eq, am_dc] at h1
    obtain ⟨hdg, ht0⟩ := h1
    have ht : (pc : Int) + am_tg pc t = (t.toNat : Int) := by unfold am_tg; omega
    have hbr : ∀ b : Bool, am_holds cd x 0 = b → W p l e R s m args below meth c H locs cells slots Q (F0 m (if b then t.toNat else pc + 3) ls (st'.map (am_rv ρ))) := fun b hbb => by
      have h2 : (fr1, w1) = ((if b then t.toNat else pc + 3, lv, st'), w) := by rw [← hbb]; exact h
      exact am_keep h2 hR hlocs hs hL kk
    cases cd with
    | eq => exact lv_if_eq hx hb hdg ht (fun hc => hbr true (decide_eq_true hc)) (fun hc => hbr false (decide_eq_false hc))
    | ne => exact lv_if_ne hx hb hdg ht (fun hc => hbr true (decide_eq_true hc)) (fun hc => hbr false (decide_eq_false (fun h9 => h9 hc)))
    | lt => exact lv_if_lt hx hb hdg ht (fun hc => hbr true (decide_eq_true hc)) (fun hc => hbr false (decide_eq_false hc))
    | ge => exact lv_if_ge hx hb hdg ht (fun hc => hbr true (decide_eq_true hc)) (fun hc => hbr false (decide_eq_false hc))
    | gt => exact lv_if_gt hx hb hdg ht (fun hc => hbr true (decide_eq_true hc)) (fun hc => hbr false (decide_eq_false hc))
    | le => exact lv_if_le hx hb hdg ht (fun hc => hbr true (decide_eq_true hc)) (fun hc => hbr false (decide_eq_false hc))
  | if_icmp cd t =>
    obtain ⟨x, y, st', e1, h⟩ := am_icmp_inv hn
    have e1 : st = .int y :: .int x :: st' := e1
    subst e1
    have h1 : (am_dc M pc (.if_icmp cd (am_tg pc t)) 3 && decide (0 ≤ t)) = true := hchk
    simp only [Bool.and_eq_true, decide_eq_true_eq, am_dc] at h1
    obtain ⟨hdg, ht0⟩ := h1
    have ht : (pc : Int) + am_tg pc t = (t.toNat : Int) := by unfold am_tg; omega
    have hbr : ∀ b : Bool, am_holds cd x y = b → W p l e R s m args below meth c H locs cells slots Q (F0 m (if b then t.toNat else pc + 3) ls (st'.map (am_rv ρ))) := fun b hbb => by
      have h2 : (fr1, w1) = ((if b then t.toNat else pc + 3, lv, st'), w) := by rw [← hbb]; exact h
      exact am_keep h2 hR hlocs hs hL kk
    cases cd with
    | eq => exact lv_icmp_eq hx hb hdg ht (fun hc => hbr true (decide_eq_true hc)) (fun hc => hbr false (decide_eq_false hc))
    | ne => exact lv_icmp_ne hx hb hdg ht (fun hc => hbr true (decide_eq_true hc)) (fun hc => hbr false (decide_eq_false (fun h9 => h9 hc)))
    | lt => exact lv_icmp_lt hx hb hdg ht (fun hc => hbr true (decide_eq_true hc)) (fun hc => hbr false (decide_eq_false hc))
    | ge => exact lv_icmp_ge hx hb hdg ht (fun hc => hbr true (decide_eq_true hc)) (fun hc => hbr false (decide_eq_false hc))
    | gt => exact lv_icmp_gt hx hb hdg ht (fun hc => hbr true (decide_eq_true hc)) (fun hc => hbr false (decide_eq_false hc))
    | le => exact lv_icmp_le hx hb hdg ht (fun hc => hbr true (decide_eq_true hc)) (fun hc => hbr false (decide_eq_false hc))
  | ifnonnull t =>
    have h1 : (am_dc M pc (.ifnonnull (am_tg pc t)) 3 && decide (0 ≤ t)) = true := hchk
    simp only [Bool.and_eq_true, decide_eq_true_eq, am_dc] at h1
    obtain ⟨hdg, ht0⟩ := h1
    have ht : (pc : Int) + am_tg pc t = (t.toNat : Int) := by unfold am_tg; omega
    rcases am_ifnn_inv hn with ⟨a, st', e1, h⟩ | ⟨st', e1, h⟩
    · have e1 : st = .ref a :: st' := e1
      subst e1
      exact lv_ifnonnull hx hb hdg ht (am_keep h hR hlocs hs hL kk)
    · have e1 : st = .null :: st' := e1
      subst e1
      exact lv_ifnonnullN hx hb hdg (am_keep h hR hlocs hs hL kk)
  | tableswitch d lo hi ts =>
    obtain ⟨x, st', e1, h⟩ := am_table_inv hn
    have e1 : st = .int x :: st' := e1
    subst e1
    have h1 : (am_dc M pc (.tableswitch (am_tg pc d) lo hi (ts.toList.map (am_tg pc)).toArray) len && decide (0 ≤ d) && ts.toList.all (fun t => decide (0 ≤ t)) && decide (lo ≤ hi ∧ ((ts.toList.length : Nat) : Int) = hi - lo + 1)) = true := hchk
    simp only [Bool.and_eq_true, decide_eq_true_eq, am_dc] at h1
    obtain ⟨⟨⟨hdg, hd0⟩, hall⟩, hlh, hln⟩ := h1
    show W p l e R s m args below meth c H locs cells slots Q (F0 m pc ls (.int x :: st'.map (am_rv ρ)))
    by_cases hx1 : x.toInt < lo ∨ hi < x.toInt
    · rw [if_pos hx1] at h
      exact lv_tableOut hx hb hdg hx1 (tgt := d.toNat) (by unfold am_tg; omega) (am_keep h hR hlocs hs hL kk)
    · rw [if_neg hx1] at h
      have hlt : (x.toInt - lo).toNat < ts.toList.length := by omega
      have hg0 : ts.toList[(x.toInt - lo).toNat]? = some (ts.toList.getD (x.toInt - lo).toNat 0) := by
        rw [List.getD_eq_getElem?_getD, List.getElem?_eq_getElem hlt]; rfl
      have h0 : 0 ≤ ts.toList.getD (x.toInt - lo).toNat 0 := of_decide_eq_true (List.all_eq_true.mp hall _ (List.mem_of_getElem? hg0))
      refine lv_tableIn hx hb hdg (fun q => hx1 (Or.inl q)) (fun q => hx1 (Or.inr q)) (off := am_tg pc (ts.toList.getD (x.toInt - lo).toNat 0)) ?_ (tgt := (ts.toList.getD (x.toInt - lo).toNat 0).toNat) (by unfold am_tg; omega) (am_keep h hR hlocs hs hL kk)
      rw [List.getElem?_toArray, List.getElem?_map, hg0]
      rfl
  | getfield q =>
    obtain ⟨a, st', e1, hcase⟩ := am_getf_inv hn
    have e1 : st = .ref a :: st' := e1
    subst e1
    have h1 : (am_dc M pc (.getfield ix) 3 && (if 50000 ≤ q then decide (am_own M = "ListDesk$Reader" ∧ ((q = 50000 ∧ ix = 147) ∨ (q = 50001 ∧ ix = 248) ∨ (q = 50002 ∧ ix = 251))) else am_FL.any (fun e => e.1 == am_own M && e.2.1 == ix && e.2.2.1 == q))) = true := hchk
    simp only [Bool.and_eq_true, am_dc, decide_eq_true_eq] at h1
    obtain ⟨hdg, h1⟩ := h1
    show W p l e R s m args below meth c H locs cells slots Q (F0 m pc ls (.ref (ρ a) :: st'.map (am_rv ρ)))
    rcases hcase with ⟨h5, ha1, ha2, hc⟩ | ⟨h5, fs, v, hw, hv, h⟩
    · rw [if_pos h5] at h1
      obtain ⟨ho, h2⟩ := of_decide_eq_true h1
      rw [ho] at hown
      obtain ⟨j, rfl⟩ : ∃ j : Nat, a = 1000 + j := ⟨a - 1000, by omega⟩
      have hj : j < 19 := by omega
      obtain ⟨-, -, o1, o2, o3⟩ := hU.2.2.2.2.2.1 j hj
      have hN := hU.2.1
      rcases h2 with ⟨rfl, rfl⟩ | ⟨rfl, rfl⟩ | ⟨rfl, rfl⟩
      · rcases hc with ⟨-, h⟩ | ⟨hq, -⟩ | ⟨hq, -⟩
        · rw [show 1000 + j + 100 = 1100 + j by omega] at h
          obtain ⟨cf, k1, fi, f, cell, g1, g2, g3, g4, g5, g6⟩ := o3.kept (fun q h3 h4 => hR.2.2.2.2 q (Nat.not_le.mp h4))
          exact va_Wgetf hx hb hown (va_Nw.use rfl (hN _ _ _ _ _ am_nest2)) g1 g2 g3 g4 g5 rfl rfl hdg (am_keep (st1 := .ref (1100 + j) :: st') h hR hlocs hs hL kk)
        · exact absurd hq (by decide)
        · exact absurd rfl hq
      · rcases hc with ⟨hq, -⟩ | ⟨-, h⟩ | ⟨-, hq, -⟩
        · exact absurd hq (by decide)
        · rw [show 1000 + j - 1000 = j by omega] at h
          obtain ⟨cf, k1, fi, f, cell, g1, g2, g3, g4, g5, g6⟩ := o1.kept (fun q h3 h4 => hR.2.2.2.2 q (Nat.not_le.mp h4))
          exact va_Wgetf hx hb hown (va_Nw.use rfl (hN _ _ _ _ _ am_nest3)) g1 g2 g3 g4 g5 rfl rfl hdg (am_keep (st1 := .int (am_opn.getD j 0) :: st') h hR hlocs hs hL kk)
        · exact absurd rfl hq
      · rcases hc with ⟨hq, -⟩ | ⟨hq, -⟩ | ⟨-, -, h⟩
        · exact absurd hq (by decide)
        · exact absurd hq (by decide)
        · rw [show 1000 + j - 1000 = j by omega] at h
          obtain ⟨cf, k1, fi, f, cell, g1, g2, g3, g4, g5, g6⟩ := o2.kept (fun q h3 h4 => hR.2.2.2.2 q (Nat.not_le.mp h4))
          exact va_Wgetf hx hb hown (va_Nw.use rfl (hN _ _ _ _ _ am_nest4)) g1 g2 g3 g4 g5 rfl rfl hdg (am_keep (st1 := .int (am_ord.getD j 0) :: st') h hR hlocs hs hL kk)
    · rw [if_neg h5] at h1
      obtain ⟨r, hr, hk, hlk⟩ := am_FL_get h1
      obtain ⟨r', hr', hin, hty, hnm, hN⟩ := am_cls _ (am_cls_lt hr)
      cases Option.some.inj (hr.symm.trans hr')
      have he := am_ws_at (ρ := ρ) (cI := cI) (cJ := cJ) (cZ := cZ) hw
      have hv' : (fs.map (am_rv ρ))[q % 100]? = some (am_rv ρ v) := by rw [List.getElem?_map, hv]; rfl
      rcases hlk with ⟨-, hm⟩ | ⟨-, hm⟩
      · exact va_getN hx hb hts hin hown hK hR.1 a he hr (q % 100) hk (va_Nw.use rfl (hU.2.1 _ _ _ _ _ hm)) (fun _ h9 => h9) hv' hdg (am_keep (st1 := v :: st') h hR hlocs hs hL kk)
      · exact va_get hx hb hts hin hown hK hR.1 a he hr (q % 100) hk (hts _ hm) (fun _ h9 => h9) hv' hdg (am_keep (st1 := v :: st') h hR hlocs hs hL kk)
  | putfield q =>
    obtain ⟨v, a, st', fs, e1, hw, hkl, hfit, h⟩ := am_putf_inv hn
    have e1 : st = v :: .ref a :: st' := e1
    subst e1
    have h1 : (am_dc M pc (.putfield ix) 3 && am_FL.any (fun e => e.1 == am_own M && e.2.1 == ix && e.2.2.1 == q) && (match vwCl[q / 100 % 100]? with
      | some r => if q / 10000 = 2 then (r.2.1 (q % 100)).2.2.2 && decide ((r.2.1 (q % 100)).1 = am_own M ∧ (am_y M).name = "<init>") else !(r.2.1 (q % 100)).2.2.2
      | none => false)) = true := hchk
    simp only [Bool.and_eq_true, am_dc, decide_eq_true_eq] at h1
    obtain ⟨⟨hdg, h1⟩, h2⟩ := h1
    obtain ⟨r, hr, hk, hlk⟩ := am_FL_get h1
    obtain ⟨r', hr', hin, hty, hnm, hN⟩ := am_cls _ (am_cls_lt hr)
    cases Option.some.inj (hr.symm.trans hr')
    rw [hr] at h2
    have h2 : (if q / 10000 = 2 then (r.2.1 (q % 100)).2.2.2 && decide ((r.2.1 (q % 100)).1 = am_own M ∧ (am_y M).name = "<init>") else !(r.2.1 (q % 100)).2.2.2) = true := h2
    have he := am_ws_at (ρ := ρ) (cI := cI) (cJ := cJ) (cZ := cZ) hw
    obtain ⟨hn1, hf1⟩ := am_fit_ok (ρ := ρ) hfit
    refine am_wp hx hb hts hin (am_ty (q / 100 % 100)) hty hnm hown hK hR.1 hD hSb a he hr (q % 100) hk ?_ hn1 hf1 (by rw [List.length_map]; exact hkl) hdg (fun H1 locs1 hz hP1 hS1 => ?_)
    · by_cases h3 : q / 10000 = 2
      · rw [if_pos h3] at h2
        simp only [Bool.and_eq_true, decide_eq_true_eq] at h2
        rcases hlk with ⟨h4, -⟩ | ⟨-, hm⟩
        · omega
        · exact Or.inr (Or.inr ⟨h2.1, hini h2.2.2, h2.2.1, hts _ hm⟩)
      · rw [if_neg h3] at h2
        have h2 : (r.2.1 (q % 100)).2.2.2 = false := by simpa using h2
        rcases hlk with ⟨-, hm⟩ | ⟨-, hm⟩
        · exact Or.inr (Or.inl ⟨h2, va_Nw.use rfl (hU.2.1 _ _ _ _ _ hm)⟩)
        · exact Or.inl ⟨h2, hts _ hm⟩
    · refine am_wrote h hR hs hL hz ?_ hS1 kk
      show va_P D vwCl ((am_ws ρ cI cJ cZ w.1).set a (ρ a, .inr (q / 100 % 100, (fs.set (q % 100) v).map (am_rv ρ)))) H1
      rw [List.map_set]
      exact hP1
  | getstatic q =>
    have h1 : (am_dc M pc (.getstatic ix) 3 && decide (am_own M = "ListDesk$Reader" ∧ ((q = 0 ∧ ix = 165) ∨ (q = 1 ∧ ix = 169)))) = true := hchk
    simp only [Bool.and_eq_true, am_dc, decide_eq_true_eq] at h1
    obtain ⟨hdg, ho, h2⟩ := h1
    rw [ho] at hown
    have hkeep : ∀ q : Nat, q < Hb.size → ¬ am_A Hb q → s.heap[q]? = Hb[q]? := fun q h3 _ => hBs.2 q h3
    rcases h2 with ⟨rfl, rfl⟩ | ⟨rfl, rfl⟩
    · have h : (fr1, w1) = ((pc + 3, lv, .ref 1200 :: st), w) := (Option.some.inj hn).symm
      exact va_getsN hx hb (hU.2.2.2.2.1.1.kept hkeep) hSs hown (va_Nw.use rfl (hU.2.1 _ _ _ _ _ am_nest1)) (fun _ h9 => h9) hdg (am_keep (st1 := .ref 1200 :: st) h hR hlocs hs hL kk)
    · have h : (fr1, w1) = ((pc + 3, lv, .ref 1201 :: st), w) := (Option.some.inj hn).symm
      exact va_gets hx hb (hU.2.2.2.1.1.kept hkeep) hSs hown (hts _ am_gs1) (fun _ h9 => h9) hdg (am_keep (st1 := .ref 1201 :: st) h hR hlocs hs hL kk)
  | arraylength =>
    obtain ⟨a, st', n, e1, ha, h⟩ := am_alen_inv hn
    have e1 : st = .ref a :: st' := e1
    subst e1
    have hdg : decode (am_b M) pc = .ok (.arraylength, 1) := of_decide_eq_true hchk
    show W p l e R s m args below meth c H locs cells slots Q (F0 m pc ls (.ref (ρ a) :: st'.map (am_rv ρ)))
    have hkeep : ∀ q : Nat, q < Hb.size → ¬ am_A Hb q → s.heap[q]? = Hb[q]? := fun q h3 _ => hBs.2 q h3
    unfold am_len at ha
    split at ha
    · next h2 =>
      subst h2
      cases ha
      exact va_slen hx hb hU.2.2.1.1 hU.2.2.1.2 (Nat.not_le.mpr hU.2.2.1.2) hSb hdg (am_keep (st1 := .int (Int32.ofNat X.1) :: st') h hR hlocs hs hL kk)
    · split at ha
      · next h2 =>
        subst h2
        cases ha
        exact va_tlen hx hb (hU.2.2.2.2.1.2.kept hkeep) hSs rfl hdg (am_keep (st1 := .int (Int32.ofNat 19) :: st') h hR hlocs hs hL kk)
      · split at ha
        · next t n1 f hw =>
          cases ha
          have he := am_ws_at (ρ := ρ) (cI := cI) (cJ := cJ) (cZ := cZ) hw
          cases t with
          | zero => exact va_alen hx hb hK hR.1 a 0 he rfl rfl hdg (am_keep (st1 := .int (Int32.ofNat n) :: st') h hR hlocs hs hL kk)
          | succ t => exact va_alen hx hb hK hR.1 a 2 he rfl rfl hdg (am_keep (st1 := .int (Int32.ofNat n) :: st') h hR hlocs hs hL kk)
        · next n1 f hw =>
          cases ha
          have he := am_ws_at (ρ := ρ) (cI := cI) (cJ := cJ) (cZ := cZ) hw
          exact va_alen hx hb hK hR.1 a 1 he rfl rfl hdg (am_keep (st1 := .int (Int32.ofNat n) :: st') h hR hlocs hs hL kk)
        · cases ha
  | iaload =>
    obtain ⟨i, a, st', n, f, e1, ha, hi, h⟩ := am_iald_inv hn
    have e1 : st = .int i :: .ref a :: st' := e1
    subst e1
    have hdg : decode (am_b M) pc = .ok (.iaload, 1) := of_decide_eq_true hchk
    show W p l e R s m args below meth c H locs cells slots Q (F0 m pc ls (.int i :: .ref (ρ a) :: st'.map (am_rv ρ)))
    have hkeep : ∀ q : Nat, q < Hb.size → ¬ am_A Hb q → s.heap[q]? = Hb[q]? := fun q h3 _ => hBs.2 q h3
    unfold am_ai at ha
    split at ha
    · next h2 =>
      subst h2
      cases ha
      exact va_sld hx hb hU.2.2.1.1 hU.2.2.1.2 (Nat.not_le.mpr hU.2.2.1.2) hSb hi hdg (am_keep (st1 := .int (f i.toNatClampNeg) :: st') h hR hlocs hs hL kk)
    · split at ha
      · next h2 =>
        subst h2
        cases ha
        exact va_ti hx hb (hU.2.2.2.1.2.kept hkeep) hSs hi rfl hdg (am_keep (st1 := .int (am_sw.getD i.toNatClampNeg 0) :: st') h hR hlocs hs hL kk)
      · split at ha
        · next n1 f1 hw =>
          cases ha
          exact va_iald hx hb hK hR.1 a 0 (am_ws_at hw) rfl hi hdg (am_keep (st1 := .int (f i.toNatClampNeg) :: st') h hR hlocs hs hL kk)
        · cases ha
  | laload =>
    obtain ⟨i, a, st', n, f, e1, hw, hi, h⟩ := am_lald_inv hn
    have e1 : st = .int i :: .ref a :: st' := e1
    subst e1
    have hdg : decode (am_b M) pc = .ok (.laload, 1) := of_decide_eq_true hchk
    exact va_lald hx hb hK hR.1 a 1 (am_ws_at hw) rfl hi hdg (am_keep (st1 := .long (f i.toNatClampNeg) :: st') h hR hlocs hs hL kk)
  | baload =>
    obtain ⟨i, a, st', n, f, e1, hw, hi, h⟩ := am_zald_inv hn
    have e1 : st = .int i :: .ref a :: st' := e1
    subst e1
    have hdg : decode (am_b M) pc = .ok (.baload, 1) := of_decide_eq_true hchk
    exact va_zald hx hb hK hR.1 a 2 (am_ws_at hw) rfl hi hdg (am_keep (st1 := .int (f i.toNatClampNeg) :: st') h hR hlocs hs hL kk)
  | aaload =>
    obtain ⟨i, st', e1, hi, h⟩ := am_aald_inv hn
    have e1 : st = .int i :: .ref 1200 :: st' := e1
    subst e1
    have hdg : decode (am_b M) pc = .ok (.aaload, 1) := of_decide_eq_true hchk
    have hkeep : ∀ q : Nat, q < Hb.size → ¬ am_A Hb q → H[q]? = Hb[q]? := fun q h3 _ => hR.2.2.2.2 q h3
    obtain ⟨cell, g1, g2, g3, g4, g5, g6, -⟩ := hU.2.2.2.2.1.2.kept hkeep
    have hlt : i.toNatClampNeg < 19 := Nat.not_le.mp fun q => hi (Or.inr q)
    exact W.aald hx hb g1 g2 rfl g3 (fun q => hi (q.imp id (fun z => by omega))) (g6 _ hlt) rfl rfl hdg (am_keep (st1 := .ref (1000 + i.toNatClampNeg) :: st') h hR hlocs hs hL kk)
  | iastore =>
    obtain ⟨x, i, a, st', n, f, e1, hw, hi, h⟩ := am_iast_inv hn
    have e1 : st = .int x :: .int i :: .ref a :: st' := e1
    subst e1
    have hdg : decode (am_b M) pc = .ok (.iastore, 1) := of_decide_eq_true hchk
    exact am_wi hx hb hK hR.1 hD hSb a 0 (am_ws_at hw) rfl hi hdg (fun H1 locs1 hz hP1 hS1 => am_wrote h hR hs hL hz hP1 hS1 kk)
  | lastore =>
    obtain ⟨x, i, a, st', n, f, e1, hw, hi, h⟩ := am_last_inv hn
    have e1 : st = .long x :: .int i :: .ref a :: st' := e1
    subst e1
    have hdg : decode (am_b M) pc = .ok (.lastore, 1) := of_decide_eq_true hchk
    exact am_wl hx hb hK hR.1 hD hSb a 1 (am_ws_at hw) rfl hi hdg (fun H1 locs1 hz hP1 hS1 => am_wrote h hR hs hL hz hP1 hS1 kk)
  | bastore =>
    obtain ⟨x, i, a, st', n, f, e1, hw, hi, h⟩ := am_zast_inv hn
    have e1 : st = .int x :: .int i :: .ref a :: st' := e1
    subst e1
    have hdg : decode (am_b M) pc = .ok (.bastore, 1) := of_decide_eq_true hchk
    exact am_wz hx hb hK hR.1 hD hSb a 2 (am_ws_at hw) rfl hi hdg (fun H1 locs1 hz hP1 hS1 => am_wrote h hR hs hL hz hP1 hS1 kk)
  | new q =>
    obtain ⟨hq, hx0, hlen, h⟩ := am_newo_inv hn
    have h1 : (am_dc M pc (.new ix) 3 && am_NW.any (fun e => e.1 == am_own M && e.2.1 == ix && e.2.2.1 == q)) = true := by
      have h2 := hchk
      simp only [am_chk] at h2
      rwa [if_neg (by omega)] at h2
    simp only [Bool.and_eq_true, am_dc, decide_eq_true_eq] at h1
    obtain ⟨hdg, h1⟩ := h1
    obtain ⟨e1, he1, he2⟩ := List.any_eq_true.mp h1
    simp only [Bool.and_eq_true, beq_iff_eq] at he2
    obtain ⟨⟨h7, h8⟩, h9⟩ := he2
    have h10 := List.all_eq_true.mp am_NW_ok e1 he1
    obtain ⟨r, hr, hin, hty, hnm, hN⟩ := am_cls q hq
    unfold am_nww at h10
    rw [h7, h8, h9, hr] at h10
    simp only [Bool.and_eq_true] at h10
    obtain ⟨⟨⟨w1', w2'⟩, w3'⟩, -⟩ := h10
    have hKn := hK.1 q _ hr
    have hsz := hR.2.2.1 hx0
    have hcn : am_cN w1 - am_cN w = 1 ∧ am_sN w1 - am_sN w = r.2.2 := by
      cases h
      rw [hN]
      constructor
      · simp only [am_cN, List.length_append, List.length_cons, List.length_nil]; omega
      · simp only [am_sN]; omega
    rw [hcn.1] at hcc kk
    rw [hcn.2] at hcs kk
    refine W.newcK hx hb hown (hts _ (am_wd_in w1')) (hts _ (am_wd_in w2')) (hts _ (am_wd_in w3')) rfl hdg hcc hcs hKn.2.1 hsz fun H1 kC hkC e1 z1 o1 => ?_
    cases h
    have hρl : ρ w.1.length = Hb.size + w.1.length := hρ _ hlen
    have hk1 : ∀ (k : Nat) (x : Nat × va_E), (am_ws ρ cI cJ cZ w.1)[k]? = some x → H1[x.1]? = H[x.1]? := fun k x hx => o1 x.1 (by rw [← hsz]; exact (hR.1 k x hx).lt)
    have hBa : am_Ba Hb H1 := ⟨by rw [z1]; omega, fun q hq => (o1 q (by omega)).trans (hR.2.2.2.2 q hq)⟩
    have h2 := kk H1 locs ls ⟨?_, by simp only [List.length_append, List.length_cons, List.length_nil]; omega, fun _ => by rw [z1]; simp only [List.length_append, List.length_cons, List.length_nil]; omega, hBa⟩ hL hlocs (by rw [z1]; omega)
    · have h3 : am_rv ρ (.ref w.1.length) = .ref (Hb.size + w.1.length) := by show Value.ref (ρ w.1.length) = _; rw [hρl]
      simp only [List.map_cons, h3] at h2
      exact h2
    · rw [am_ws_push]
      refine (hR.1.kept hk1).app (fun k x hx => ?_)
      have hz : k < 1 := (List.getElem?_eq_some_iff.mp hx).1
      rw [show k = 0 by omega] at hx
      cases hx
      rw [← hρl] at e1
      exact ⟨_, hr, (u_born (am_ty q) hts hin hKn hkC e1 hty).to (fun j hj => am_dvs (by rw [← hN]; exact hj))⟩
  | newarray t =>
    obtain ⟨n, st', cl1, e1, hn0, hnb, hx0, hlen, h, ht⟩ := am_newa_inv hn
    have e1 : st = .int n :: st' := e1
    subst e1
    have hdg : decode (am_b M) pc = .ok (.newarray t, 2) := of_decide_eq_true hchk
    have hsz := hR.2.2.1 hx0
    have hρl : ρ w.1.length = Hb.size + w.1.length := hρ _ hlen
    have hcn : am_cN w1 - am_cN w = 1 ∧ am_sN w1 - am_sN w = n.toNatClampNeg := by
      cases h
      constructor
      · simp only [am_cN, List.length_append, List.length_cons, List.length_nil]; omega
      · simp only [am_sN]; omega
    rw [hcn.1] at hcc kk
    rw [hcn.2] at hcs kk
    cases h
    have hgo : ∀ (ty : FieldType) (cA0 : ClassId), newarray.typeOf t = ty → Cond.arrayClass ty ∈ amTb → componentBytes ty ≤ 8 → (∃ k : Nat, [(cI, FieldType.int), (cJ, .long), (cZ, .boolean)][k]? = some (cA0, ty)) → (va_RA s cA0 ty → s.vm.findClass ("[" ++ ty.toString) = some cA0) → (∀ Hx : Heap, Hx[Hb.size + w.1.length]? = some (arrV cA0 n.toNatClampNeg (fun _ => defaultValue ty)) → va_at D vwCl (Hb.size + w.1.length, am_E ρ cI cJ cZ cl1) Hx) →
        W p l e R s m args below meth c H locs cells slots Q (F0 m pc ls ((Value.int n :: st').map (am_rv ρ))) := by
      intro ty cA0 hty hac hcb hk0 hra hat
      subst hty
      refine va_newaK hx hb (hts _ hac) rfl hdg (n := n) (rest := st'.map (am_rv ρ)) rfl hn0 rfl (by have := Nat.mul_le_mul hnb hcb; omega) hcc hcs hsz fun H1 cA e1 z1 o1 hAr hNm => ?_
      obtain ⟨k0, hk0⟩ := hk0
      have hcA : cA = cA0 := Option.some.inj (hNm.symm.trans (hra (hK.2 k0 _ hk0).2))
      subst hcA
      have hk1 : ∀ (k : Nat) (x : Nat × va_E), (am_ws ρ cI cJ cZ w.1)[k]? = some x → H1[x.1]? = H[x.1]? := fun k x hx => o1 x.1 (by rw [← hsz]; exact (hR.1 k x hx).lt)
      have hBa : am_Ba Hb H1 := ⟨by rw [z1]; omega, fun q hq => (o1 q (by omega)).trans (hR.2.2.2.2 q hq)⟩
      have h2 := kk H1 locs ls ⟨?_, by simp only [List.length_append, List.length_cons, List.length_nil]; omega, fun _ => by rw [z1]; simp only [List.length_append, List.length_cons, List.length_nil]; omega, hBa⟩ hL hlocs (by rw [z1]; omega)
      · have h3 : am_rv ρ (.ref w.1.length) = .ref (Hb.size + w.1.length) := by show Value.ref (ρ w.1.length) = _; rw [hρl]
        simp only [List.map_cons, h3] at h2
        exact h2
      · rw [am_ws_push]
        refine (hR.1.kept hk1).app (fun k x hx => ?_)
        have hz : k < 1 := (List.getElem?_eq_some_iff.mp hx).1
        rw [show k = 0 by omega] at hx
        cases hx
        rw [hρl]
        exact hat H1 e1
    rcases ht with ⟨rfl, rfl⟩ | ⟨rfl, rfl⟩ | ⟨rfl, rfl⟩
    · exact hgo .int cI rfl am_ac_int (by decide) ⟨0, rfl⟩ (fun h => h) (fun Hx hh => hh)
    · exact hgo .boolean cZ rfl am_ac_boolean (by decide) ⟨2, rfl⟩ (fun h => h) (fun Hx hh => hh)
    · exact hgo .long cJ rfl am_ac_long (by decide) ⟨1, rfl⟩ (fun h => h) (fun Hx hh => hh)
  | invokevirtual j =>
    have hn1 : (if 900 ≤ j then am_bi j (pc, lv, st) w else none) = some (fr1, w1) := hn
    split at hn1
    · next h9 => exact hbi j rfl h9
    · cases hn1
  | invokespecial j =>
    have hn1 : (if 900 ≤ j then am_oi j (pc, lv, st) w else none) = some (fr1, w1) := hn
    split at hn1
    · next h9 =>
      obtain ⟨a, st', e1, hq, hcat, h⟩ := am_oi_inv hn1
      have e1 : st = .ref a :: st' := e1
      subst e1
      have h1 : (am_dc M pc (.invokespecial ix) 3 && am_OB.any (fun e => e.1 == am_own M && e.2.1 == ix)) = true := by
        have h2 := hchk
        simp only [am_chk] at h2
        rwa [if_pos h9] at h2
      simp only [Bool.and_eq_true, am_dc, decide_eq_true_eq] at h1
      obtain ⟨hdg, h1⟩ := h1
      obtain ⟨e2, he1, he2⟩ := List.any_eq_true.mp h1
      simp only [Bool.and_eq_true, beq_iff_eq] at he2
      obtain ⟨h7, h8⟩ := he2
      have h10 := am_wd_in (List.all_eq_true.mp am_OB_ok e2 he1)
      rw [h7, h8] at h10
      have hc2 : ((st'.map (am_rv ρ)).map fun v => v.category).sum ≤ 8 := by
        rw [List.map_map]
        have : ((fun v : Value => v.category) ∘ am_rv ρ) = fun v => v.category := by funext v; exact am_rv_cat ρ v
        rw [this]; exact hcat
      have hr8 := lv_room (m := m) (pc := pc) (ls := ls) (rest := (Value.ref (ρ a) :: st'.map (am_rv ρ))) hc2
      refine W.objInit hx hb hown (hts _ h10) (hts _ am_ob1) (hts _ am_ob2) rfl (by rw [hml]; exact hL.1) rfl hdg (by omega) (by
        show 2 * (F0 m pc ls (Value.ref (ρ a) :: st'.map (am_rv ρ))).monitorRoom + ((st'.map (am_rv ρ)).map fun v => v.category).sum + 12 ≤ R.locals
        omega) ?_
      exact am_keep h hR hlocs hs hL kk
    · cases hn1
  | _ => exact absurd hn (by simp [am_next])

end PLAIN
end
section
/-! a whole run of AM is a run of the JVM -/
theorem am_bi_w {q : Nat} {fr fr1 : amF} {w w1 : amW} (h : am_bi q fr w = some (fr1, w1)) : w1 = w := by
  unfold am_bi at h
  split at h
  · split at h
    · split at h
      · cases h; rfl
      · split at h
        · cases h; rfl
        · cases h
    · split at h
      · cases h; rfl
      · cases h
    · cases h
  · cases h
set_option maxHeartbeats 4000000 in
theorem am_next_mono {X : amX} {mL len : Nat} {ins : Instr} {fr fr1 : amF} {w w1 : amW} (h : am_next X mL ins len fr w = some (fr1, w1)) : am_cN w ≤ am_cN w1 ∧ am_sN w ≤ am_sN w1 := by
  cases ins with
  | aconst_null => cases h; exact ⟨Nat.le_refl _, Nat.le_refl _⟩
  | iconst n => cases h; exact ⟨Nat.le_refl _, Nat.le_refl _⟩
  | jsr_w n => cases h; exact ⟨Nat.le_refl _, Nat.le_refl _⟩
  | goto t => cases h; exact ⟨Nat.le_refl _, Nat.le_refl _⟩
  | ldc q =>
    have h1 : (if q = 1119 then am_push 2 (.ref 1119) fr w else none) = some (fr1, w1) := h
    split at h1
    · cases h1; exact ⟨Nat.le_refl _, Nat.le_refl _⟩
    · cases h1
  | iload i =>
    obtain ⟨x, e1, h⟩ := am_iload_inv h
    cases h; exact ⟨Nat.le_refl _, Nat.le_refl _⟩
  | lload i =>
    obtain ⟨x, e1, h⟩ := am_lload_inv h
    cases h; exact ⟨Nat.le_refl _, Nat.le_refl _⟩
  | aload i =>
    rcases am_aload_inv h with ⟨x, e1, h⟩ | ⟨e1, h⟩
    · cases h; exact ⟨Nat.le_refl _, Nat.le_refl _⟩
    · cases h; exact ⟨Nat.le_refl _, Nat.le_refl _⟩
  | istore i =>
    obtain ⟨x, st, e1, hi, h⟩ := am_istore_inv h
    cases h; exact ⟨Nat.le_refl _, Nat.le_refl _⟩
  | lstore i =>
    obtain ⟨x, st, e1, hi, h⟩ := am_lstore_inv h
    cases h; exact ⟨Nat.le_refl _, Nat.le_refl _⟩
  | astore i =>
    obtain ⟨v, st, hv, e1, hi, h⟩ := am_astore_inv h
    cases h; exact ⟨Nat.le_refl _, Nat.le_refl _⟩
  | iinc i n =>
    obtain ⟨x, e1, hi, h⟩ := am_iinc_inv h
    cases h; exact ⟨Nat.le_refl _, Nat.le_refl _⟩
  | iadd =>
    obtain ⟨x, y, st, e1, h⟩ := am_ii_inv h
    cases h; exact ⟨Nat.le_refl _, Nat.le_refl _⟩
  | isub =>
    obtain ⟨x, y, st, e1, h⟩ := am_ii_inv h
    cases h; exact ⟨Nat.le_refl _, Nat.le_refl _⟩
  | imul =>
    obtain ⟨x, y, st, e1, h⟩ := am_ii_inv h
    cases h; exact ⟨Nat.le_refl _, Nat.le_refl _⟩
  | iand =>
    obtain ⟨x, y, st, e1, h⟩ := am_ii_inv h
    cases h; exact ⟨Nat.le_refl _, Nat.le_refl _⟩
  | ishr =>
    obtain ⟨x, y, st, e1, h⟩ := am_ii_inv h
    cases h; exact ⟨Nat.le_refl _, Nat.le_refl _⟩
  | iushr =>
    obtain ⟨x, y, st, e1, h⟩ := am_ii_inv h
    cases h; exact ⟨Nat.le_refl _, Nat.le_refl _⟩
  | irem =>
    obtain ⟨x, y, st, e1, hy, h⟩ := am_irem_inv h
    cases h; exact ⟨Nat.le_refl _, Nat.le_refl _⟩
  | ineg =>
    obtain ⟨x, st, e1, h⟩ := am_i1_inv h
    cases h; exact ⟨Nat.le_refl _, Nat.le_refl _⟩
  | i2l =>
    obtain ⟨x, st, e1, h⟩ := am_i1_inv h
    cases h; exact ⟨Nat.le_refl _, Nat.le_refl _⟩
  | l2i =>
    obtain ⟨x, st, e1, h⟩ := am_l1_inv h
    cases h; exact ⟨Nat.le_refl _, Nat.le_refl _⟩
  | land =>
    obtain ⟨x, y, st, e1, h⟩ := am_ll_inv h
    cases h; exact ⟨Nat.le_refl _, Nat.le_refl _⟩
  | lor =>
    obtain ⟨x, y, st, e1, h⟩ := am_ll_inv h
    cases h; exact ⟨Nat.le_refl _, Nat.le_refl _⟩
  | lcmp =>
    obtain ⟨x, y, st, e1, h⟩ := am_ll_inv h
    cases h; exact ⟨Nat.le_refl _, Nat.le_refl _⟩
  | lshl =>
    obtain ⟨x, y, st, e1, h⟩ := am_li_inv h
    cases h; exact ⟨Nat.le_refl _, Nat.le_refl _⟩
  | lshr =>
    obtain ⟨x, y, st, e1, h⟩ := am_li_inv h
    cases h; exact ⟨Nat.le_refl _, Nat.le_refl _⟩
  | lushr =>
    obtain ⟨x, y, st, e1, h⟩ := am_li_inv h
    cases h; exact ⟨Nat.le_refl _, Nat.le_refl _⟩
  | dup =>
    obtain ⟨v, st, e1, hv, h⟩ := am_dup_inv h
    cases h; exact ⟨Nat.le_refl _, Nat.le_refl _⟩
  | pop =>
    obtain ⟨v, st, e1, hv, h⟩ := am_pop_inv h
    cases h; exact ⟨Nat.le_refl _, Nat.le_refl _⟩
  | pop2 =>
    obtain ⟨v, st, e1, hv, h⟩ := am_pop2_inv h
    cases h; exact ⟨Nat.le_refl _, Nat.le_refl _⟩
  | dup2 =>
    rcases am_dup2_inv h with ⟨v, st, e1, hv, h⟩ | ⟨v, u, st, e1, hv, hu, h⟩
    · cases h; exact ⟨Nat.le_refl _, Nat.le_refl _⟩
    · cases h; exact ⟨Nat.le_refl _, Nat.le_refl _⟩
  | ifCond c t =>
    obtain ⟨x, st, e1, h⟩ := am_if_inv h
    cases h; exact ⟨Nat.le_refl _, Nat.le_refl _⟩
  | if_icmp c t =>
    obtain ⟨x, y, st, e1, h⟩ := am_icmp_inv h
    cases h; exact ⟨Nat.le_refl _, Nat.le_refl _⟩
  | ifnonnull t =>
    rcases am_ifnn_inv h with ⟨a, st, e1, h⟩ | ⟨st, e1, h⟩
    · cases h; exact ⟨Nat.le_refl _, Nat.le_refl _⟩
    · cases h; exact ⟨Nat.le_refl _, Nat.le_refl _⟩
  | tableswitch d lo hi ts =>
    obtain ⟨x, st, e1, h⟩ := am_table_inv h
    cases h; exact ⟨Nat.le_refl _, Nat.le_refl _⟩
  | getfield q =>
    obtain ⟨a, st, e1, hc⟩ := am_getf_inv h
    rcases hc with ⟨-, -, -, ⟨-, h⟩ | ⟨-, h⟩ | ⟨-, -, h⟩⟩ | ⟨-, fs, v, -, -, h⟩
    · cases h; exact ⟨Nat.le_refl _, Nat.le_refl _⟩
    · cases h; exact ⟨Nat.le_refl _, Nat.le_refl _⟩
    · cases h; exact ⟨Nat.le_refl _, Nat.le_refl _⟩
    · cases h; exact ⟨Nat.le_refl _, Nat.le_refl _⟩
  | putfield q =>
    obtain ⟨v, a, st, fs, e1, hw, hk, hf, h⟩ := am_putf_inv h
    cases h; exact ⟨by simp [am_cN], Nat.le_refl _⟩
  | getstatic q =>
    have h1 : (if q = 0 then am_push 3 (.ref 1200) fr w else if q = 1 then am_push 3 (.ref 1201) fr w else none) = some (fr1, w1) := h
    split at h1
    · cases h1; exact ⟨Nat.le_refl _, Nat.le_refl _⟩
    · split at h1
      · cases h1; exact ⟨Nat.le_refl _, Nat.le_refl _⟩
      · cases h1
  | arraylength =>
    obtain ⟨a, st, n, e1, ha, h⟩ := am_alen_inv h
    cases h; exact ⟨Nat.le_refl _, Nat.le_refl _⟩
  | iaload =>
    obtain ⟨i, a, st, n, f, e1, ha, hi, h⟩ := am_iald_inv h
    cases h; exact ⟨Nat.le_refl _, Nat.le_refl _⟩
  | laload =>
    obtain ⟨i, a, st, n, f, e1, ha, hi, h⟩ := am_lald_inv h
    cases h; exact ⟨Nat.le_refl _, Nat.le_refl _⟩
  | baload =>
    obtain ⟨i, a, st, n, f, e1, ha, hi, h⟩ := am_zald_inv h
    cases h; exact ⟨Nat.le_refl _, Nat.le_refl _⟩
  | aaload =>
    obtain ⟨i, st, e1, hi, h⟩ := am_aald_inv h
    cases h; exact ⟨Nat.le_refl _, Nat.le_refl _⟩
  | iastore =>
    obtain ⟨x, i, a, st, n, f, e1, hw, hi, h⟩ := am_iast_inv h
    cases h; exact ⟨by simp [am_cN], Nat.le_refl _⟩
  | lastore =>
    obtain ⟨x, i, a, st, n, f, e1, hw, hi, h⟩ := am_last_inv h
    cases h; exact ⟨by simp [am_cN], Nat.le_refl _⟩
  | bastore =>
    obtain ⟨x, i, a, st, n, f, e1, hw, hi, h⟩ := am_zast_inv h
    cases h; exact ⟨by simp [am_cN], Nat.le_refl _⟩
  | new c =>
    obtain ⟨h1, h2, h3, h⟩ := am_newo_inv h
    cases h; constructor
    · simp only [am_cN, List.length_append, List.length_cons, List.length_nil]; omega
    · simp only [am_sN]; omega
  | newarray t =>
    obtain ⟨n, st, c, e1, h1, h2, h3, h4, h, ht⟩ := am_newa_inv h
    cases h; constructor
    · simp only [am_cN, List.length_append, List.length_cons, List.length_nil]; omega
    · simp only [am_sN]; omega
  | invokevirtual q =>
    have h1 : (if 900 ≤ q then am_bi q fr w else none) = some (fr1, w1) := h
    split at h1
    · rw [am_bi_w h1]; exact ⟨Nat.le_refl _, Nat.le_refl _⟩
    · cases h1
  | invokespecial q =>
    have h1 : (if 900 ≤ q then am_oi q fr w else none) = some (fr1, w1) := h
    split at h1
    · obtain ⟨a, st, e1, hq, hc, h⟩ := am_oi_inv h1
      cases h; exact ⟨Nat.le_refl _, Nat.le_refl _⟩
    · cases h1
  | _ => exact absurd h (by simp [am_next])

theorem am_MC_ok : (am_Ms.zip am_MC).all (fun q => q.2 == 99 || (vwCl[q.2]?.map (fun r => r.1)) == some (am_y q.1).cls) = true := by decide +kernel
theorem am_MC_len : am_MC.length = am_Ms.length := by decide +kernel
theorem am_MC_get {j : Nat} {M : amM} (h : am_M j = some M) : am_MC.getD j 99 = 99 ∨ ∃ r, vwCl[am_MC.getD j 99]? = some r ∧ r.1 = (am_y M).cls := by
  have h1 : am_Ms[j]? = some M := h
  have hj : j < am_Ms.length := (List.getElem?_eq_some_iff.mp h1).1
  have hj2 : j < am_MC.length := by rw [am_MC_len]; exact hj
  have h2 : (am_Ms.zip am_MC)[j]? = some (M, am_MC[j]) := by
    rw [List.getElem?_zip_eq_some]
    exact ⟨h1, List.getElem?_eq_getElem hj2⟩
  have h3 := List.all_eq_true.mp am_MC_ok _ (List.mem_of_getElem? h2)
  have h4 : am_MC.getD j 99 = am_MC[j] := by simp [List.getD, List.getElem?_eq_getElem hj2]
  rw [h4]
  simp only [Bool.or_eq_true, beq_iff_eq] at h3
  rcases h3 with h3 | h3
  · exact Or.inl h3
  · right
    cases hv : vwCl[am_MC[j]]? with
    | none => rw [hv] at h3; simp at h3
    | some r =>
      rw [hv] at h3
      exact ⟨r, rfl, by simpa using h3⟩
theorem am_chk_at {M : amM} (hM : M ∈ am_Ms) {pc len ix : Nat} {ins : Instr} (h : am_at M pc = some (ins, len, ix)) : am_chk M (pc, ins, len, ix) = true := by
  simp only [am_at, Option.map_eq_some_iff] at h
  obtain ⟨q, h1, h2⟩ := h
  have h3 := List.find?_some h1
  have h4 := List.mem_of_find?_eq_some h1
  have h5 : q.1 = pc := by simpa using h3
  have h6 : q = (pc, ins, len, ix) := by rw [← h5, ← h2]
  rw [← h6]
  exact List.all_eq_true.mp (am_chk_all M hM) q h4
/-- the words of a throw -/
def am_nms : List String := ["java/lang/RuntimeException", "java/lang/Exception"]
def am_tw (q : String × Nat × Nat × String × Nat × Nat) : List Cond := Cond.classLink q.1 q.2.1 (am_ex q.2.2.2.2.2) :: Cond.initialized (am_ex q.2.2.2.2.2) :: vx_atS q.1 q.2.2.2.2.1 (am_ex q.2.2.2.2.2) am_nms
/-- words about how exceptions are caught in the law -/
def am_cw : List Cond := [.castable (am_ex 0) (am_ex 0), .castable (am_ex 1) (am_ex 1), .castable (am_ex 2) (am_ex 2), .classLink "ListDeskLaw" 13 (am_ex 0), .classLink "ListDeskLaw" 15 (am_ex 1), .classLink "ListDeskLaw" 30 (am_ex 2)]
def am_V (Hb : Heap) (U : State) : Prop :=
  vx_Zq Bundle.tN "UNASSIGNED_STACK" Bundle.steD (am_A Hb) U Hb ∧ vx_Zq Bundle.tN "SUPPRESSED_SENTINEL" Bundle.listD (am_A Hb) U Hb ∧
  (∀ q ∈ am_TH, ∃ sa, vk_R q.1 q.2.2.1 q.2.2.2.1 sa U) ∧ (∀ q ∈ am_TH, ∀ w ∈ am_tw q, w.before #[] U = true) ∧ (∀ w ∈ am_cw, w.before #[] U = true) ∧ (∀ i j, i < 3 → j < 3 → i ≠ j → va_Nc (am_ex i) (am_ex j) U)
theorem am_tw_ok : am_TH.all (fun q => (am_tw q).all (fun w => w.keepsFace && w.onTables && vx_ot w) && Bundle.fit (am_ex q.2.2.2.2.2) && decide (q.2.2.2.2.2 < 3)) = true := by decide +kernel
theorem am_cw_ok : am_cw.all (fun w => w.keepsFace && w.onTables) = true := by decide +kernel
theorem am_face {w : Cond} {s U : State} (hW : s.WarmedH U.vm) (hk : w.keepsFace = true) (ht : w.onTables = true) (h : w.before #[] s = true) : w.before #[] U = true :=
  va_tabs ht (rfl : (s.setVm U.vm).vm = U.vm) (Cond.before_shiftedFace (State.Shifted.of_warmed hW) w hk h)
theorem am_tw_get {q : String × Nat × Nat × String × Nat × Nat} (hq : q ∈ am_TH) : (∀ w ∈ am_tw q, w.keepsFace = true ∧ w.onTables = true ∧ vx_ot w = true) ∧ Bundle.fit (am_ex q.2.2.2.2.2) = true ∧ q.2.2.2.2.2 < 3 := by
  have h := List.all_eq_true.mp am_tw_ok q hq
  simp only [Bool.and_eq_true, decide_eq_true_eq] at h
  refine ⟨fun w hw => ?_, h.1.2, h.2⟩
  have h1 := List.all_eq_true.mp h.1.1 w hw
  simp only [Bool.and_eq_true] at h1
  exact ⟨h1.1.1, h1.1.2, h1.2⟩
theorem am_V.warm {Hb : Heap} {s U : State} (hW : s.WarmedH U.vm) (h : am_V Hb s) : am_V Hb U := by
  obtain ⟨h1, h2, h3, h4, h5, h6⟩ := h
  have ha := hW.alike
  refine ⟨vx_Zq.moved ha h1, vx_Zq.moved ha h2, fun q hq => ?_, fun q hq w hw => ?_, fun w hw => ?_, fun i j hi hj hij => va_Nc.moved ha (h6 i j hi hj hij)⟩
  · obtain ⟨sa, hsa⟩ := h3 q hq
    exact ⟨sa, vk_R.warm hW hsa⟩
  · obtain ⟨k1, k2, -⟩ := (am_tw_get hq).1 w hw
    exact am_face hW k1 k2 (h4 q hq w hw)
  · have k := List.all_eq_true.mp am_cw_ok w hw
    simp only [Bool.and_eq_true] at k
    exact am_face hW k.1 k.2 (h5 w hw)
def am_rm (d mc ms : Nat) : Room := { frames := d + 10, cells := mc, slots := ms, locals := 64 * d + 400 }
def am_Pc (ρ : Nat → Nat) (D : va_G) (cI cJ cZ : ClassId) (Hb : Heap) (X : amX) (as : List Value) (w : amW) : Array Value → State → Prop := fun v U => v = (as.map (am_rv ρ)).toArray ∧ am_Rep ρ D cI cJ cZ Hb w U.heap ∧ am_U ρ D cI cJ cZ Hb X U ∧ am_V Hb U
def am_Qc (ρ : Nat → Nat) (D : va_G) (cI cJ cZ : ClassId) (Hb : Heap) (o : amO) (w' : amW) : Array Value → State → Outcome → State → Prop := fun _ st oc t => ∃ v, o = .inl v ∧ oc = .returned (v.map (am_rv ρ)) ∧ am_Rep ρ D cI cJ cZ Hb w' t.heap ∧ st.heap.size ≤ t.heap.size
def am_XC (ρ : Nat → Nat) (D : va_G) (cI cJ cZ : ClassId) (Hb : Heap) (o : amO) (w' : amW) : String → State → State → Prop := fun E st t => ∃ x, o = .inr x ∧ E = am_ex x ∧ x < 3 ∧ am_Rep ρ D cI cJ cZ Hb w' t.heap ∧ st.heap.size ≤ t.heap.size
theorem am_Pc_blind {ρ : Nat → Nat} {D : va_G} {cI cJ cZ : ClassId} {Hb : Heap} {X : amX} {as : List Value} {w : amW} : FrameBlind (am_Pc ρ D cI cJ cZ Hb X as w) := fun a U g mk q => ⟨q.1, q.2.1, am_U.warm (s := U) (U := U.calling g mk a) (State.WarmedH.refl U) q.2.2.1, am_V.warm (s := U) (U := U.calling g mk a) (State.WarmedH.refl U) q.2.2.2⟩
/-- what is known of the calls: each is met by the JVM, within a room for d calls -/
def am_ok (l : Launch) (ρ : Nat → Nat) (D : va_G) (cI cJ cZ : ClassId) (Hb : Heap) (X : amX) (call : amK) (d : Nat) : Prop := ∀ j as w o w', call j as w o w' → (am_cN w ≤ am_cN w' ∧ am_sN w ≤ am_sN w') ∧ ∃ M, am_M j = some M ∧ M ≠ am_m188 ∧
  vx_Met l (am_y M) (am_cdw M :: amTb) (am_rm d (am_cN w' - am_cN w) (am_sN w' - am_sN w)) (am_Pc ρ D cI cJ cZ Hb X as w) (am_Qc ρ D cI cJ cZ Hb o w') (am_XC ρ D cI cJ cZ Hb o w') (am_cN w' - am_cN w) (am_sN w' - am_sN w) (am_A Hb)
theorem am_good {M : amM} (h : am_cdw M ∈ amTb) : GoodIn amTb (am_cdw M :: amTb) := by
  have h1 : GoodIn amTb amTb := fun w hw => ⟨hw, good_of_word (List.mem_filter.mp hw).2⟩
  intro w hw
  rcases List.mem_cons.mp hw with rfl | hw
  · exact h1 _ h
  · exact h1 w hw
theorem am_good1 {w : Cond} (h : w ∈ amTb) : w ∈ amTb ∧ ((w.onTables && w.keeps) = true ∨ ∃ ty, w = .arrayClass ty) := ⟨h, good_of_word (List.mem_filter.mp h).2⟩
theorem am_CL_get {own : String} {ix k j : Nat} (h : am_CL.any (fun e => e.1 == own && e.2.1 == ix && e.2.2.1 == k && e.2.2.2.1 == j) = true) {M : amM} (hM : am_M j = some M) : Cond.methodLink own ix (am_y M) ∈ amTb ∧ (k = 2 → Cond.static (am_y M) ∈ amTb) ∧ (k ≠ 2 → Cond.instanceMethod (am_y M) ∈ amTb ∧ am_hh M = []) ∧ (k = 0 → Cond.selects (am_y M).cls (am_y M) (am_y M) ∈ amTb) ∧ (k = 1 → (am_y M).name = "<init>" ∧ am_rt M = none) := by
  obtain ⟨e, he, h1⟩ := List.any_eq_true.mp h
  simp only [Bool.and_eq_true, beq_iff_eq] at h1
  obtain ⟨⟨⟨rfl, rfl⟩, rfl⟩, rfl⟩ := h1
  have h2 := List.all_eq_true.mp am_CL_ok e he
  unfold am_clw at h2
  rw [hM] at h2
  split at h2
  · next M' p hM' hp =>
    cases hM'
    simp only [Bool.and_eq_true] at h2
    obtain ⟨⟨⟨g1, g2⟩, g3⟩, g4⟩ := h2
    refine ⟨am_wd_in g1, fun hk => ?_, fun hk => ?_, fun hk => ?_, fun hk => ?_⟩
    · rw [if_pos hk] at g2; exact am_wd_in g2
    · rw [if_neg hk] at g2
      simp only [Bool.and_eq_true, decide_eq_true_eq] at g2
      exact ⟨am_wd_in g2.1, g2.2⟩
    · rw [if_pos hk] at g3; exact am_wd_in g3
    · rw [if_pos hk] at g4; exact of_decide_eq_true g4
  · cases h2
theorem am_cat (ρ : Nat → Nat) (st : List Value) : ((st.map (am_rv ρ)).map fun v => v.category).sum = (st.map fun v => v.category).sum := by
  rw [List.map_map]
  have : ((fun v : Value => v.category) ∘ am_rv ρ) = fun v => v.category := by funext v; exact am_rv_cat ρ v
  rw [this]
section RUNI
variable {p : Program} {l : Launch} {e : Env} {R : Room} {s : State} {m : MethodId} {args : Array Value} {below : List Frame} {meth : Method} {c : Code} {H : Heap} {locs : List Loc} {cells slots : Nat}
variable {y : MethodName} {bytes cc : ByteArray} {maxL nL mc ms n index : Nat} {ws : List Cond} {rm : Room} {Pc : Array Value → State → Prop} {Qc : Array Value → State → Outcome → State → Prop} {XC : String → State → State → Prop} {free : Addr → Prop} {Ts : List Cond} {own : String} {b : Addr} {As rest : List Value} {g : JFrame}
theorem am_runI (S : CallFix p m c cc nL s args Ts own) (hM : vx_Met l y ws rm Pc Qc XC mc ms free) (hX : ∀ E st t, ¬ XC E st t) (cw : CallB R s args own index y bytes maxL none ws rm mc ms n ∧ y.name = "<init>" ∧ (Cond.instanceMethod y).before args s = true) (hp : PreS s H Pc (.ref b :: As))
    (hg : g.method = m) (hn : As.length = n) (hsize : g.locals.size = nL) (hstack : g.stack = As.reverse ++ .ref b :: rest) (hW : 2 * g.monitorRoom + (rest.map fun v => v.category).sum ≤ 8) (hdg : decode cc g.pc = .ok (.invokespecial index, 3)) (hf : cells + mc ≤ R.cells ∧ slots + ms ≤ R.slots) :
    vx_Run p l e R s m args below meth c H locs cells slots mc ms g rest (Qc (Value.ref b :: As).toArray) XC free := by
  have hM' : Met l y ws rm Pc Qc mc ms free := by
    intro p e ha hc hk s m args below hf happ hP hK
    obtain ⟨n, o, h1, h2, h3, h4⟩ := hM p e ha hc hk s m args below hf happ hP hK
    rcases h4 with h4 | ⟨q, -, E, ce, L, h5, -⟩
    · exact ⟨n, o, h1, h2, h3, h4⟩
    · exact absurd h5 (hX _ _ _)
  have h := va_runI (l := l) (e := e) (below := below) (meth := meth) (H := H) (locs := locs) (cells := cells) (slots := slots) (rest := rest) S hM' cw hp hg hn hsize hstack hW hdg hf
  intro T hT X0
  obtain ⟨v, st₀, t, T', L, h0, X', hL, e1, e2, hq, st⟩ := h T hT X0
  exact Or.inl ⟨v, st₀, t, T', L, h0, X', hL, e1, e2, hq, st⟩
end RUNI
section RUN
variable {p : Program} {l : Launch} {e : Env} {R : Room} {s : State} {m : MethodId} {args : Array Value} {below : List Frame} {meth : Method} {c : Code} {H : Heap} {locs : List Loc} {cells slots : Nat} {Q : State → Prop}
variable {ρ : Nat → Nat} {D : va_G} {cI cJ cZ : ClassId} {Hb : Heap} {X : amX} {M : amM}
set_option maxHeartbeats 4000000 in
set_option maxRecDepth 100000 in
theorem am_run (hF : am_Fr p R s m args meth c ρ D cI cJ cZ Hb X M) (hV : am_V Hb s) {pc len ix j dd mc ms : Nat} {ins : Instr} {st as rest : List Value} {w : amW} {ls : Array Slot} {M' : amM} {Qc : Array Value → State → Outcome → State → Prop} {XC : String → State → State → Prop}
    (hchk : am_chk M (pc, ins, len, ix) = true) (hinv : am_inv ins w st = some (j, as, rest)) (hM' : am_M j = some M') (hne : M' ≠ am_m188) (hR : am_Rep ρ D cI cJ cZ Hb w H) (hsz : ls.size = am_mL M)
    (hMet : vx_Met l (am_y M') (am_cdw M' :: amTb) (am_rm dd mc ms) (am_Pc ρ D cI cJ cZ Hb X as w) Qc XC mc ms (am_A Hb)) (hfr : dd + 11 ≤ R.frames) (hlo : 64 * dd + 464 ≤ R.locals) (hcc : cells + mc ≤ R.cells) (hcs : slots + ms ≤ R.slots) (hXs : ∀ i, ins = .invokespecial i → ∀ E st t, ¬ XC E st t) :
    vx_Run p l e R s m args below meth c H locs cells slots mc ms (F0 m pc ls (st.map (am_rv ρ))) (rest.map (am_rv ρ)) (Qc (as.map (am_rv ρ)).toArray) XC (am_A Hb) := by
  obtain ⟨hx, hb, hown, hts, hU, hini, hml, hBs, hρ, hRf, hRl⟩ := hF
  have hMm : M' ∈ am_Ms := List.mem_of_getElem? hM'
  obtain ⟨k1, k2, k3, k4, k5, k6, k7, k8⟩ := am_k_all M' hMm hne
  have hPU : ∀ U : State, U.heap = H → s.WarmedH U.vm → am_Pc ρ D cI cJ cZ Hb X as w (as.map (am_rv ρ)).toArray U := fun U hU1 hW => ⟨rfl, by rw [hU1]; exact hR, am_U.warm hW hU, am_V.warm hW hV⟩
  have hRoom : (am_rm dd mc ms).frames + 1 ≤ R.frames ∧ 8 + (am_mL M' + 11) + (am_rm dd mc ms).locals ≤ R.locals := ⟨by show dd + 10 + 1 ≤ _; omega, by show 8 + (am_mL M' + 11) + (64 * dd + 400) ≤ _; omega⟩
  unfold am_inv at hinv
  split at hinv
  · next j' =>
    split at hinv
    · next M1 hM1 =>
      split at hinv
      · next b rest' hdrop =>
        split at hinv
        · next hcond =>
          cases hinv
          cases hM'.symm.trans hM1
          obtain ⟨hlen, hcat, hisC⟩ := hcond
          have hj9 : ¬ 900 ≤ j := by
            have h1 : j < am_Ms.length := (List.getElem?_eq_some_iff.mp hM').1
            have h2 : am_Ms.length = 189 := by decide +kernel
            omega
          have h1 : (am_dc M pc (.invokevirtual ix) 3 && am_CL.any (fun e => e.1 == am_own M && e.2.1 == ix && e.2.2.1 == 0 && e.2.2.2.1 == j)) = true := by
            have h2 := hchk
            simp only [am_chk] at h2
            rwa [if_neg hj9] at h2
          simp only [Bool.and_eq_true, am_dc, decide_eq_true_eq] at h1
          obtain ⟨hdg, h1⟩ := h1
          obtain ⟨c1, -, c3, c4, -⟩ := am_CL_get h1 hM'
          obtain ⟨c3, c5⟩ := c3 (by decide)
          have c4 := c4 rfl
          have hcd : am_cdw M' = .code (am_y M') (am_b M') (am_mL M') (am_rt M') := if_pos c5
          rw [hcd] at hMet k1
          obtain ⟨ci, fs, hw⟩ : ∃ ci fs, w.1[b]? = some (.inr (.inr (ci, fs))) ∧ ci = am_MC.getD j 99 := by
            unfold am_isC at hisC
            split at hisC
            · next c0 fs0 h0 => exact ⟨c0, fs0, h0, by simpa using hisC⟩
            · cases hisC
          obtain ⟨hw, rfl⟩ := hw
          have he := am_ws_at (ρ := ρ) (cI := cI) (cJ := cJ) (cZ := cZ) hw
          obtain ⟨r, hr, hrc⟩ : ∃ r, vwCl[am_MC.getD j 99]? = some r ∧ r.1 = (am_y M').cls := by
            rcases am_MC_get hM' with h9 | h9
            · obtain ⟨r, hr, -⟩ := hR.1 b _ he
              rw [h9] at hr
              exact absurd (hr : vwCl[99]? = some r) (by rw [show vwCl[99]? = none from rfl]; simp)
            · exact h9
          have hrec := va_recv hU.1 hR.1 hr he
          rw [hrc] at hrec
          have hst : st.map (am_rv ρ) = (((st.take (am_np M')).reverse).map (am_rv ρ)).reverse ++ .ref (ρ b) :: rest.map (am_rv ρ) := by
            have h3 : st = st.take (am_np M') ++ (.ref b :: rest) := by rw [← hdrop]; exact (List.take_append_drop _ _).symm
            rw [← List.map_reverse, List.reverse_reverse]
            conv => lhs; rw [h3]
            rw [List.map_append]
            rfl
          exact vx_runV (As := ((st.take (am_np M')).reverse).map (am_rv ρ)) ⟨hx, hb, hml, hown, hts⟩ hMet
            (cwV (am_np M') hts (fun w9 hw9 => by
              rcases List.mem_append.mp hw9 with h9 | h9
              · simp only [List.mem_cons, List.not_mem_nil, or_false] at h9
                rcases h9 with rfl | rfl | rfl | rfl
                · exact am_good1 c1
                · exact am_good1 c3
                · exact am_good1 c4
                · exact am_good1 k2
              · rw [← hcd] at h9; exact am_good (by rw [hcd]; exact k1) w9 h9) rfl rfl rfl ⟨rfl, k4, k5, k6⟩ hRoom)
            ⟨am_Pc_blind, hrec, hPU⟩ rfl (by simp only [List.length_map, List.length_reverse]; exact hlen) hsz hst (lv_room (by rw [am_cat]; exact hcat)) hdg ⟨hcc, hcs⟩
        · cases hinv
      · cases hinv
    · cases hinv
  · next j' =>
    split at hinv
    · next M1 hM1 =>
      split at hinv
      · next b rest' hdrop =>
        split at hinv
        · next hcond =>
          cases hinv
          cases hM'.symm.trans hM1
          obtain ⟨hlen, hcat⟩ := hcond
          have hj9 : ¬ 900 ≤ j := by
            have h1 : j < am_Ms.length := (List.getElem?_eq_some_iff.mp hM').1
            have h2 : am_Ms.length = 189 := by decide +kernel
            omega
          have h1 : (am_dc M pc (.invokespecial ix) 3 && am_CL.any (fun e => e.1 == am_own M && e.2.1 == ix && e.2.2.1 == 1 && e.2.2.2.1 == j)) = true := by
            have h2 := hchk
            simp only [am_chk] at h2
            rwa [if_neg hj9] at h2
          simp only [Bool.and_eq_true, am_dc, decide_eq_true_eq] at h1
          obtain ⟨hdg, h1⟩ := h1
          obtain ⟨c1, -, c3, -, c5⟩ := am_CL_get h1 hM'
          obtain ⟨c3, c6⟩ := c3 (by decide)
          obtain ⟨c5, c7⟩ := c5 rfl
          have hcd : am_cdw M' = .code (am_y M') (am_b M') (am_mL M') (am_rt M') := if_pos c6
          rw [hcd, c7] at hMet k1
          have hst : st.map (am_rv ρ) = (((st.take (am_np M')).reverse).map (am_rv ρ)).reverse ++ .ref (ρ b) :: rest.map (am_rv ρ) := by
            have h3 : st = st.take (am_np M') ++ (.ref b :: rest) := by rw [← hdrop]; exact (List.take_append_drop _ _).symm
            rw [← List.map_reverse, List.reverse_reverse]
            conv => lhs; rw [h3]
            rw [List.map_append]
            rfl
          exact am_runI (As := ((st.take (am_np M')).reverse).map (am_rv ρ)) ⟨hx, hb, hml, hown, hts⟩ hMet (hXs _ rfl)
            (cwI (am_np M') hts (fun w9 hw9 => am_good (M := M') (by rw [hcd, c7]; exact k1) w9 (by rw [hcd, c7]; exact hw9)) rfl rfl rfl (hts _ k2) (hts _ c1) (hts _ c3) c5 ⟨k4, k5, k6⟩ hRoom)
            ⟨am_Pc_blind, hPU⟩ rfl (by simp only [List.length_map, List.length_reverse]; exact hlen) hsz hst (lv_room (by rw [am_cat]; exact hcat)) hdg ⟨hcc, hcs⟩
        · cases hinv
      · cases hinv
    · cases hinv
  · next j' =>
    split at hinv
    · next M1 hM1 =>
      split at hinv
      · next hcond =>
        cases hinv
        cases hM'.symm.trans hM1
        obtain ⟨hlen, hcat⟩ := hcond
        have h1 : (am_dc M pc (.invokestatic ix) 3 && am_CL.any (fun e => e.1 == am_own M && e.2.1 == ix && e.2.2.1 == 2 && e.2.2.2.1 == j)) = true := hchk
        simp only [Bool.and_eq_true, am_dc, decide_eq_true_eq] at h1
        obtain ⟨hdg, h1⟩ := h1
        obtain ⟨c1, c2, -, -, -⟩ := am_CL_get h1 hM'
        have c2 := c2 rfl
        have hst : st.map (am_rv ρ) = (((st.take (am_np M')).reverse).map (am_rv ρ)).reverse ++ (st.drop (am_np M')).map (am_rv ρ) := by
          rw [← List.map_reverse, List.reverse_reverse, ← List.map_append, List.take_append_drop]
        have hG : ∀ w9 ∈ va_wsS (am_own M) ix (am_y M') (am_cdw M' :: amTb), w9 ∈ amTb ∧ ((w9.onTables && w9.keeps) = true ∨ ∃ ty, w9 = .arrayClass ty) := fun w9 hw9 => by
          rcases List.mem_append.mp hw9 with h9 | h9
          · simp only [List.mem_cons, List.not_mem_nil, or_false] at h9
            rcases h9 with rfl | rfl | rfl
            · exact am_good1 c1
            · exact am_good1 c2
            · exact am_good1 k2
          · exact am_good k1 w9 h9
        by_cases hh : am_hh M' = []
        · have hcd : am_cdw M' = .code (am_y M') (am_b M') (am_mL M') (am_rt M') := if_pos hh
          rw [hcd] at hMet hG
          exact vx_runS (As := ((st.take (am_np M')).reverse).map (am_rv ρ)) ⟨hx, hb, hml, hown, hts⟩ hMet (va_cwS (am_np M') hts hG rfl rfl rfl ⟨k4, k5, k6⟩ hRoom)
            ⟨am_Pc_blind, hPU⟩ rfl (by simp only [List.length_map, List.length_reverse]; exact hlen) hsz hst (lv_room (by rw [am_cat]; exact hcat)) hdg ⟨hcc, hcs⟩
        · have hcd : am_cdw M' = .codeWith (am_y M') (am_b M') (am_mL M') (am_rt M') (am_hh M') := if_neg hh
          rw [hcd] at hMet hG
          exact vx_runSX (hh := am_hh M') (As := ((st.take (am_np M')).reverse).map (am_rv ρ)) ⟨hx, hb, hml, hown, hts⟩ hMet (vx_cwSW (am_np M') hts hG rfl rfl rfl ⟨k4, k5, k6⟩ hRoom)
            ⟨am_Pc_blind, hPU⟩ rfl (by simp only [List.length_map, List.length_reverse]; exact hlen) hsz hst (lv_room (by rw [am_cat]; exact hcat)) hdg ⟨hcc, hcs⟩
      · cases hinv
    · cases hinv
  · cases hinv
end RUN
theorem am_bi_lv {q : Nat} {fr fr1 : amF} {w w1 : amW} (h : am_bi q fr w = some (fr1, w1)) : fr1.2.1 = fr.2.1 := by
  unfold am_bi at h
  split at h
  · split at h
    · split at h
      · cases h; rfl
      · split at h
        · cases h; rfl
        · cases h
    · split at h
      · cases h; rfl
      · cases h
    · cases h
  · cases h
theorem am_hh_ok : am_Ms.all (fun M => (am_hh M).all (fun h => h.2.2.2 == 13 || h.2.2.2 == 15 || h.2.2.2 == 30)) = true := by decide +kernel
section CAUGHT
variable {p : Program} {l : Launch} {e : Env} {R : Room} {s : State} {m : MethodId} {args : Array Value} {below : List Frame} {meth : Method} {c : Code} {Q : State → Prop} {H : Heap} {locs : List Loc} {cells slots : Nat}
variable {ρ : Nat → Nat} {D : va_G} {cI cJ cZ : ClassId} {Hb : Heap} {X : amX} {M : amM}
theorem am_cwin {w : Cond} (hV : am_V Hb s) (h : w ∈ am_cw) : w.before args s = true := by
  have k := List.all_eq_true.mp am_cw_ok w h
  simp only [Bool.and_eq_true] at k
  exact va_tabs k.2 rfl (hV.2.2.2.2.1 w h)
theorem am_find_split {α : Type} {P : α → Bool} : ∀ {l : List α} {a : α}, l.find? P = some a → ∃ pre suf, l = pre ++ a :: suf ∧ P a = true ∧ ∀ x ∈ pre, P x = false
  | [], _, h => by cases h
  | b :: l, a, h => by
    by_cases hb : P b = true
    · rw [List.find?_cons_of_pos hb] at h
      cases h
      exact ⟨[], l, rfl, hb, fun x hx => by cases hx⟩
    · rw [List.find?_cons_of_neg hb] at h
      obtain ⟨pre, suf, h1, h2, h3⟩ := am_find_split h
      refine ⟨b :: pre, suf, by rw [h1]; rfl, h2, fun x hx => ?_⟩
      rcases List.mem_cons.mp hx with rfl | hx
      · simpa using hb
      · exact h3 x hx
theorem am_caught (hMm : M ∈ am_Ms) (hF : am_Fr p R s m args meth c ρ D cI cJ cZ Hb X M) (hV : am_V Hb s) (htab : c.exceptionTable.toList = tableOf (am_hh M)) (hll : am_own M = "ListDeskLaw") {x pc h : Nat} (hx3 : x < 3) (hh : am_hnd M pc x = some h) {ls : Array Slot} {rest : List Value} {q : Addr} {ce : Cell}
    (hcell : H[q]? = some ce) (hv : ce.vm = .none) (hcl : s.vm.findClass (am_ex x) = some ce.cls) (kk : W p l e R s m args below meth c H locs cells slots Q (F0 m h ls [.ref q])) :
    vx_W p l e R s m args below meth c H locs cells slots Q (F0 m pc ls rest) q := by
  obtain ⟨-, -, hown, -⟩ := hF
  rw [hll] at hown
  unfold am_hnd at hh
  simp only [Option.map_eq_some_iff] at hh
  obtain ⟨z, h1, rfl⟩ := hh
  obtain ⟨pre, suf, g1, g2, g3⟩ := am_find_split h1
  simp only [Bool.and_eq_true, decide_eq_true_eq, beq_iff_eq] at g2
  have hsp : c.exceptionTable.toList = (tableOf pre) ++ ⟨z.1, z.2.1, z.2.2.1, z.2.2.2⟩ :: tableOf suf := by
    rw [htab, g1]
    simp [tableOf]
  have hz : z.2.2.2 = am_exn x := g2.2
  have hlk : ∀ y, y < 3 → (Cond.classLink "ListDeskLaw" (am_exn y) (am_ex y)).before args s = true := by
    intro y hy
    match y, hy with
    | 0, _ => exact am_cwin hV (by simp [am_cw, am_exn, am_ex])
    | 1, _ => exact am_cwin hV (by simp [am_cw, am_exn, am_ex])
    | 2, _ => exact am_cwin hV (by simp [am_cw, am_exn, am_ex])
  have hcast : (Cond.castable (am_ex x) (am_ex x)).before args s = true := by
    match x, hx3 with
    | 0, _ => exact am_cwin hV (by simp [am_cw, am_ex])
    | 1, _ => exact am_cwin hV (by simp [am_cw, am_ex])
    | 2, _ => exact am_cwin hV (by simp [am_cw, am_ex])
  have hne0 : am_exn x ≠ 0 := by unfold am_exn; split <;> (try split) <;> omega
  refine vx_catch (own := "ListDeskLaw") (name := am_ex x) (E := am_ex x) hown (tableOf pre) ⟨z.1, z.2.1, z.2.2.1, z.2.2.2⟩ (tableOf suf) hsp ?_ ?_ ?_ ?_ hcast hcell hv hcl kk
  · intro y hy
    obtain ⟨y0, hy0, rfl⟩ := List.mem_map.mp hy
    have g4 := g3 y0 hy0
    by_cases hcv : y0.1 ≤ pc ∧ pc < y0.2.1
    · right
      have hne : y0.2.2.2 ≠ am_exn x := fun h9 => by rw [h9] at g4; simp [hcv] at g4
      have hin : y0 ∈ am_hh M := by rw [g1]; exact List.mem_append_left _ hy0
      have hok := List.all_eq_true.mp (List.all_eq_true.mp am_hh_ok M hMm) y0 hin
      simp only [Bool.or_eq_true, beq_iff_eq] at hok
      obtain ⟨y, hy3, hye⟩ : ∃ y, y < 3 ∧ y0.2.2.2 = am_exn y := by
        rcases hok with (h9 | h9) | h9
        · exact ⟨0, by omega, h9⟩
        · exact ⟨1, by omega, h9⟩
        · exact ⟨2, by omega, h9⟩
      have hne0' : am_exn y ≠ 0 := by unfold am_exn; split <;> (try split) <;> omega
      refine ⟨by show y0.2.2.2 ≠ 0; rw [hye]; exact hne0', am_ex y, ?_, hV.2.2.2.2.2 x y hx3 hy3 (fun h9 => hne (by rw [hye, h9]))⟩
      show (Cond.classLink "ListDeskLaw" y0.2.2.2 (am_ex y)).before args s = true
      rw [hye]; exact hlk y hy3
    · left
      show (decide (y0.1 ≤ pc) && decide (pc < y0.2.1)) = false
      simp only [Bool.and_eq_false_iff, decide_eq_false_iff_not]
      omega
  · show (decide (z.1 ≤ pc) && decide (pc < z.2.1)) = true
    simp only [Bool.and_eq_true, decide_eq_true_eq]
    exact g2.1
  · show z.2.2.2 ≠ 0
    rw [hz]; exact hne0
  · show (Cond.classLink "ListDeskLaw" z.2.2.2 (am_ex x)).before args s = true
    rw [hz]; exact hlk x hx3
end CAUGHT

theorem am_mono {X : amX} {call : amK} {M : amM} (hcall : ∀ j as w o w', call j as w o w' → am_cN w ≤ am_cN w' ∧ am_sN w ≤ am_sN w') : ∀ (n : Nat) (fr : amF) (w : amW) (o : amO) (w' : amW), AMl X call M n fr w o w' → am_cN w ≤ am_cN w' ∧ am_sN w ≤ am_sN w' := by
  intro n
  induction n with
  | zero => intro fr w o w' h; exact h.elim
  | succ n ih =>
    intro fr w o w' h
    obtain ⟨ins, len, ix, -, h⟩ := h
    rcases h with ⟨fr1, w1, h1, h2⟩ | ⟨v, -, -, rfl⟩ | ⟨j, as, rest, v, w1, -, h1, h2⟩ | ⟨j, as, rest, x, w1, -, h1, -, -, -, rfl⟩ | ⟨j, as, rest, x, w1, h, k, ln, ix', -, h1, -, -, -, -, h2⟩ | ⟨x, -, -, -, rfl⟩
    · have a1 := am_next_mono h1
      have a2 := ih _ _ _ _ h2
      omega
    · exact ⟨Nat.le_refl _, Nat.le_refl _⟩
    · have a1 := hcall _ _ _ _ _ h1
      have a2 := ih _ _ _ _ h2
      omega
    · exact hcall _ _ _ _ _ h1
    · have a1 := hcall _ _ _ _ _ h1
      have a2 := ih _ _ _ _ h2
      omega
    · simp only [am_cN, am_sN]; omega
section FRAME
variable {p : Program} {l : Launch} {e : Env} {R : Room} {s : State} {m : MethodId} {args : Array Value} {below : List Frame} {meth : Method} {c : Code} {Q : State → Prop}
variable {ρ : Nat → Nat} {D : va_G} {cI cJ cZ : ClassId} {Hb : Heap} {X : amX} {M : amM}
/-- Enum.ordinal, String.length, String.charAt, in a frame of M -/
def am_BI (p : Program) (l : Launch) (e : Env) (R : Room) (s : State) (m : MethodId) (args : Array Value) (below : List Frame) (meth : Method) (c : Code) (ρ : Nat → Nat) (D : va_G) (cI cJ cZ : ClassId) (Hb : Heap) (M : amM) (Q : State → Prop) : Prop :=
  ∀ (H : Heap) (locs : List Loc) (cells slots pc len ix j : Nat) (lv : List (Nat × Value)) (st : List Value) (w w1 : amW) (fr1 : amF) (ls : Array Slot), 900 ≤ j → am_chk M (pc, .invokevirtual j, len, ix) = true → am_bi j (pc, lv, st) w = some (fr1, w1) → am_Rep ρ D cI cJ cZ Hb w H → (∀ z ∈ locs, Hb.size ≤ z.base) → s.heap.size ≤ H.size → ls.size = am_mL M → cells ≤ R.cells → slots ≤ R.slots →
    W p l e R s m args below meth c H locs cells slots Q (F0 m fr1.1 ls (fr1.2.2.map (am_rv ρ))) → W p l e R s m args below meth c H locs cells slots Q (F0 m pc ls (st.map (am_rv ρ)))
set_option maxHeartbeats 4000000 in
set_option maxRecDepth 100000 in
theorem am_frame {call : amK} {dd mc ms : Nat} {o : amO} {w' : amW} (hMm : M ∈ am_Ms) (hF : am_Fr p R s m args meth c ρ D cI cJ cZ Hb X M) (hV : am_V Hb s)
    (htab : c.exceptionTable.toList = tableOf (am_hh M)) (hlaw : am_hh M = [] ∨ am_own M = "ListDeskLaw") (hfr : dd + 11 ≤ R.frames) (hlo : 64 * dd + 464 ≤ R.locals) (hmc : mc ≤ R.cells) (hms : ms ≤ R.slots)
    (hcall : am_ok l ρ D cI cJ cZ Hb X call dd) (hbi : am_BI p l e R s m args below meth c ρ D cI cJ cZ Hb M Q)
    (hret : ∀ (H : Heap) (locs : List Loc) (ls : Array Slot) (pc len ix cells slots : Nat) (ins : Instr) (v : Option Value) (st : List Value), o = .inl v → am_chk M (pc, ins, len, ix) = true → am_ret (am_rt M) ins st = some v → am_Rep ρ D cI cJ cZ Hb w' H → (∀ z ∈ locs, Hb.size ≤ z.base) → s.heap.size ≤ H.size → cells ≤ mc → slots ≤ ms → W p l e R s m args below meth c H locs cells slots Q (F0 m pc ls (st.map (am_rv ρ))))
    (hout : ∀ (H : Heap) (locs : List Loc) (ls : Array Slot) (pc cells slots x : Nat) (ce : Cell) (q : Addr) (st : List Value), o = .inr x → x < 3 → am_hh M = [] → H[q]? = some ce → ce.vm = .none → s.vm.findClass (am_ex x) = some ce.cls → am_Rep ρ D cI cJ cZ Hb w' H → (∀ z ∈ locs, Hb.size ≤ z.base) → s.heap.size ≤ H.size → cells ≤ mc → slots ≤ ms → vx_W p l e R s m args below meth c H locs cells slots Q (F0 m pc ls st) q)
    (hthr : ∀ (H : Heap) (locs : List Loc) (ls : Array Slot) (pc len ix cells slots x : Nat) (ins : Instr) (st : List Value) (w : amW), o = .inr x → w' = (w.1, w.2.1 + 1, w.2.2 + 6) → am_hh M = [] → am_chk M (pc, ins, len, ix) = true → am_thr ins st = some x → am_Rep ρ D cI cJ cZ Hb w H → (∀ z ∈ locs, Hb.size ≤ z.base) → s.heap.size ≤ H.size → ls.size = am_mL M → cells + 1 ≤ mc → slots + 6 ≤ ms → W p l e R s m args below meth c H locs cells slots Q (F0 m pc ls (st.map (am_rv ρ)))) :
    ∀ (n : Nat) (fr : amF) (w : amW), AMl X call M n fr w o w' → ∀ (H : Heap) (locs : List Loc) (ls : Array Slot) (cells slots : Nat), am_Rep ρ D cI cJ cZ Hb w H → lv_has ls (am_mL M) (fr.2.1.map (am_rl ρ)) → (∀ z ∈ locs, Hb.size ≤ z.base) → s.heap.size ≤ H.size → cells + (am_cN w' - am_cN w) ≤ mc → slots + (am_sN w' - am_sN w) ≤ ms →
      W p l e R s m args below meth c H locs cells slots Q (F0 m fr.1 ls (fr.2.2.map (am_rv ρ))) := by
  have hmono := am_mono (X := X) (M := M) (call := call) (fun j as w o w' h => (hcall j as w o w' h).1)
  intro n
  induction n with
  | zero => intro fr w h; exact h.elim
  | succ n ih =>
    intro fr w h H locs ls cells slots hR hL hlocs hs hcc hcs
    obtain ⟨pc, lv, st⟩ := fr
    obtain ⟨ins, len, ix, hat, h⟩ := h
    have hat : am_at M pc = some (ins, len, ix) := hat
    have hchk := am_chk_at hMm hat
    have hL : lv_has ls (am_mL M) (lv.map (am_rl ρ)) := hL
    show W p l e R s m args below meth c H locs cells slots Q (F0 m pc ls (st.map (am_rv ρ)))
    rcases h with ⟨fr1, w1, h1, h2⟩ | ⟨v, h1, h2, h3⟩ | ⟨j, as, rest, v, w1, h1, h2, h3⟩ | ⟨j, as, rest, x, w1, h1, h2, h3, h4, h5, h6⟩ | ⟨j, as, rest, x, w1, hd, k, ln, ix', h1, h2, h3, h4, h5, h6, h7⟩ | ⟨x, h1, h2, h3, h4⟩
    · have a1 := am_next_mono h1
      have a2 := hmono _ _ _ _ _ h2
      refine am_plain hF hchk h1 hR hL hlocs hs (by omega) (by omega) ?_ (fun H1 locs1 ls1 hR1 hL1 hl1 hs1 => ih fr1 w1 h2 H1 locs1 ls1 _ _ hR1 hL1 hl1 hs1 (by omega) (by omega))
      intro j hj h9
      subst hj
      have h1' : (if 900 ≤ j then am_bi j (pc, lv, st) w else none) = some (fr1, w1) := h1
      rw [if_pos h9] at h1'
      have hlv : fr1.2.1 = lv := am_bi_lv h1'
      have hw1 : w1 = w := am_bi_w h1'
      refine hbi H locs cells slots pc len ix j lv st w w1 fr1 ls h9 hchk h1' hR hlocs hs hL.1 (by omega) (by omega) ?_
      subst hw1
      exact ih fr1 w1 h2 H locs ls cells slots hR (by rw [hlv]; exact hL) hlocs hs hcc hcs
    · subst h3
      exact hret H locs ls pc len ix cells slots ins v st h2 hchk h1 hR hlocs hs (by omega) (by omega)
    · obtain ⟨a1, M', hM', hne, hMet⟩ := hcall _ _ _ _ _ h2
      have a2 := hmono _ _ _ _ _ h3
      have hrun := am_run (l := l) (e := e) (below := below) (H := H) (locs := locs) (cells := cells) (slots := slots) hF hV hchk h1 hM' hne hR hL.1 hMet hfr hlo (by omega) (by omega) (fun i _ E st0 t hx => by obtain ⟨y, hy, -⟩ := hx; cases hy)
      intro T hT X0
      rcases hrun T hT X0 with ⟨v', st₀, t, T', L, g0, X', gL, e1, e2, ⟨v2, gv, gr, gR, gz⟩, go⟩ | ⟨q, st₀, t, T', L, E, ce, g0, X', gL, e1, e2, ⟨y, hy, -⟩, -⟩
      · cases gv
        have gr : v' = v.map (am_rv ρ) := Outcome.returned.inj gr
        subst gr
        rw [g0] at gz
        have k := ih (pc + 3, lv, v.toList ++ rest) w1 h3 T'.heap (locs ++ L) ls (cells + (am_cN w1 - am_cN w)) (slots + (am_sN w1 - am_sN w)) (by rw [e1]; exact gR) hL (fun z hz => (List.mem_append.mp hz).elim (hlocs z) (gL z)) (by rw [e1]; omega) (by omega) (by omega) T' rfl X'
        obtain ⟨t2, b1, b2⟩ := k
        refine ⟨t2, go t2 ?_, b2⟩
        have hstk : (v.toList ++ rest).map (am_rv ρ) = (v.map (am_rv ρ)).toList ++ rest.map (am_rv ρ) := by cases v <;> rfl
        have b1 : Steps p.tables e below (T'.setTop (F0 m (pc + 3) ls ((v.toList ++ rest).map (am_rv ρ)))) t2 := b1
        rw [hstk] at b1
        exact b1
      · cases hy
    · obtain ⟨a1, M', hM', hne, hMet⟩ := hcall _ _ _ _ _ h2
      subst h6
      have hrun := am_run (l := l) (e := e) (below := below) (H := H) (locs := locs) (cells := cells) (slots := slots) hF hV hchk h1 hM' hne hR hL.1 hMet hfr hlo (by omega) (by omega) (fun i hi => absurd hi (h3 i))
      intro T hT X0
      rcases hrun T hT X0 with ⟨v', st₀, t, T', L, g0, X', gL, e1, e2, ⟨v2, gv, -⟩, go⟩ | ⟨q, st₀, t, T', L, E, ce, g0, X', gL, e1, e2, ⟨y, hy, hE, hy3, gR, gz⟩, g1, g2, g3, go⟩
      · cases gv
      · cases hy
        subst hE
        rw [g0] at gz
        have k := hout T'.heap (locs ++ L) ls pc (cells + (am_cN w' - am_cN w)) (slots + (am_sN w' - am_sN w)) x ce q (rest.map (am_rv ρ)) h5 hy3 h4 (by rw [e1]; exact g1) g2 g3 (by rw [e1]; exact gR) (fun z hz => (List.mem_append.mp hz).elim (hlocs z) (gL z)) (by rw [e1]; omega) (by omega) (by omega) T' rfl X'
        obtain ⟨t2, b1, b2⟩ := k
        exact ⟨t2, go.trans b1, b2⟩
    · obtain ⟨a1, M', hM', hne, hMet⟩ := hcall _ _ _ _ _ h2
      have a2 := hmono _ _ _ _ _ h7
      have hrun := am_run (l := l) (e := e) (below := below) (H := H) (locs := locs) (cells := cells) (slots := slots) hF hV hchk h1 hM' hne hR hL.1 hMet hfr hlo (by omega) (by omega) (fun i hi => absurd hi (h3 i))
      intro T hT X0
      rcases hrun T hT X0 with ⟨v', st₀, t, T', L, g0, X', gL, e1, e2, ⟨v2, gv, -⟩, go⟩ | ⟨q, st₀, t, T', L, E, ce, g0, X', gL, e1, e2, ⟨y, hy, hE, hy3, gR, gz⟩, g1, g2, g3, go⟩
      · cases gv
      · cases hy
        subst hE
        rw [g0] at gz
        have hll : am_own M = "ListDeskLaw" := by
          rcases hlaw with h9 | h9
          · have h10 := h4
            unfold am_hnd at h10
            rw [h9] at h10
            cases h10
          · exact h9
        have hchk2 := am_chk_at hMm h5
        have hst1 : ∀ (Hx : Heap) (locsx : List Loc) (cx sx : Nat), (∀ ls' : Array Slot, lv_has ls' (am_mL M) (((am_st1 lv k .null).drop 1).map (am_rl ρ)) → W p l e R s m args below meth c Hx locsx cx sx Q (F0 m (hd + ln) ls' [])) → W p l e R s m args below meth c Hx locsx cx sx Q (F0 m hd ls [.ref q]) := by
          intro Hx locsx cx sx kk9
          obtain ⟨hx9, hb9, -⟩ := id hF
          have h1' : ((decide (ln = 2) && am_dc M hd (.astore k) 2) || (decide (ln = 1) && decide (k < 4) && am_dc M hd (.astore_n (Fin.ofNat 4 k)) 1)) = true := hchk2
          simp only [Bool.or_eq_true, Bool.and_eq_true, decide_eq_true_eq, am_dc] at h1'
          have hfor : ∀ ls' : Array Slot, lv_has ls' (am_mL M) ((k, Value.ref q) :: (lv.map (am_rl ρ)).filter (fun z => !(z.1 == k) && !(z.1 + 1 == k && z.2.category == 2))) → lv_has ls' (am_mL M) (((am_st1 lv k .null).drop 1).map (am_rl ρ)) := by
            intro ls' hl'
            refine ⟨hl'.1, hl'.2.1, fun z hz => hl'.2.2 z (List.mem_cons_of_mem _ ?_)⟩
            have h9 := am_st1_map ρ lv k .null
            have h10 : ((am_st1 lv k .null).drop 1).map (am_rl ρ) = (lv.map (am_rl ρ)).filter (fun z => !(z.1 == k) && !(z.1 + 1 == k && z.2.category == 2)) := by
              rw [List.map_drop, ← h9]
              rfl
            rw [h10] at hz
            exact hz
          rcases h1' with ⟨rfl, hdg⟩ | ⟨⟨rfl, hi4⟩, hdg⟩
          · exact lv_astore hx9 hb9 hdg hL h6 rfl (fun ls1 hl1 => kk9 ls1 (hfor ls1 hl1))
          · exact lv_astore_n hx9 hb9 hdg (am_fin4 hi4) hL h6 rfl (fun ls1 hl1 => kk9 ls1 (hfor ls1 hl1))
        have hcont := hst1 T'.heap (locs ++ L) (cells + (am_cN w1 - am_cN w)) (slots + (am_sN w1 - am_sN w)) (fun ls' hl' => ih (hd + ln, (am_st1 lv k .null).drop 1, []) w1 h7 T'.heap (locs ++ L) ls' _ _ (by rw [e1]; exact gR) hl' (fun z hz => (List.mem_append.mp hz).elim (hlocs z) (gL z)) (by rw [e1]; omega) (by omega) (by omega))
        have hca := am_caught (l := l) (e := e) (below := below) (args := args) (meth := meth) (R := R) (ls := ls) (rest := rest.map (am_rv ρ)) hMm hF hV htab hll hy3 h4 (H := T'.heap) (q := q) (ce := ce) (by rw [e1]; exact g1) g2 g3 hcont
        obtain ⟨t2, b1, b2⟩ := hca T' rfl X'
        exact ⟨t2, go.trans b1, b2⟩
    · have e5 : am_cN w' - am_cN w = 1 ∧ am_sN w' - am_sN w = 6 := by rw [h4]; simp only [am_cN, am_sN]; omega
      exact hthr H locs ls pc len ix cells slots x ins st w h3 h4 h2 hchk h1 hR hlocs hs hL.1 (by omega) (by omega)
end FRAME
end
section
/-! AM's runs of methods are contracts -/
section MET
variable {p : Program} {l : Launch} {e : Env} {R : Room} {s : State} {m : MethodId} {args : Array Value} {below : List Frame} {meth : Method} {c : Code} {H : Heap} {locs : List Loc} {cells slots : Nat}
variable {ρ : Nat → Nat} {D : va_G} {cI cJ cZ : ClassId} {Hb : Heap} {X : amX} {M : amM}
set_option maxHeartbeats 4000000 in
theorem am_thrown (hl : l.stackTraces = false) (hF : am_Fr p R s m args meth c ρ D cI cJ cZ Hb X M) (hV : am_V Hb s) (hlocks : meth.locks = false) (htab : c.exceptionTable.toList = []) {mc ms : Nat} {o : amO} {w w' : amW} {ls : Array Slot} {pc len ix x : Nat} {ins : Instr} {st : List Value}
    (ho : o = .inr x) (hw : w' = (w.1, w.2.1 + 1, w.2.2 + 6)) (hchk : am_chk M (pc, ins, len, ix) = true) (hthr : am_thr ins st = some x) (hR : am_Rep ρ D cI cJ cZ Hb w H) (hlocs : ∀ z ∈ locs, Hb.size ≤ z.base) (hs : s.heap.size ≤ H.size) (hsz : ls.size = am_mL M) (hc : cells + 1 ≤ mc) (hcs : slots + 6 ≤ ms) (hmc : mc ≤ R.cells) (hms : ms ≤ R.slots) :
    W p l e R s m args below meth c H locs cells slots (vx_MQ below (am_Qc ρ D cI cJ cZ Hb o w') (am_XC ρ D cI cJ cZ Hb o w') args s mc ms (am_A Hb)) (F0 m pc ls (st.map (am_rv ρ))) := by
  obtain ⟨hx, hb, hown, hts, hU, hini, hml, hBs, hρ, hRf, hRl⟩ := hF
  unfold am_thr at hthr
  split at hthr
  · next q =>
    split at hthr
    · next hq =>
      obtain ⟨h1, h2, h3⟩ := hq
      have hxq : x = q - 1000 := (Option.some.inj hthr).symm
      have h4 : (match am_TH[ix]? with
        | some e => decide (e.1 = am_own M ∧ e.2.2.2.2.2 = q - 1000) && am_dc M pc (.new e.2.1) 3 && am_dc M (pc + 3) .dup 1 && am_dc M (pc + 4) (.ldc e.2.2.1) 2 && am_dc M (pc + 6) (.invokespecial e.2.2.2.2.1) 3 && am_dc M (pc + 9) .athrow 1
        | none => false) = true := by
        have h5 := hchk
        simp only [am_chk] at h5
        rwa [if_pos h1] at h5
      split at h4
      · next y hy =>
        simp only [Bool.and_eq_true, am_dc, decide_eq_true_eq] at h4
        obtain ⟨⟨⟨⟨⟨⟨g1, g2⟩, d0⟩, d3⟩, d4⟩, d6⟩, d9⟩ := h4
        have hyT : y ∈ am_TH := List.mem_of_getElem? hy
        obtain ⟨t1, t2, t3⟩ := am_tw_get hyT
        obtain ⟨sa, hsa⟩ := hV.2.2.1 y hyT
        have hwd := hV.2.2.2.1 y hyT
        have hwd' : ∀ w9 ∈ am_tw y, w9.before args s = true := fun w9 hw9 => va_tabs (t1 w9 hw9).2.1 rfl (hwd w9 hw9)
        rw [← g1] at hown
        have hyx : y.2.2.2.2.2 = x := by rw [g2, hxq]
        have hkeep : ∀ a : Nat, a < Hb.size → ¬ am_A Hb a → s.heap[a]? = Hb[a]? := fun a h9 _ => hBs.2 a h9
        have hSs := am_S hBs hR.2.2.2 hs hlocs
        refine vx_throwS (own := y.1) (cls := am_ex y.2.2.2.2.2) (text := y.2.2.2.1) (names := am_nms) (ik := y.2.1) (is := y.2.2.1) (ic := y.2.2.2.2.1) (A := am_A Hb) hx hb hl hown t2 (by decide) (hwd' _ (List.mem_cons_self)) (hwd' _ (List.mem_cons_of_mem _ List.mem_cons_self)) hsa (fun w9 hw9 => hwd' w9 (List.mem_cons_of_mem _ (List.mem_cons_of_mem _ hw9)))
          (fun w9 hw9 => (t1 w9 hw9).2.2) (hV.1.kept hkeep) (hV.2.1.kept hkeep) hSs (by rw [hml]; exact hsz) d0 d3 d4 d6 d9 (by rw [htab]; intro z hz; cases hz) (by show 2 + 3 < R.frames; omega) (by rw [am_cat]; show _ + (13 * (2 + 1) + 43) ≤ R.locals; omega) (by omega) (by omega) hlocks ?_ hlocs hc hcs
        intro t hal hle hsame
        refine ⟨x, ho, by rw [hyx], by omega, ?_, Nat.le_trans hs hle⟩
        subst hw
        refine ⟨hR.1.kept (fun k z hz => hsame z.1 (hR.1 k z hz).lt), hR.2.1, fun h9 => by simp at h9, Nat.le_trans hR.2.2.2.1 hle, fun z hz => ?_⟩
        rw [hsame z (Nat.lt_of_lt_of_le hz hR.2.2.2.1), hR.2.2.2.2 z hz]
      · cases h4
    · cases hthr
  · cases hthr
theorem am_returned (hF : am_Fr p R s m args meth c ρ D cI cJ cZ Hb X M) (hr : meth.sig.returnType = am_rt M) (hlocks : meth.locks = false) {mc ms : Nat} {o : amO} {w' : amW} {XC : String → State → State → Prop} {ls : Array Slot} {pc len ix : Nat} {ins : Instr} {v : Option Value} {st : List Value}
    (ho : o = .inl v) (hchk : am_chk M (pc, ins, len, ix) = true) (hret : am_ret (am_rt M) ins st = some v) (hR : am_Rep ρ D cI cJ cZ Hb w' H) (hlocs : ∀ z ∈ locs, Hb.size ≤ z.base) (hs : s.heap.size ≤ H.size) (hc : cells ≤ mc) (hcs : slots ≤ ms) :
    W p l e R s m args below meth c H locs cells slots (vx_MQ below (am_Qc ρ D cI cJ cZ Hb o w') XC args s mc ms (am_A Hb)) (F0 m pc ls (st.map (am_rv ρ))) := by
  obtain ⟨hx, hb, hown, hts, hU, hini, hml, hBs, hρ, hRf, hRl⟩ := hF
  have hq : ∀ t : State, t.heap = H → s.WarmedH t.vm → am_Qc ρ D cI cJ cZ Hb o w' args s (.returned (v.map (am_rv ρ))) t := fun t ht _ => ⟨v, ho, rfl, by rw [ht]; exact hR, by rw [ht]; exact hs⟩
  refine vx_ret (W.widen hc hcs ?_)
  unfold am_ret at hret
  split at hret
  · next h1 =>
    cases hret
    have hdg : decode (am_b M) pc = .ok (.return_, 1) := of_decide_eq_true hchk
    exact W.vret hx hb (hr.trans h1) hq hlocs hdg hlocks
  · next x h1 =>
    cases hret
    have hdg : decode (am_b M) pc = .ok (.ireturn, 1) := of_decide_eq_true hchk
    exact W.iret hx hb (hr.trans h1) hq hlocs hdg hlocks
  · next x h1 =>
    have hdg : decode (am_b M) pc = .ok (.ireturn, 1) := of_decide_eq_true hchk
    split at hret
    · next hx1 =>
      cases hret
      refine W.zret hx hb (hr.trans h1) ?_ hq hlocs hdg hlocks
      rcases hx1 with rfl | rfl <;> decide
    · cases hret
  · next x h1 =>
    cases hret
    have hdg : decode (am_b M) pc = .ok (.lreturn, 1) := of_decide_eq_true hchk
    exact W.lret hx hb (hr.trans h1) hq hlocs hdg hlocks
  · next n a h1 =>
    cases hret
    have hdg : decode (am_b M) pc = .ok (.areturn, 1) := of_decide_eq_true hchk
    exact W.aret hx hb (hr.trans h1) (Or.inl ⟨_, rfl⟩) (Or.inr ⟨_, rfl⟩) hq hlocs hdg hlocks
  · next n h1 =>
    cases hret
    have hdg : decode (am_b M) pc = .ok (.areturn, 1) := of_decide_eq_true hchk
    exact W.aret hx hb (hr.trans h1) (Or.inl ⟨_, rfl⟩) (Or.inl rfl) hq hlocs hdg hlocks
  · cases hret
end MET
theorem am_args_map (ρ : Nat → Nat) : ∀ (i : Nat) (as : List Value), lv_args i (as.map (am_rv ρ)) = (lv_args i as).map (am_rl ρ)
  | _, [] => rfl
  | i, v :: as => by
    simp only [List.map_cons, lv_args, am_rv_cat, am_args_map ρ _ as]
    rfl
theorem am_sl_len (ρ : Nat → Nat) : ∀ as : List Value, (lg_sl (as.map (am_rv ρ))).length = (lg_sl as).length
  | [] => rfl
  | v :: as => by
    have h := am_sl_len ρ as
    simp only [lg_sl, List.map_cons, List.flatMap_cons, List.length_append] at h ⊢
    rw [h, am_rv_cat]
    split <;> rfl
theorem am_hh_law : am_Ms.all (fun M => decide (am_hh M = [] ∨ am_own M = "ListDeskLaw")) = true := by decide +kernel
/-- the three members of the library that AM takes as instructions of its own -/
def am_BIs (l : Launch) (ρ : Nat → Nat) (D : va_G) (cI cJ cZ : ClassId) (Hb : Heap) (X : amX) : Prop :=
  ∀ (p : Program) (e : Env) (R : Room) (s : State) (m : MethodId) (args : Array Value) (below : List Frame) (meth : Method) (c : Code) (M : amM) (Q : State → Prop), am_Fr p R s m args meth c ρ D cI cJ cZ Hb X M → am_V Hb s → am_BI p l e R s m args below meth c ρ D cI cJ cZ Hb M Q
set_option maxHeartbeats 4000000 in
theorem am_met {l : Launch} (hl : l.stackTraces = false) {ρ : Nat → Nat} {D : va_G} {cI cJ cZ : ClassId} {Hb : Heap} {X : amX} (hρ : am_ρ ρ Hb) (hBI : am_BIs l ρ D cI cJ cZ Hb X) : ∀ d, am_ok l ρ D cI cJ cZ Hb X (AMc X d) d := by
  intro d
  induction d with
  | zero => intro j as w o w' h; exact h.elim
  | succ d ih =>
    intro j as w o w' h
    obtain ⟨M, n, hM, hlaw, hlen, hrun⟩ := h
    have hMm : M ∈ am_Ms := List.mem_of_getElem? hM
    have hne : M ≠ am_m188 := fun h9 => hlaw (by rw [h9]; rfl)
    have hmono := am_mono (fun j as w o w' h => (ih j as w o w' h).1) _ _ _ _ _ hrun
    obtain ⟨k1, k2, k3, k4, k5, k6, k7, k8⟩ := am_k_all M hMm hne
    refine ⟨hmono, M, hM, hne, ?_⟩
    have hll : am_hh M = [] ∨ am_own M = "ListDeskLaw" := of_decide_eq_true (List.all_eq_true.mp am_hh_law M hMm)
    have body : ∀ (p : Program) (e : Env) (s : State) (m : MethodId) (args : Array Value) (below : List Frame) (meth : Method) (c : Code) (s₁ : State), BodyLoose p l (am_y M) (headSpec (am_cdw M :: amTb) (am_rm (d + 1) (am_cN w' - am_cN w) (am_sN w' - am_sN w))) (am_b M) (am_mL M) (am_rt M) e s m args below meth c s₁ → c.maxLocals = am_mL M → c.exceptionTable.toList = tableOf (am_hh M) → am_Pc ρ D cI cJ cZ Hb X as w args s →
        W p l e (am_rm (d + 1) (am_cN w' - am_cN w) (am_sN w' - am_sN w)) s m args below meth c s.heap [] 0 0 (vx_MQ below (am_Qc ρ D cI cJ cZ Hb o w') (am_XC ρ D cI cJ cZ Hb o w') args s (am_cN w' - am_cN w) (am_sN w' - am_sN w) (am_A Hb)) (entryFrame m args (am_mL M)) := by
      intro p e s m args below meth c s₁ B hml htab hP
      obtain ⟨rfl, hR, hU, hV⟩ := hP
      have hown : s.vm.findClass (am_own M) = some m.cls := by rw [k7]; exact findClass_of_methodNamed B.named
      have hts : ∀ w9 ∈ amTb, w9.before (as.map (am_rv ρ)).toArray s = true := fun w9 hw9 => atoms_spec (ws := am_cdw M :: amTb) B.pre w9 (List.mem_cons_of_mem _ hw9)
      have hF : am_Fr p (am_rm (d + 1) (am_cN w' - am_cN w) (am_sN w' - am_sN w)) s m (as.map (am_rv ρ)).toArray meth c ρ D cI cJ cZ Hb X M :=
        ⟨B.exec, B.bytes, hown, hts, hU, fun h9 => (name_of_methodNamed B.named B.method).1.trans h9, hml, hR.2.2.2, hρ, by show 10 ≤ d + 1 + 10; omega, by show 400 ≤ 64 * (d + 1) + 400; omega⟩
      have hlocks : meth.locks = false := B.notSynchronized
      rw [lg_entry_eq]
      have hen := lv_entry (as.map (am_rv ρ)) (n := am_mL M) (by rw [am_sl_len]; exact hlen)
      rw [am_args_map] at hen
      exact am_frame (dd := d) (mc := am_cN w' - am_cN w) (ms := am_sN w' - am_sN w) hMm hF hV htab hll (by show d + 11 ≤ d + 1 + 10; omega) (by show 64 * d + 464 ≤ 64 * (d + 1) + 400; omega) (Nat.le_refl _) (Nat.le_refl _) ih (hBI p e _ s m _ below meth c M _ hF hV)
        (fun H locs ls pc len ix cells slots ins v st ho hchk hret hR1 hl1 hs1 hc1 hc2 => am_returned hF B.returns hlocks ho hchk hret hR1 hl1 hs1 hc1 hc2)
        (fun H locs ls pc cells slots x ce q st ho hx3 hh hq hv hcl hR1 hl1 hs1 hc1 hc2 => vx_out (by rw [htab, hh]; intro z hz; cases hz) hlocks hq hv hcl (fun t ht _ => ⟨x, ho, rfl, hx3, by rw [ht]; exact hR1, by rw [ht]; exact hs1⟩) hl1 hc1 hc2)
        (fun H locs ls pc len ix cells slots x ins st w9 ho hw9 hh hchk hthr hR1 hl1 hs1 hsz1 hc1 hc2 => am_thrown hl hF hV hlocks (by rw [htab, hh]; rfl) ho hw9 hchk hthr hR1 hl1 hs1 hsz1 hc1 hc2 (Nat.le_refl _) (Nat.le_refl _))
        n (0, lv_args 0 as, []) w hrun s.heap [] _ 0 0 hR hen (fun z hz => by cases hz) (Nat.le_refl _) (by omega) (by omega)
    by_cases hh : am_hh M = []
    · have hcd : am_cdw M = .code (am_y M) (am_b M) (am_mL M) (am_rt M) := if_pos hh
      refine vx_ofW (cc := am_b M) (maxL := am_mL M) (ret := am_rt M) k3 (by rw [hcd]) ?_
      intro p e s m args below meth c s₁ B hml ht hP
      refine body p e s m args below meth c s₁ B hml ?_ hP
      rw [hh]
      cases hc : c.exceptionTable.toList with
      | nil => rfl
      | cons z zs => exact (ht z (by rw [hc]; exact List.mem_cons_self)).elim
    · have hcd : am_cdw M = .codeWith (am_y M) (am_b M) (am_mL M) (am_rt M) (am_hh M) := if_neg hh
      refine vx_ofWH (cc := am_b M) (maxL := am_mL M) (ret := am_rt M) (hh := am_hh M) k3 (by rw [hcd]) ?_
      intro p e s m args below meth c s₁ B hml hP
      refine body p e s m args below meth c s₁ B hml ?_ hP
      exact vx_table (x := am_y M) B (atoms_spec (ws := am_cdw M :: amTb) B.pre _ (by rw [hcd]; exact List.mem_cons_self))
end
section
/-! the library's own members: String.length, String.charAt, Enum.ordinal -/
section JDK
variable {p : Program} {l : Launch} {e : Env} {R : Room} {s : State} {m : MethodId} {args : Array Value} {below : List Frame} {meth : Method} {c : Code} {H : Heap} {locs : List Loc} {cells slots : Nat} {Q : State → Prop}
variable {ρ : Nat → Nat} {D : va_G} {cI cJ cZ : ClassId} {Hb : Heap} {X : amX}
/-- a member that writes nothing: what it answers -/
def aj_Q (v : Option Value) : Array Value → State → Outcome → State → Prop := fun _ st o t => o = .returned v ∧ t.heap = st.heap
def aj_P (ρ : Nat → Nat) (D : va_G) (cI cJ cZ : ClassId) (Hb : Heap) (X : amX) (as : List Value) : Array Value → State → Prop := fun v U => v = as.toArray ∧ am_U ρ D cI cJ cZ Hb X U ∧ am_Ba Hb U.heap
theorem aj_blind {as : List Value} : FrameBlind (aj_P ρ D cI cJ cZ Hb X as) := fun a U g mk q => ⟨q.1, am_U.warm (s := U) (U := U.calling g mk a) (State.WarmedH.refl U) q.2.1, q.2.2⟩
theorem aj_call {v : Option Value} {g : JFrame} {rest : List Value} {a : Array Value} (hr : CallRun p l e R s m args below meth c H locs cells slots 0 0 g rest (aj_Q v a) (fun _ => False)) (kk : W p l e R s m args below meth c H locs cells slots Q { g with pc := g.pc + 3, stack := v.toList ++ rest }) : W p l e R s m args below meth c H locs cells slots Q g := by
  intro T hT X
  obtain ⟨v', st₀, t, T', L, h0, X', hL, e1, ⟨hv, hh⟩, st⟩ := hr T hT X
  cases hv
  obtain ⟨t2, a1, b1⟩ := kk T' (by rw [e1, hh, h0]) (Stand.forget X' (fun q h => (hL q h).elim))
  exact ⟨t2, st t2 a1, b1⟩
abbrev aj_rm (d : Nat) : Room := { frames := d, cells := 0, slots := 0, locals := 40 * d }
def yj_coder : MethodName := ⟨"java/lang/String", "coder", "()B"⟩
def yj_length : MethodName := ⟨"java/lang/String", "length", "()I"⟩
def yj_isLatin1 : MethodName := ⟨"java/lang/String", "isLatin1", "()Z"⟩
def yj_charAt : MethodName := ⟨"java/lang/String", "charAt", "(I)C"⟩
def yj_check : MethodName := ⟨"java/lang/String", "checkIndex", "(II)V"⟩
def yj_lcharAt : MethodName := ⟨"java/lang/StringLatin1", "charAt", "([BI)C"⟩
def yj_pcheck : MethodName := ⟨"jdk/internal/util/Preconditions", "checkIndex", "(IILjava/util/function/BiFunction;)I"⟩
def yj_ordinal : MethodName := ⟨"java/lang/Enum", "ordinal", "()I"⟩
def yj_wordinal : MethodName := ⟨"ListDesk$Word", "ordinal", "()I"⟩
theorem wj_coder : Cond.code yj_coder prog_22_method_152_code 1 (some .byte) ∈ amTb := am_wd_in (i := 566) (by decide +kernel)
theorem wj_length : Cond.code yj_length prog_22_method_54_code 1 (some .int) ∈ amTb := am_wd_in (i := 562) (by decide +kernel)
theorem wj_isLatin1 : Cond.code yj_isLatin1 prog_22_method_154_code 1 (some .boolean) ∈ amTb := am_wd_in (i := 576) (by decide +kernel)
theorem wj_charAt : Cond.code yj_charAt prog_22_method_56_code 2 (some .char) ∈ amTb := am_wd_in (i := 572) (by decide +kernel)
theorem wj_check : Cond.code yj_check prog_22_method_155_code 2 none ∈ amTb := am_wd_in (i := 582) (by decide +kernel)
theorem wj_lcharAt : Cond.code yj_lcharAt prog_23_method_2_code 2 (some .char) ∈ amTb := am_wd_in (i := 579) (by decide +kernel)
theorem wj_pcheck : Cond.code yj_pcheck prog_26_method_11_code 3 (some .int) ∈ amTb := am_wd_in (i := 587) (by decide +kernel)
theorem wj_ordinal : Cond.code yj_ordinal prog_16_method_2_code 1 (some .int) ∈ amTb := am_wd_in (i := 672) (by decide +kernel)
theorem wj_i1 : Cond.initialized "java/lang/String" ∈ amTb := am_wd_in (i := 102) (by decide +kernel)
theorem wj_i2 : Cond.initialized "java/lang/StringLatin1" ∈ amTb := am_wd_in (i := 103) (by decide +kernel)
theorem wj_i3 : Cond.initialized "jdk/internal/util/Preconditions" ∈ amTb := am_wd_in (i := 104) (by decide +kernel)
theorem wj_i4 : Cond.initialized "java/lang/Enum" ∈ amTb := amTb_in (by decide +kernel) (by decide +kernel)
theorem wj_f38 : Cond.fieldLink "java/lang/String" 38 "java/lang/String" "COMPACT_STRINGS" "Z" ∈ amTb := am_wd_in (i := 567) (by decide +kernel)
theorem wj_f9 : Cond.fieldLink "java/lang/String" 9 "java/lang/String" "value" "[B" ∈ amTb := am_wd_in (i := 1449) (by decide +kernel)
theorem wj_f15 : Cond.fieldLink "java/lang/String" 15 "java/lang/String" "coder" "B" ∈ amTb := am_wd_in (i := 1450) (by decide +kernel)
theorem wj_f1053 : Cond.fieldLink "java/lang/String" 1053 "jdk/internal/util/Preconditions" "SIOOBE_FORMATTER" "Ljava/util/function/BiFunction;" ∈ amTb := am_wd_in (i := 583) (by decide +kernel)
theorem wj_f7 : Cond.fieldLink "java/lang/Enum" 7 "java/lang/Enum" "ordinal" "I" ∈ amTb := amTb_in (by decide +kernel) (by decide +kernel)
theorem aj_good {y : MethodName} {b : ByteArray} {n : Nat} {r : Option FieldType} (h : Cond.code y b n r ∈ amTb) : GoodIn amTb (.code y b n r :: amTb) := by
  intro w hw
  rcases List.mem_cons.mp hw with rfl | hw
  · exact am_good1 h
  · exact am_good1 hw
theorem aj_wsV {own : String} {ix : Nat} {y : MethodName} {b : ByteArray} {n : Nat} {r : Option FieldType} (h1 : Cond.methodLink own ix y ∈ amTb) (h2 : Cond.instanceMethod y ∈ amTb) (h3 : Cond.selects y.cls y y ∈ amTb) (h4 : Cond.initialized y.cls ∈ amTb) (h : Cond.code y b n r ∈ amTb) : GoodIn amTb (wsV own ix y.cls y (.code y b n r :: amTb)) := by
  intro w hw
  rcases List.mem_append.mp hw with h9 | h9
  · simp only [List.mem_cons, List.not_mem_nil, or_false] at h9
    rcases h9 with rfl | rfl | rfl | rfl
    · exact am_good1 h1
    · exact am_good1 h2
    · exact am_good1 h3
    · exact am_good1 h4
  · exact aj_good h w h9
theorem aj_wsS {own : String} {ix : Nat} {y : MethodName} {b : ByteArray} {n : Nat} {r : Option FieldType} (h1 : Cond.methodLink own ix y ∈ amTb) (h2 : Cond.static y ∈ amTb) (h4 : Cond.initialized y.cls ∈ amTb) (h : Cond.code y b n r ∈ amTb) : GoodIn amTb (va_wsS own ix y (.code y b n r :: amTb)) := by
  intro w hw
  rcases List.mem_append.mp hw with h9 | h9
  · simp only [List.mem_cons, List.not_mem_nil, or_false] at h9
    rcases h9 with rfl | rfl | rfl
    · exact am_good1 h1
    · exact am_good1 h2
    · exact am_good1 h4
  · exact aj_good h w h9
theorem wg_coder : GoodIn amTb (wsV "java/lang/String" 335 "java/lang/String" yj_coder (.code yj_coder prog_22_method_152_code 1 (some .byte) :: amTb)) := aj_wsV (am_wd_in (i := 563) (by decide +kernel)) (am_wd_in (i := 564) (by decide +kernel)) (am_wd_in (i := 565) (by decide +kernel)) wj_i1 wj_coder
theorem wg_isLatin1 : GoodIn amTb (wsV "java/lang/String" 492 "java/lang/String" yj_isLatin1 (.code yj_isLatin1 prog_22_method_154_code 1 (some .boolean) :: amTb)) := aj_wsV (am_wd_in (i := 573) (by decide +kernel)) (am_wd_in (i := 574) (by decide +kernel)) (am_wd_in (i := 575) (by decide +kernel)) wj_i1 wj_isLatin1
theorem wg_lcharAt : GoodIn amTb (va_wsS "java/lang/String" 495 yj_lcharAt (.code yj_lcharAt prog_23_method_2_code 2 (some .char) :: amTb)) := aj_wsS (am_wd_in (i := 577) (by decide +kernel)) (am_wd_in (i := 578) (by decide +kernel)) wj_i2 wj_lcharAt
theorem wg_check : GoodIn amTb (va_wsS "java/lang/StringLatin1" 9 yj_check (.code yj_check prog_22_method_155_code 2 none :: amTb)) := aj_wsS (am_wd_in (i := 580) (by decide +kernel)) (am_wd_in (i := 581) (by decide +kernel)) wj_i1 wj_check
theorem wg_pcheck : GoodIn amTb (va_wsS "java/lang/String" 1059 yj_pcheck (.code yj_pcheck prog_26_method_11_code 3 (some .int) :: amTb)) := aj_wsS (am_wd_in (i := 585) (by decide +kernel)) (am_wd_in (i := 586) (by decide +kernel)) wj_i3 wj_pcheck
theorem wg_lenT : GoodIn amTb (wsV "ListDesk$Tape" 46 "java/lang/String" yj_length (.code yj_length prog_22_method_54_code 1 (some .int) :: amTb)) := aj_wsV (am_wd_in (i := 559) (by decide +kernel)) (am_wd_in (i := 560) (by decide +kernel)) (am_wd_in (i := 561) (by decide +kernel)) wj_i1 wj_length
theorem wg_lenR : GoodIn amTb (wsV "ListDesk$Reader" 153 "java/lang/String" yj_length (.code yj_length prog_22_method_54_code 1 (some .int) :: amTb)) := aj_wsV (am_wd_in (i := 660) (by decide +kernel)) (am_wd_in (i := 560) (by decide +kernel)) (am_wd_in (i := 561) (by decide +kernel)) wj_i1 wj_length
theorem wg_charAt : GoodIn amTb (wsV "ListDesk$Tape" 50 "java/lang/String" yj_charAt (.code yj_charAt prog_22_method_56_code 2 (some .char) :: amTb)) := aj_wsV (am_wd_in (i := 569) (by decide +kernel)) (am_wd_in (i := 570) (by decide +kernel)) (am_wd_in (i := 571) (by decide +kernel)) wj_i1 wj_charAt
theorem wg_ordinal : GoodIn amTb (va_wsU "ListDesk$Reader" 175 "ListDesk$Word" "java/lang/Enum" yj_wordinal yj_ordinal (.code yj_ordinal prog_16_method_2_code 1 (some .int) :: amTb)) := by
  intro w hw
  rcases List.mem_append.mp hw with h9 | h9
  · simp only [List.mem_cons, List.not_mem_nil, or_false] at h9
    rcases h9 with rfl | rfl | rfl | rfl | rfl
    · exact am_good1 (am_wd_in (i := 667) (by decide +kernel))
    · exact am_good1 (am_wd_in (i := 668) (by decide +kernel))
    · exact am_good1 (am_wd_in (i := 670) (by decide +kernel))
    · exact am_good1 (am_wd_in (i := 671) (by decide +kernel))
    · exact am_good1 wj_i4
  · exact aj_good wj_ordinal w h9
theorem aj_keep (hBs : am_Ba Hb s.heap) : ∀ q : Nat, q < Hb.size → ¬ am_A Hb q → s.heap[q]? = Hb[q]? := fun q h3 _ => hBs.2 q h3
set_option maxHeartbeats 4000000 in
theorem cj_coder (l : Launch) {i : Nat} (hi : i < 20) : Met l yj_coder (.code yj_coder prog_22_method_152_code 1 (some .byte) :: amTb) (aj_rm 0) (aj_P ρ D cI cJ cZ Hb X [.ref (ρ (1100 + i))]) (aj_Q (some (.int 0))) 0 0 (fun _ => False) := by
  refine Met.ofW (cc := prog_22_method_152_code) (maxL := 1) (ret := (some .byte)) (by decide) rfl ?_
  intro p e s m args below meth c s₁ B hml hv
  obtain ⟨rfl, hU, hBs⟩ := hv
  have hx := B.exec
  have hb := B.bytes
  have hr := B.returns
  have hts : ∀ w ∈ amTb, w.before _ s = true := fun w hw => atoms_spec (ws := .code yj_coder prog_22_method_152_code 1 (some .byte) :: amTb) B.pre w (List.mem_cons_of_mem _ hw)
  have hown : s.vm.findClass "java/lang/String" = some m.cls := findClass_of_methodNamed B.named
  have hlocks := B.notSynchronized
  have hl := lv_entry ([.ref (ρ (1100 + i))]) (n := 1) (Nat.le_of_ble_eq_true rfl)
  rw [lg_entry_eq]
  generalize (lg_sl ([.ref (ρ (1100 + i))]) ++ List.replicate (1 - (lg_sl ([.ref (ρ (1100 + i))])).length) Slot.unset).toArray = ls at hl ⊢
  have hl : lv_has ls 1 [(0, .ref (ρ (1100 + i)))] := hl
  obtain ⟨⟨adV, hS⟩, hZ, -⟩ := hU.2.2.2.2.2.2.2
  have hk := aj_keep hBs
  refine va_gets hx hb (hZ.kept hk) va_S.rf hown (hts _ wj_f38) (fun _ h9 => h9) (by decide +kernel) ?_
  refine lv_if_eq (tgt := 13) hx hb (pc := 3) (off := 10) (by decide +kernel) (by decide) (fun c9 => absurd c9 (by decide)) (fun _ => ?_)
  refine lv_aload_n (k := 0) hx hb (by decide +kernel) rfl (lv_at hl 0 rfl) ?_
  refine vk_getf hx hb ((hS i hi).2.1.kept hk) va_S.rf hown (hts _ wj_f15) (fun _ h9 => h9) (by decide +kernel) ?_
  refine lv_goto (tgt := 14) (off := 4) hx hb (by decide +kernel) (by decide) ?_
  exact W.zret (ty := .byte) hx hb hr (by decide) (fun t ht _ => ⟨rfl, ht⟩) (fun q hq => by cases hq) (by decide +kernel) hlocks
set_option maxHeartbeats 4000000 in
theorem cj_isLatin1 (l : Launch) {i : Nat} (hi : i < 20) : Met l yj_isLatin1 (.code yj_isLatin1 prog_22_method_154_code 1 (some .boolean) :: amTb) (aj_rm 0) (aj_P ρ D cI cJ cZ Hb X [.ref (ρ (1100 + i))]) (aj_Q (some (.int 1))) 0 0 (fun _ => False) := by
  refine Met.ofW (cc := prog_22_method_154_code) (maxL := 1) (ret := (some .boolean)) (by decide) rfl ?_
  intro p e s m args below meth c s₁ B hml hv
  obtain ⟨rfl, hU, hBs⟩ := hv
  have hx := B.exec
  have hb := B.bytes
  have hr := B.returns
  have hts : ∀ w ∈ amTb, w.before _ s = true := fun w hw => atoms_spec (ws := .code yj_isLatin1 prog_22_method_154_code 1 (some .boolean) :: amTb) B.pre w (List.mem_cons_of_mem _ hw)
  have hown : s.vm.findClass "java/lang/String" = some m.cls := findClass_of_methodNamed B.named
  have hlocks := B.notSynchronized
  have hl := lv_entry ([.ref (ρ (1100 + i))]) (n := 1) (Nat.le_of_ble_eq_true rfl)
  rw [lg_entry_eq]
  generalize (lg_sl ([.ref (ρ (1100 + i))]) ++ List.replicate (1 - (lg_sl ([.ref (ρ (1100 + i))])).length) Slot.unset).toArray = ls at hl ⊢
  have hl : lv_has ls 1 [(0, .ref (ρ (1100 + i)))] := hl
  obtain ⟨⟨adV, hS⟩, hZ, -⟩ := hU.2.2.2.2.2.2.2
  have hk := aj_keep hBs
  refine va_gets hx hb (hZ.kept hk) va_S.rf hown (hts _ wj_f38) (fun _ h9 => h9) (by decide +kernel) ?_
  refine lv_if_eq (tgt := 17) (off := 14) hx hb (by decide +kernel) (by decide) (fun c9 => absurd c9 (by decide)) (fun _ => ?_)
  refine lv_aload_n (k := 0) hx hb (by decide +kernel) rfl (lv_at hl 0 rfl) ?_
  refine vk_getf hx hb ((hS i hi).2.1.kept hk) va_S.rf hown (hts _ wj_f15) (fun _ h9 => h9) (by decide +kernel) ?_
  refine lv_if_ne (tgt := 17) (off := 7) hx hb (by decide +kernel) (by decide) (fun c9 => absurd rfl c9) (fun _ => ?_)
  refine lv_iconst (n := 1) (v := 1) hx hb (by decide +kernel) (by decide) ?_
  refine lv_goto (tgt := 18) (off := 4) hx hb (by decide +kernel) (by decide) ?_
  exact W.zret (ty := .boolean) hx hb hr (by decide) (fun t ht _ => ⟨rfl, ht⟩) (fun q hq => by cases hq) (by decide +kernel) hlocks
theorem aj_recv (hU : am_U ρ D cI cJ cZ Hb X s) (hB : am_Ba Hb H) {i : Nat} (hi : i < 20) : ∃ cell : Cell, H[ρ (1100 + i)]? = some cell ∧ cell.vm.isStatics = false ∧ s.vm.findClass "java/lang/String" = some cell.cls := by
  obtain ⟨⟨adV, hS⟩, -⟩ := hU.2.2.2.2.2.2.2
  obtain ⟨cell, h1, h2, h3, -⟩ := (hS i hi).1.kept (H1 := H) (fun q h3 _ => hB.2 q h3)
  exact ⟨cell, h1, h2, h3⟩
set_option maxHeartbeats 4000000 in
theorem cj_length (l : Launch) {i : Nat} (hi : i < 20) : Met l yj_length (.code yj_length prog_22_method_54_code 1 (some .int) :: amTb) (aj_rm 1) (aj_P ρ D cI cJ cZ Hb X [.ref (ρ (1100 + i))]) (aj_Q (some (.int (Int32.ofNat (am_lens.getD i 0))))) 0 0 (fun _ => False) := by
  refine Met.ofW (cc := prog_22_method_54_code) (maxL := 1) (ret := (some .int)) (by decide) rfl ?_
  intro p e s m args below meth c s₁ B hml hv
  obtain ⟨rfl, hU, hBs⟩ := hv
  have hx := B.exec
  have hb := B.bytes
  have hr := B.returns
  have hts : ∀ w ∈ amTb, w.before ([.ref (ρ (1100 + i))] : List Value).toArray s = true := fun w hw => atoms_spec (ws := .code yj_length prog_22_method_54_code 1 (some .int) :: amTb) B.pre w (List.mem_cons_of_mem _ hw)
  have hown : s.vm.findClass "java/lang/String" = some m.cls := findClass_of_methodNamed B.named
  have hlocks := B.notSynchronized
  have hl := lv_entry ([.ref (ρ (1100 + i))]) (n := 1) (Nat.le_of_ble_eq_true rfl)
  rw [lg_entry_eq]
  generalize (lg_sl ([.ref (ρ (1100 + i))]) ++ List.replicate (1 - (lg_sl ([.ref (ρ (1100 + i))])).length) Slot.unset).toArray = ls at hl ⊢
  have hl : lv_has ls 1 [(0, .ref (ρ (1100 + i)))] := hl
  obtain ⟨⟨adV, hS⟩, hZ, -⟩ := hU.2.2.2.2.2.2.2
  have hk := aj_keep hBs
  refine lv_aload_n (k := 0) hx hb (by decide +kernel) rfl (lv_at hl 0 rfl) ?_
  refine vk_getf hx hb ((hS i hi).2.2.1.kept hk) va_S.rf hown (hts _ wj_f9) (fun _ h9 => h9) (by decide +kernel) ?_
  refine va_tlen hx hb ((hS i hi).2.2.2.kept hk) va_S.rf rfl (by decide +kernel) ?_
  refine lv_aload_n (k := 0) hx hb (by decide +kernel) rfl (lv_at hl 0 rfl) ?_
  refine aj_call (v := some (.int 0)) (W.runV (As := []) (rest := [.int (Int32.ofNat (am_lens.getD i 0))]) (index := 335) ⟨hx, hb, hml, hown, hts⟩ (cj_coder (X := X) l hi) (cwV 0 hts wg_coder rfl rfl rfl (by decide +kernel) ⟨Nat.le_refl _, by decide⟩) ⟨aj_blind, aj_recv hU hBs hi, fun U hU1 hW => ⟨rfl, am_U.warm hW hU, by rw [hU1]; exact hBs⟩⟩ rfl rfl hl.1 rfl (lv_room (Nat.le_of_ble_eq_true rfl)) (show decode prog_22_method_54_code 6 = .ok (.invokevirtual 335, 3) by decide +kernel) ⟨Nat.le_refl _, Nat.le_refl _⟩) ?_
  refine W.eq (g2 := F0 m 9 ls [.int 0, .int (Int32.ofNat (am_lens.getD i 0))]) rfl ?_
  refine lv_ishr hx hb (by decide +kernel) ?_
  rw [sb_shr0]
  exact W.iret hx hb hr (fun t ht _ => ⟨rfl, ht⟩) (fun q hq => by cases hq) (by decide +kernel) hlocks
set_option maxHeartbeats 4000000 in
theorem cj_pcheck (l : Launch) {x n : Int32} {v : Value} (hv : v = .null ∨ ∃ t, v = .ref t) (h0 : ¬ x < 0) (hn : x < n) : Met l yj_pcheck (.code yj_pcheck prog_26_method_11_code 3 (some .int) :: amTb) (aj_rm 0) (aj_P ρ D cI cJ cZ Hb X [.int x, .int n, v]) (aj_Q (some (.int x))) 0 0 (fun _ => False) := by
  refine Met.ofW (cc := prog_26_method_11_code) (maxL := 3) (ret := (some .int)) (by decide) rfl ?_
  intro p e s m args below meth c s₁ B hml hvv
  obtain ⟨rfl, hU, hBs⟩ := hvv
  have hx := B.exec
  have hb := B.bytes
  have hr := B.returns
  have hlocks := B.notSynchronized
  have hcat : v.category = 1 := by rcases hv with rfl | ⟨t, rfl⟩ <;> rfl
  have hsl : (lg_sl [.int x, .int n, v]).length = 3 := by
    rcases hv with rfl | ⟨t, rfl⟩ <;> rfl
  have hl := lv_entry ([.int x, .int n, v]) (n := 3) (by rw [hsl]; exact Nat.le_refl _)
  rw [lg_entry_eq]
  generalize (lg_sl ([.int x, .int n, v]) ++ List.replicate (3 - (lg_sl ([.int x, .int n, v])).length) Slot.unset).toArray = ls at hl ⊢
  have hl : lv_has ls 3 [(0, .int x), (1, .int n), (2, v)] := hl
  refine lv_iload_n (k := 0) hx hb (by decide +kernel) rfl (lv_at hl 0 rfl) ?_
  refine lv_if_lt (tgt := 9) (off := 8) hx hb (by decide +kernel) (by decide) (fun c9 => absurd c9 h0) (fun _ => ?_)
  refine lv_iload_n (k := 0) hx hb (by decide +kernel) rfl (lv_at hl 0 rfl) ?_
  refine lv_iload_n (k := 1) hx hb (by decide +kernel) rfl (lv_at hl 1 rfl) ?_
  refine lv_icmp_lt (tgt := 16) (off := 10) hx hb (by decide +kernel) (by decide) (fun _ => ?_) (fun c9 => absurd hn c9)
  refine lv_iload_n (k := 0) hx hb (by decide +kernel) rfl (lv_at hl 0 rfl) ?_
  exact W.iret hx hb hr (fun t ht _ => ⟨rfl, ht⟩) (fun q hq => by cases hq) (by decide +kernel) hlocks
set_option maxHeartbeats 4000000 in
theorem cj_check (l : Launch) {x n : Int32} (h0 : ¬ x < 0) (hn : x < n) : Met l yj_check (.code yj_check prog_22_method_155_code 2 none :: amTb) (aj_rm 1) (aj_P ρ D cI cJ cZ Hb X [.int x, .int n]) (aj_Q none) 0 0 (fun _ => False) := by
  refine Met.ofW (cc := prog_22_method_155_code) (maxL := 2) (ret := none) (by decide) rfl ?_
  intro p e s m args below meth c s₁ B hml hv
  obtain ⟨rfl, hU, hBs⟩ := hv
  have hx := B.exec
  have hb := B.bytes
  have hr := B.returns
  have hts : ∀ w ∈ amTb, w.before ([.int x, .int n] : List Value).toArray s = true := fun w hw => atoms_spec (ws := .code yj_check prog_22_method_155_code 2 none :: amTb) B.pre w (List.mem_cons_of_mem _ hw)
  have hown : s.vm.findClass "java/lang/String" = some m.cls := findClass_of_methodNamed B.named
  have hlocks := B.notSynchronized
  have hl := lv_entry ([.int x, .int n]) (n := 2) (Nat.le_of_ble_eq_true rfl)
  rw [lg_entry_eq]
  generalize (lg_sl ([.int x, .int n]) ++ List.replicate (2 - (lg_sl ([.int x, .int n])).length) Slot.unset).toArray = ls at hl ⊢
  have hl : lv_has ls 2 [(0, .int x), (1, .int n)] := hl
  obtain ⟨-, -, hZq⟩ := hU.2.2.2.2.2.2.2
  have hk := aj_keep hBs
  refine lv_iload_n (k := 0) hx hb (by decide +kernel) rfl (lv_at hl 0 rfl) ?_
  refine lv_iload_n (k := 1) hx hb (by decide +kernel) rfl (lv_at hl 1 rfl) ?_
  obtain ⟨v, hv, hZ⟩ : ∃ v : Value, (v = .null ∨ ∃ t, v = .ref t) ∧ va_Z "jdk/internal/util/Preconditions" "SIOOBE_FORMATTER" "Ljava/util/function/BiFunction;" v (am_A Hb) s Hb := by
    rcases hZq with h9 | ⟨t, h9⟩
    · exact ⟨_, Or.inl rfl, h9⟩
    · exact ⟨_, Or.inr ⟨t, rfl⟩, h9⟩
  refine va_gets hx hb (hZ.kept hk) va_S.rf hown (hts _ wj_f1053) (fun _ h9 => h9) (by decide +kernel) ?_
  refine aj_call (v := some (.int x)) (W.runS (As := [.int x, .int n, v]) (rest := []) (index := 1059) ⟨hx, hb, hml, hown, hts⟩ (cj_pcheck (X := X) l hv h0 hn) (va_cwS 3 hts wg_pcheck rfl rfl rfl (by decide +kernel) ⟨Nat.le_refl _, by decide⟩) ⟨aj_blind, fun U hU1 hW => ⟨rfl, am_U.warm hW hU, by rw [hU1]; exact hBs⟩⟩ rfl rfl hl.1 rfl (lv_room (Nat.le_of_ble_eq_true rfl)) (show decode prog_22_method_155_code 5 = .ok (.invokestatic 1059, 3) by decide +kernel) ⟨Nat.le_refl _, Nat.le_refl _⟩) ?_
  refine W.eq (g2 := F0 m 8 ls [.int x]) rfl ?_
  refine lv_pop hx hb (by decide +kernel) rfl ?_
  exact W.vret hx hb hr (fun t ht _ => ⟨rfl, ht⟩) (fun q hq => by cases hq) (by decide +kernel) hlocks
/-- the char at k of text i -/
theorem aj_ch : ∀ i, i < 20 → am_lens.getD i 0 = (am_tx.getD i []).length ∧ (am_tx.getD i []).length < 100 ∧ ∀ b ∈ am_tx.getD i [], (((b &&& 255).toUInt32 % 65536).toInt32 = b ∧ narrow .char (.int b) = .int b) := by decide +kernel
theorem aj_at {i k : Nat} (hi : i < 20) (hk : k < am_lens.getD i 0) : (((((am_tx.getD i []).getD k 0) &&& 255).toUInt32 % 65536).toInt32 = (am_tx.getD i []).getD k 0) ∧ narrow .char (.int ((am_tx.getD i []).getD k 0)) = .int ((am_tx.getD i []).getD k 0) := by
  obtain ⟨h1, h2, h3⟩ := aj_ch i hi
  have hk2 : k < (am_tx.getD i []).length := by omega
  refine h3 _ ?_
  generalize am_tx.getD i [] = L at hk2 ⊢
  rw [List.getD_eq_getElem?_getD, List.getElem?_eq_getElem hk2]
  exact List.getElem_mem hk2
set_option maxHeartbeats 4000000 in
theorem cj_lcharAt (l : Launch) {i : Nat} {x : Int32} (hi : i < 20) (hx0 : vp_in x (am_lens.getD i 0)) {av : Nat} : Met l yj_lcharAt (.code yj_lcharAt prog_23_method_2_code 2 (some .char) :: amTb) (aj_rm 2) (fun v U => aj_P ρ D cI cJ cZ Hb X [.ref av, .int x] v U ∧ va_T .byte av (am_lens.getD i 0) (fun j => .int ((am_tx.getD i []).getD j 0)) (am_A Hb) U Hb) (aj_Q (some (.int ((am_tx.getD i []).getD x.toNatClampNeg 0)))) 0 0 (fun _ => False) := by
  refine Met.ofW (cc := prog_23_method_2_code) (maxL := 2) (ret := (some .char)) (by decide) rfl ?_
  intro p e s m args below meth c s₁ B hml hv
  obtain ⟨⟨rfl, hU, hBs⟩, hT⟩ := hv
  have hx := B.exec
  have hb := B.bytes
  have hr := B.returns
  have hts : ∀ w ∈ amTb, w.before ([.ref av, .int x] : List Value).toArray s = true := fun w hw => atoms_spec (ws := .code yj_lcharAt prog_23_method_2_code 2 (some .char) :: amTb) B.pre w (List.mem_cons_of_mem _ hw)
  have hown : s.vm.findClass "java/lang/StringLatin1" = some m.cls := findClass_of_methodNamed B.named
  have hlocks := B.notSynchronized
  have hl := lv_entry ([.ref av, .int x]) (n := 2) (Nat.le_of_ble_eq_true rfl)
  rw [lg_entry_eq]
  generalize (lg_sl ([.ref av, .int x]) ++ List.replicate (2 - (lg_sl ([.ref av, .int x])).length) Slot.unset).toArray = ls at hl ⊢
  have hl : lv_has ls 2 [(0, .ref av), (1, .int x)] := hl
  have hk := aj_keep hBs
  obtain ⟨a1, a2, a3⟩ := aj_ch i hi
  have hlt : x.toNatClampNeg < am_lens.getD i 0 := Nat.not_le.mp fun q => hx0 (Or.inr q)
  have h0 : ¬ x < 0 := fun q => hx0 (Or.inl q)
  obtain ⟨j, hj, rfl⟩ := nI_of h0
  rw [nI_clamp hj] at hlt ⊢
  have hxn : nI j < Int32.ofNat (am_lens.getD i 0) := nI_lt hlt (by omega)
  refine lv_iload_n (k := 1) hx hb (by decide +kernel) rfl (lv_at hl 1 rfl) ?_
  refine lv_aload_n (k := 0) hx hb (by decide +kernel) rfl (lv_at hl 0 rfl) ?_
  refine va_tlen hx hb (hT.kept hk) va_S.rf rfl (by decide +kernel) ?_
  refine aj_call (v := none) (W.runS (As := [.int (nI j), .int (Int32.ofNat (am_lens.getD i 0))]) (rest := []) (index := 9) ⟨hx, hb, hml, hown, hts⟩ (cj_check (X := X) l h0 hxn) (va_cwS 2 hts wg_check rfl rfl rfl (by decide +kernel) ⟨Nat.le_refl _, by decide⟩) ⟨aj_blind, fun U hU1 hW => ⟨rfl, am_U.warm hW hU, by rw [hU1]; exact hBs⟩⟩ rfl rfl hl.1 rfl (lv_room (Nat.le_of_ble_eq_true rfl)) (show decode prog_23_method_2_code 3 = .ok (.invokestatic 9, 3) by decide +kernel) ⟨Nat.le_refl _, Nat.le_refl _⟩) ?_
  refine W.eq (g2 := F0 m 6 ls []) rfl ?_
  refine lv_aload_n (k := 0) hx hb (by decide +kernel) rfl (lv_at hl 0 rfl) ?_
  refine lv_iload_n (k := 1) hx hb (by decide +kernel) rfl (lv_at hl 1 rfl) ?_
  refine va_tb hx hb (hT.kept hk) va_S.rf (vp_in_nI hlt (by omega)) (v := .int ((am_tx.getD i []).getD j 0)) (by rw [nI_clamp hj]) (by decide +kernel) ?_
  refine lv_sipush (n := 255) (v := 255) hx hb (by decide +kernel) (by decide) ?_
  refine lv_iand hx hb (by decide +kernel) ?_
  refine lv_i2c hx hb (by decide +kernel) (aj_at hi hlt).1 ?_
  exact W.zret (ty := .char) hx hb hr (aj_at hi hlt).2 (fun t ht _ => ⟨rfl, ht⟩) (fun q hq => by cases hq) (by decide +kernel) hlocks
set_option maxHeartbeats 4000000 in
theorem cj_charAt (l : Launch) {i : Nat} {x : Int32} (hi : i < 20) (hx0 : vp_in x (am_lens.getD i 0)) : Met l yj_charAt (.code yj_charAt prog_22_method_56_code 2 (some .char) :: amTb) (aj_rm 3) (aj_P ρ D cI cJ cZ Hb X [.ref (ρ (1100 + i)), .int x]) (aj_Q (some (.int ((am_tx.getD i []).getD x.toNatClampNeg 0)))) 0 0 (fun _ => False) := by
  refine Met.ofW (cc := prog_22_method_56_code) (maxL := 2) (ret := (some .char)) (by decide) rfl ?_
  intro p e s m args below meth c s₁ B hml hv
  obtain ⟨rfl, hU, hBs⟩ := hv
  have hx := B.exec
  have hb := B.bytes
  have hr := B.returns
  have hts : ∀ w ∈ amTb, w.before ([.ref (ρ (1100 + i)), .int x] : List Value).toArray s = true := fun w hw => atoms_spec (ws := .code yj_charAt prog_22_method_56_code 2 (some .char) :: amTb) B.pre w (List.mem_cons_of_mem _ hw)
  have hown : s.vm.findClass "java/lang/String" = some m.cls := findClass_of_methodNamed B.named
  have hlocks := B.notSynchronized
  have hl := lv_entry ([.ref (ρ (1100 + i)), .int x]) (n := 2) (Nat.le_of_ble_eq_true rfl)
  rw [lg_entry_eq]
  generalize (lg_sl ([.ref (ρ (1100 + i)), .int x]) ++ List.replicate (2 - (lg_sl ([.ref (ρ (1100 + i)), .int x])).length) Slot.unset).toArray = ls at hl ⊢
  have hl : lv_has ls 2 [(0, .ref (ρ (1100 + i))), (1, .int x)] := hl
  obtain ⟨⟨adV, hS⟩, -⟩ := hU.2.2.2.2.2.2.2
  have hk := aj_keep hBs
  have hlt : x.toNatClampNeg < am_lens.getD i 0 := Nat.not_le.mp fun q => hx0 (Or.inr q)
  refine lv_aload_n (k := 0) hx hb (by decide +kernel) rfl (lv_at hl 0 rfl) ?_
  refine aj_call (v := some (.int 1)) (W.runV (As := []) (rest := []) (index := 492) ⟨hx, hb, hml, hown, hts⟩ (cj_isLatin1 (X := X) l hi) (cwV 0 hts wg_isLatin1 rfl rfl rfl (by decide +kernel) ⟨by decide, by decide⟩) ⟨aj_blind, aj_recv hU hBs hi, fun U hU1 hW => ⟨rfl, am_U.warm hW hU, by rw [hU1]; exact hBs⟩⟩ rfl rfl hl.1 rfl (lv_room (Nat.le_of_ble_eq_true rfl)) (show decode prog_22_method_56_code 1 = .ok (.invokevirtual 492, 3) by decide +kernel) ⟨Nat.le_refl _, Nat.le_refl _⟩) ?_
  refine W.eq (g2 := F0 m 4 ls [.int 1]) rfl ?_
  refine lv_if_eq (tgt := 16) (off := 12) hx hb (by decide +kernel) (by decide) (fun c9 => absurd c9 (by decide)) (fun _ => ?_)
  refine lv_aload_n (k := 0) hx hb (by decide +kernel) rfl (lv_at hl 0 rfl) ?_
  refine vk_getf hx hb ((hS i hi).2.2.1.kept hk) va_S.rf hown (hts _ wj_f9) (fun _ h9 => h9) (by decide +kernel) ?_
  refine lv_iload_n (k := 1) hx hb (by decide +kernel) rfl (lv_at hl 1 rfl) ?_
  refine aj_call (v := some (.int ((am_tx.getD i []).getD x.toNatClampNeg 0))) (W.runS (As := [.ref (adV i), .int x]) (rest := []) (index := 495) ⟨hx, hb, hml, hown, hts⟩ (cj_lcharAt (X := X) l hi hx0) (va_cwS 2 hts wg_lcharAt rfl rfl rfl (by decide +kernel) ⟨Nat.le_refl _, by decide⟩) ⟨fun a U g mk q => ⟨aj_blind a U g mk q.1, va_T.moved (Vm.Alike.refl U.vm) q.2⟩, fun U hU1 hW => ⟨⟨rfl, am_U.warm hW hU, by rw [hU1]; exact hBs⟩, va_T.moved hW.alike (hS i hi).2.2.2⟩⟩ rfl rfl hl.1 rfl (lv_room (Nat.le_of_ble_eq_true rfl)) (show decode prog_22_method_56_code 12 = .ok (.invokestatic 495, 3) by decide +kernel) ⟨Nat.le_refl _, Nat.le_refl _⟩) ?_
  refine W.eq (g2 := F0 m 15 ls [.int ((am_tx.getD i []).getD x.toNatClampNeg 0)]) rfl ?_
  exact W.zret (ty := .char) hx hb hr (aj_at hi hlt).2 (fun t ht _ => ⟨rfl, ht⟩) (fun q hq => by cases hq) (by decide +kernel) hlocks
set_option maxHeartbeats 4000000 in
theorem cj_ordinal (l : Launch) {i : Nat} (hi : i < 19) : Met l yj_ordinal (.code yj_ordinal prog_16_method_2_code 1 (some .int) :: amTb) (aj_rm 0) (aj_P ρ D cI cJ cZ Hb X [.ref (ρ (1000 + i))]) (aj_Q (some (.int (Int32.ofNat i)))) 0 0 (fun _ => False) := by
  refine Met.ofW (cc := prog_16_method_2_code) (maxL := 1) (ret := (some .int)) (by decide) rfl ?_
  intro p e s m args below meth c s₁ B hml hv
  obtain ⟨rfl, hU, hBs⟩ := hv
  have hx := B.exec
  have hb := B.bytes
  have hr := B.returns
  have hts : ∀ w ∈ amTb, w.before ([.ref (ρ (1000 + i))] : List Value).toArray s = true := fun w hw => atoms_spec (ws := .code yj_ordinal prog_16_method_2_code 1 (some .int) :: amTb) B.pre w (List.mem_cons_of_mem _ hw)
  have hown : s.vm.findClass "java/lang/Enum" = some m.cls := findClass_of_methodNamed B.named
  have hlocks := B.notSynchronized
  have hl := lv_entry ([.ref (ρ (1000 + i))]) (n := 1) (Nat.le_of_ble_eq_true rfl)
  rw [lg_entry_eq]
  generalize (lg_sl ([.ref (ρ (1000 + i))]) ++ List.replicate (1 - (lg_sl ([.ref (ρ (1000 + i))])).length) Slot.unset).toArray = ls at hl ⊢
  have hl : lv_has ls 1 [(0, .ref (ρ (1000 + i)))] := hl
  obtain ⟨-, ho, -⟩ := hU.2.2.2.2.2.1 i hi
  refine lv_aload_n (k := 0) hx hb (by decide +kernel) rfl (lv_at hl 0 rfl) ?_
  refine vk_getf hx hb (ho.kept (aj_keep hBs)) va_S.rf hown (hts _ wj_f7) (fun _ h9 => h9) (by decide +kernel) ?_
  exact W.iret hx hb hr (fun t ht _ => ⟨rfl, ht⟩) (fun q hq => by cases hq) (by decide +kernel) hlocks
end JDK
theorem am_shift {a b n : Nat} (h1 : b ≤ a) (h2 : a < b + n) : ∃ i : Nat, i < n ∧ a = b + i := ⟨a - b, by omega, by omega⟩
set_option maxHeartbeats 4000000 in
theorem am_bis {l : Launch} {ρ : Nat → Nat} {D : va_G} {cI cJ cZ : ClassId} {Hb : Heap} {X : amX} : am_BIs l ρ D cI cJ cZ Hb X := by
  intro p e R s m args below meth c M Q hF hV H locs cells slots pc len ix j lv st w w1 fr1 ls h9 hchk hbi hR hlocs hs hsz hcR hsR kk
  obtain ⟨hx, hb, hown, hts, hU, hini, hml, hBs, hρ, hRf, hRl⟩ := hF
  have hB := hR.2.2.2
  have h1 : (am_dc M pc (.invokevirtual ix) 3 && decide ((am_own M = "ListDesk$Reader" ∧ ((j = 900 ∧ ix = 175) ∨ (j = 901 ∧ ix = 153))) ∨ (am_own M = "ListDesk$Tape" ∧ ((j = 901 ∧ ix = 46) ∨ (j = 902 ∧ ix = 50))))) = true := by
    have h2 := hchk
    simp only [am_chk] at h2
    rwa [if_pos h9] at h2
  simp only [Bool.and_eq_true, am_dc, decide_eq_true_eq] at h1
  obtain ⟨hdg, h1⟩ := h1
  unfold am_bi at hbi
  split at hbi
  · next hcat =>
    have hPU : ∀ (as : List Value) (U : State), U.heap = H → s.WarmedH U.vm → aj_P ρ D cI cJ cZ Hb X as as.toArray U := fun as U hU1 hW => ⟨rfl, am_U.warm hW hU, by rw [hU1]; exact hB⟩
    split at hbi
    · next a st' he =>
      have he : st = .ref a :: st' := he
      subst he
      have hcat' : (((st'.map (am_rv ρ))).map fun v => v.category).sum ≤ 8 := by
        rw [am_cat]
        have h8 : ((Value.ref a :: st').map fun v => v.category).sum ≤ 8 := hcat
        simp only [List.map_cons, List.sum_cons] at h8
        omega
      show W p l e R s m args below meth c H locs cells slots Q (F0 m pc ls (.ref (ρ a) :: st'.map (am_rv ρ)))
      split at hbi
      · next hq =>
        obtain ⟨rfl, ha1, ha2⟩ := hq
        have ha1 : (1000 : Nat) ≤ (a : Nat) := ha1
        cases hbi
        obtain ⟨i, hi, rfl⟩ : ∃ i : Nat, i < 19 ∧ a = 1000 + i := am_shift ha1 ha2
        have hii : (1000 + i : Nat) - 1000 = i := by omega
        have kk : W p l e R s m args below meth c H locs cells slots Q (F0 m (pc + 3) ls (.int (Int32.ofNat (1000 + i - 1000)) :: st'.map (am_rv ρ))) := kk
        rw [hii] at kk
        rcases h1 with ⟨ho, ⟨-, rfl⟩ | ⟨h2, -⟩⟩ | ⟨-, ⟨h2, -⟩ | ⟨h2, -⟩⟩
        · rw [ho] at hown
          obtain ⟨⟨cell, g1, g2, g3, -⟩, -⟩ := hU.2.2.2.2.2.1 i hi
          have hrec : ∃ cell : Cell, H[ρ (1000 + i)]? = some cell ∧ cell.vm.isStatics = false ∧ s.vm.findClass "ListDesk$Word" = some cell.cls := ⟨cell, by
            have h7 := (Array.getElem?_eq_some_iff.mp g1).1
            rw [hB.2 _ h7]; exact g1, g2, g3⟩
          exact aj_call (v := some (.int (Int32.ofNat i))) (va_Run.run (va_runU (As := []) (index := 175) (x := yj_wordinal) (owner := "java/lang/Enum") ⟨hx, hb, hml, hown, hts⟩ (cj_ordinal (X := X) l hi) (va_cwU 0 hts wg_ordinal rfl rfl rfl rfl (by decide +kernel) ⟨by show 0 + 1 ≤ _; omega, by show 8 + (1 + 11) + 40 * 0 ≤ _; omega⟩) ⟨aj_blind, hrec, hPU _⟩ rfl rfl hsz rfl (lv_room hcat') hdg ⟨hcR, hsR⟩)) kk
        · exact absurd h2 (by decide)
        · exact absurd h2 (by decide)
        · exact absurd h2 (by decide)
      · split at hbi
        · next hq =>
          obtain ⟨rfl, ha1, ha2⟩ := hq
          cases hbi
          obtain ⟨i, hi, rfl⟩ : ∃ i : Nat, i < 20 ∧ a = 1100 + i := am_shift ha1 ha2
          have hii : (1100 + i : Nat) - 1100 = i := by omega
          have kk : W p l e R s m args below meth c H locs cells slots Q (F0 m (pc + 3) ls (.int (Int32.ofNat (am_tx.getD (1100 + i - 1100) []).length) :: st'.map (am_rv ρ))) := kk
          rw [hii, ← (aj_ch i hi).1] at kk
          rcases h1 with ⟨ho, ⟨h2, -⟩ | ⟨-, rfl⟩⟩ | ⟨ho, ⟨-, rfl⟩ | ⟨h2, -⟩⟩
          · exact absurd h2 (by decide)
          · rw [ho] at hown
            exact aj_call (v := some (.int (Int32.ofNat (am_lens.getD i 0)))) (W.runV (As := []) (index := 153) ⟨hx, hb, hml, hown, hts⟩ (cj_length (X := X) l hi) (cwV 0 hts wg_lenR rfl rfl rfl (by decide +kernel) ⟨by show 1 + 1 ≤ _; omega, by show 8 + (1 + 11) + 40 * 1 ≤ _; omega⟩) ⟨aj_blind, aj_recv hU hB hi, hPU _⟩ rfl rfl hsz rfl (lv_room hcat') hdg ⟨hcR, hsR⟩) kk
          · rw [ho] at hown
            exact aj_call (v := some (.int (Int32.ofNat (am_lens.getD i 0)))) (W.runV (As := []) (index := 46) ⟨hx, hb, hml, hown, hts⟩ (cj_length (X := X) l hi) (cwV 0 hts wg_lenT rfl rfl rfl (by decide +kernel) ⟨by show 1 + 1 ≤ _; omega, by show 8 + (1 + 11) + 40 * 1 ≤ _; omega⟩) ⟨aj_blind, aj_recv hU hB hi, hPU _⟩ rfl rfl hsz rfl (lv_room hcat') hdg ⟨hcR, hsR⟩) kk
          · exact absurd h2 (by decide)
        · cases hbi
    · next x a st' he =>
      have he : st = .int x :: .ref a :: st' := he
      subst he
      have hcat' : (((st'.map (am_rv ρ))).map fun v => v.category).sum ≤ 8 := by
        rw [am_cat]
        have h8 : ((Value.int x :: Value.ref a :: st').map fun v => v.category).sum ≤ 8 := hcat
        simp only [List.map_cons, List.sum_cons] at h8
        omega
      show W p l e R s m args below meth c H locs cells slots Q (F0 m pc ls (.int x :: .ref (ρ a) :: st'.map (am_rv ρ)))
      split at hbi
      · next hq =>
        obtain ⟨rfl, ha1, ha2, hin⟩ := hq
        cases hbi
        obtain ⟨i, hi, rfl⟩ : ∃ i : Nat, i < 20 ∧ a = 1100 + i := am_shift ha1 ha2
        have hii : (1100 + i : Nat) - 1100 = i := by omega
        have kk : W p l e R s m args below meth c H locs cells slots Q (F0 m (pc + 3) ls (.int ((am_tx.getD (1100 + i - 1100) []).getD x.toNatClampNeg 0) :: st'.map (am_rv ρ))) := kk
        have hin : ¬ (x < 0 ∨ (am_tx.getD (1100 + i - 1100) []).length ≤ x.toNatClampNeg) := hin
        rw [hii] at kk hin
        rw [← (aj_ch i hi).1] at hin
        rcases h1 with ⟨-, ⟨h2, -⟩ | ⟨h2, -⟩⟩ | ⟨ho, ⟨h2, -⟩ | ⟨-, rfl⟩⟩
        · exact absurd h2 (by decide)
        · exact absurd h2 (by decide)
        · exact absurd h2 (by decide)
        · rw [ho] at hown
          exact aj_call (v := some (.int ((am_tx.getD i []).getD x.toNatClampNeg 0))) (W.runV (As := [.int x]) (index := 50) ⟨hx, hb, hml, hown, hts⟩ (cj_charAt (X := X) l hi hin) (cwV 1 hts wg_charAt rfl rfl rfl (by decide +kernel) ⟨by show 3 + 1 ≤ _; omega, by show 8 + (2 + 11) + 40 * 3 ≤ _; omega⟩) ⟨aj_blind, aj_recv hU hB hi, hPU _⟩ rfl rfl hsz rfl (lv_room hcat') hdg ⟨hcR, hsR⟩) kk
      · cases hbi
    · cases hbi
  · cases hbi
end
section
/-! the law's start: the things that stand there, and an empty world -/
def am_nm : List String := ["LAMBDA", "IF", "LET", "LETREC", "SET", "BEGIN", "ADD", "SUBTRACT", "MULTIPLY", "LESS", "EQUAL", "SAME", "CONS", "CAR", "CDR", "IS_PAIR", "IS_NULL", "NOT", "OUT"]
def am_sk : List (String × Nat) := [("ListDesk$Word", 92), ("ListDesk$Word", 98), ("ListDesk$Word", 101), ("ListDesk$Word", 104), ("ListDesk$Word", 107), ("ListDesk$Word", 110), ("ListDesk$Word", 113), ("ListDesk$Word", 118), ("ListDesk$Word", 121), ("ListDesk$Word", 124), ("ListDesk$Word", 127), ("ListDesk$Word", 130), ("ListDesk$Word", 133), ("ListDesk$Word", 136), ("ListDesk$Word", 139), ("ListDesk$Word", 142), ("ListDesk$Word", 145), ("ListDesk$Word", 148), ("ListDesk$Word", 151), ("ListDesk$Reader", 96)]
abbrev am_tm (i : Nat) : Term := .string (am_sk.getD i ("", 0)).1 (am_sk.getD i ("", 0)).2
abbrev am_te (i : Nat) : Term := .static "ListDesk$Word" (am_nm.getD i "") "LListDesk$Word;"
abbrev am_gn : Cond := Jvm.Cond.and given_1 narrow_1
abbrev an_F : List Cond := flatC am_gn
def an_sp : List Nat := [650, 660, 666, 673, 683, 691, 700, 705, 710, 715, 720, 725, 732, 740, 747, 754, 763, 772, 779, 464]
theorem an_in {i : Nat} {w : Cond} (h : decide (an_F[i]? = some w) = true) : w ∈ flatC am_gn := List.mem_of_getElem? (of_decide_eq_true h)
def an_sc (i : Nat) : Bool := decide (an_F[an_sp.getD i 0]? = some (Cond.exactly (am_tm i) "java/lang/String")) && decide (an_F[an_sp.getD i 0 + 1]? = some (Cond.eq (.field (am_tm i) "java/lang/String" "coder" "B") (.int 0))) && decide (an_F[an_sp.getD i 0 + 2]? = some (Cond.arrayOf (.field (am_tm i) "java/lang/String" "value" "[B") .byte)) && decide (an_F[an_sp.getD i 0 + 3]? = some (Cond.eq (.length (.field (am_tm i) "java/lang/String" "value" "[B")) (.int (Int32.ofNat (am_lens.getD i 0))))) && (List.range (am_lens.getD i 0)).all (fun j => decide (an_F[an_sp.getD i 0 + 4 + j]? = some (Cond.eq (.elem (.field (am_tm i) "java/lang/String" "value" "[B") (.int (Int32.ofNat j))) (.int ((am_tx.getD i []).getD j 0)))))
theorem an_s : (List.range 20).all an_sc = true := by decide +kernel
theorem an_s0 {i : Nat} (hi : i < 20) : Cond.exactly (am_tm i) "java/lang/String" ∈ flatC am_gn ∧ Cond.eq (.field (am_tm i) "java/lang/String" "coder" "B") (.int 0) ∈ flatC am_gn ∧ Cond.arrayOf (.field (am_tm i) "java/lang/String" "value" "[B") .byte ∈ flatC am_gn ∧ Cond.eq (.length (.field (am_tm i) "java/lang/String" "value" "[B")) (.int (Int32.ofNat (am_lens.getD i 0))) ∈ flatC am_gn ∧ ∀ j, j < am_lens.getD i 0 → Cond.eq (.elem (.field (am_tm i) "java/lang/String" "value" "[B") (.int (Int32.ofNat j))) (.int ((am_tx.getD i []).getD j 0)) ∈ flatC am_gn := by
  have h := List.all_eq_true.mp an_s i (List.mem_range.mpr hi)
  unfold an_sc at h
  simp only [Bool.and_eq_true] at h
  obtain ⟨⟨⟨⟨h1, h2⟩, h3⟩, h4⟩, h5⟩ := h
  exact ⟨an_in h1, an_in h2, an_in h3, an_in h4, fun j hj => an_in (List.all_eq_true.mp h5 j (List.mem_range.mpr hj))⟩
def an_p1 : List Nat := [57, 62, 68, 75, 83, 92, 102, 113, 125, 138, 152, 167, 183, 200, 218, 237, 257, 278, 300]
def an_p2 : List Nat := [58, 63, 69, 76, 84, 93, 103, 114, 126, 139, 153, 168, 184, 201, 219, 238, 258, 279, 301]
def an_p3 : List Nat := [60, 65, 71, 78, 86, 95, 105, 116, 128, 141, 155, 170, 186, 203, 221, 240, 260, 281, 303]
def an_p4 : List Nat := [61, 66, 72, 79, 87, 96, 106, 117, 129, 142, 156, 171, 187, 204, 222, 241, 261, 282, 304]
def an_p5 : List Nat := [59, 64, 70, 77, 85, 94, 104, 115, 127, 140, 154, 169, 185, 202, 220, 239, 259, 280, 302]
def an_ec (i : Nat) : Bool := decide (an_F[an_p1.getD i 0]? = some (Cond.exactly (am_te i) "ListDesk$Word")) && decide (an_F[an_p2.getD i 0]? = some (Cond.eq (.field (am_te i) "java/lang/Enum" "ordinal" "I") (.int (Int32.ofNat i)))) && decide (an_F[an_p3.getD i 0]? = some (Cond.eq (.field (am_te i) "ListDesk$Word" "operands" "I") (.int (am_opn.getD i 0)))) && decide (an_F[an_p4.getD i 0]? = some (Cond.eq (.field (am_te i) "ListDesk$Word" "order" "I") (.int (am_ord.getD i 0)))) && decide (an_F[an_p5.getD i 0]? = some (Cond.eq (.field (am_te i) "ListDesk$Word" "text" "Ljava/lang/String;") (am_tm i)))
theorem an_e : (List.range 19).all an_ec = true := by decide +kernel
theorem an_e0 {i : Nat} (hi : i < 19) : Cond.exactly (am_te i) "ListDesk$Word" ∈ flatC am_gn ∧ Cond.eq (.field (am_te i) "java/lang/Enum" "ordinal" "I") (.int (Int32.ofNat i)) ∈ flatC am_gn ∧ Cond.eq (.field (am_te i) "ListDesk$Word" "operands" "I") (.int (am_opn.getD i 0)) ∈ flatC am_gn ∧ Cond.eq (.field (am_te i) "ListDesk$Word" "order" "I") (.int (am_ord.getD i 0)) ∈ flatC am_gn ∧ Cond.eq (.field (am_te i) "ListDesk$Word" "text" "Ljava/lang/String;") (am_tm i) ∈ flatC am_gn := by
  have h := List.all_eq_true.mp an_e i (List.mem_range.mpr hi)
  unfold an_ec at h
  simp only [Bool.and_eq_true] at h
  obtain ⟨⟨⟨⟨h1, h2⟩, h3⟩, h4⟩, h5⟩ := h
  exact ⟨an_in h1, an_in h2, an_in h3, an_in h4, an_in h5⟩
abbrev am_tsw : Term := .static "ListDesk$1" "$SwitchMap$ListDesk$Word" "[I"
abbrev am_tal : Term := .static "ListDesk$Word" "ALL" "[LListDesk$Word;"
theorem an_w1 : (Cond.arrayOf am_tsw .int) ∈ flatC am_gn := an_in (i := 36) (by decide +kernel)
theorem an_w2 : (Cond.eq (.length am_tsw) (.int 19)) ∈ flatC am_gn := an_in (i := 37) (by decide +kernel)
theorem an_w : (List.range 19).all (fun j => decide (an_F[38 + j]? = some (Cond.eq (.elem am_tsw (.int (Int32.ofNat j))) (.int (am_sw.getD j 0))))) = true := by decide +kernel
theorem an_w3 : ∀ j, j < 19 → (Cond.eq (.elem am_tsw (.int (Int32.ofNat j))) (.int (am_sw.getD j 0))) ∈ flatC am_gn := fun j hj => an_in (List.all_eq_true.mp an_w j (List.mem_range.mpr hj))
theorem an_a1 : (Cond.arrayOf am_tal (.object "ListDesk$Word")) ∈ flatC am_gn := an_in (i := 8) (by decide +kernel)
theorem an_a2 : (Cond.eq (.length am_tal) (.int 19)) ∈ flatC am_gn := an_in (i := 9) (by decide +kernel)
theorem an_a : (List.range 19).all (fun j => decide (an_F[11 + j]? = some (Cond.eq (.elem am_tal (.int (Int32.ofNat j))) (am_te j)))) = true := by decide +kernel
theorem an_a3 : ∀ j, j < 19 → (Cond.eq (.elem am_tal (.int (Int32.ofNat j))) (am_te j)) ∈ flatC am_gn := fun j hj => an_in (List.all_eq_true.mp an_a j (List.mem_range.mpr hj))
def an_xp : List Nat := [443, 362, 403, 471, 493, 529, 565, 588, 611]
theorem an_x : (am_TH.zip an_xp).all (fun z => decide (an_F[z.2]? = some (Cond.exactly (.string z.1.1 z.1.2.2.1) "java/lang/String"))) = true := by decide +kernel
theorem an_x1 : ∀ q ∈ am_TH, (Cond.exactly (.string q.1 q.2.2.1) "java/lang/String") ∈ flatC am_gn := by
  intro q hq
  obtain ⟨i, hi⟩ := List.getElem?_of_mem hq
  have hl : i < am_TH.length := (List.getElem?_eq_some_iff.mp hi).1
  have hl2 : i < an_xp.length := hl
  have h2 : (am_TH.zip an_xp)[i]? = some (q, an_xp[i]) := by
    rw [List.getElem?_zip_eq_some]
    exact ⟨hi, List.getElem?_eq_getElem hl2⟩
  exact an_in (List.all_eq_true.mp an_x _ (List.mem_of_getElem? h2))
theorem an_x2 : ∀ q ∈ am_TH, (Cond.stringRef q.1 q.2.2.1 q.2.2.2.1) ∈ lw_tbl := by decide +kernel
theorem an_x3 : ∀ q ∈ am_TH, ∀ w ∈ am_tw q, w ∈ lw_tbl := by decide +kernel
theorem an_x4 : ∀ w ∈ am_cw, w ∈ lw_tbl := by decide +kernel
def an_cp (i j : Nat) : Nat := if i = 0 then (if j = 1 then 346 else 359) else if i = 1 then (if j = 0 then 333 else 360) else (if j = 0 then 335 else 348)
theorem an_cc : (List.range 3).all (fun i => (List.range 3).all (fun j => decide (i = j) || decide (an_F[an_cp i j]? = some (Cond.not (.castable (am_ex i) (am_ex j)))))) = true := by decide +kernel
theorem an_x5 : ∀ i, i < 3 → ∀ j, j < 3 → i ≠ j → (Cond.not (.castable (am_ex i) (am_ex j))) ∈ flatC am_gn := by
  intro i hi j hj hij
  have h := List.all_eq_true.mp (List.all_eq_true.mp an_cc i (List.mem_range.mpr hi)) j (List.mem_range.mpr hj)
  rw [Bool.or_eq_true] at h
  rcases h with h | h
  · exact absurd (of_decide_eq_true h) hij
  · exact an_in h
theorem an_c1 : (Cond.eq (.static "java/lang/String" "COMPACT_STRINGS" "Z") (.int 1)) ∈ flatC am_gn := an_in (i := 30) (by decide +kernel)
theorem an_c2 : (Cond.isRef (.static "jdk/internal/util/Preconditions" "SIOOBE_FORMATTER" "Ljava/util/function/BiFunction;")) ∈ flatC am_gn := an_in (i := 31) (by decide +kernel)
theorem an_c3 : (Cond.isRef (.static Bundle.tN "UNASSIGNED_STACK" Bundle.steD)) ∈ flatC am_gn := an_in (i := 4) (by decide +kernel)
theorem an_c4 : (Cond.isRef (.static Bundle.tN "SUPPRESSED_SENTINEL" Bundle.listD)) ∈ flatC am_gn := an_in (i := 5) (by decide +kernel)
theorem an_l : [Cond.laysStatic "ListDesk$1" "$SwitchMap$ListDesk$Word" "[I", .laysStatic "ListDesk$Word" "ALL" "[LListDesk$Word;", .laysStatic "java/lang/String" "COMPACT_STRINGS" "Z", .laysStatic "jdk/internal/util/Preconditions" "SIOOBE_FORMATTER" "Ljava/util/function/BiFunction;", .laysStatic Bundle.tN "UNASSIGNED_STACK" Bundle.steD, .laysStatic Bundle.tN "SUPPRESSED_SENTINEL" Bundle.listD, .initialized "ListDesk$1", .initialized "ListDesk$Word", .initialized "java/lang/String", .initialized "jdk/internal/util/Preconditions", .initialized Bundle.tN, .stringRef "ListDesk$Reader" 96 "nil"].all (fun w => decide (w ∈ lw_tbl)) = true := by decide +kernel
theorem am_ex_ref {args : Array Value} {s : State} {t : Term} {C : String} (h : (Cond.exactly t C).before args s = true) {A : Nat → Prop} (hA : ∀ a : Nat, a < s.heap.size → ¬ A a) : ∃ a : Nat, t.eval args s none [] s = some (.ref a) ∧ va_O C a A s s.heap := by
  obtain ⟨a, c, cell, k, q1, q2, q3, q4, q5, q6, -⟩ := Cond.exactly_spec (args := args) (first := s) (o := none) (s := s) (idx := []) (t := t) (cls := C) h
  exact ⟨a, q1, cell, q3, q5, by rw [q6]; exact q2, hA a (Array.getElem?_eq_some_iff.mp q3).1⟩
theorem am_ac_of {args : Array Value} {s : State} {ty : FieldType} (hp : (∀ C, ty ≠ .object C)) (h : (Cond.arrayClass ty).before args s = true) : ∃ cA : ClassId, ArrOfT s cA ty ∧ va_RA s cA ty := by
  obtain ⟨cA, kA, comp, hfind, hk, hkind⟩ := Cond.arrayClass_spec h
  refine ⟨cA, fun n z => ⟨fun k h => (by cases h), kA, hk, comp, hkind⟩, ?_⟩
  cases ty <;> first | exact hfind | exact absurd rfl (hp _)
/-- where the things stand -/
def am_rho (B : Nat) (eE eK : Nat → Nat) (tS tA b : Nat) : Nat → Nat := fun i => if i < 1000 then B + i else if i < 1019 then eE (i - 1000) else if i < 1100 then 0 else if i < 1120 then eK (i - 1100) else if i = 1200 then tA else if i = 1201 then tS else b
set_option maxHeartbeats 4000000 in
theorem am_begin {s : State} {b L : Nat} {xs : Nat → Int32} (hts : ∀ w ∈ lw_tbl, w.before #[Value.ref b] s = true) (hX : va_X b L xs s s.heap) (hbl : b < s.heap.size) (hgv : am_gn.before #[Value.ref b] s = true) :
    ∃ (ρ : Nat → Nat) (D : va_G) (cI cJ cZ : ClassId), am_ρ ρ s.heap ∧ ρ 2000 = b ∧ am_U ρ D cI cJ cZ s.heap (L, xs) s ∧ am_V s.heap s ∧ am_Rep ρ D cI cJ cZ s.heap ([], 0, 0) s.heap := by
  have hn := flat_of_before _ hgv
  have hA : ∀ a : Nat, a < s.heap.size → ¬ am_A s.heap a := fun a h => Nat.not_le.mpr h
  have htsA : ∀ w ∈ amTb, w.before #[Value.ref b] s = true := fun w h => hts w (List.mem_filter.mp h).1
  have hin : ∀ w ∈ [Cond.laysStatic "ListDesk$1" "$SwitchMap$ListDesk$Word" "[I", .laysStatic "ListDesk$Word" "ALL" "[LListDesk$Word;", .laysStatic "java/lang/String" "COMPACT_STRINGS" "Z", .laysStatic "jdk/internal/util/Preconditions" "SIOOBE_FORMATTER" "Ljava/util/function/BiFunction;", .laysStatic Bundle.tN "UNASSIGNED_STACK" Bundle.steD, .laysStatic Bundle.tN "SUPPRESSED_SENTINEL" Bundle.listD, .initialized "ListDesk$1", .initialized "ListDesk$Word", .initialized "java/lang/String", .initialized "jdk/internal/util/Preconditions", .initialized Bundle.tN, .stringRef "ListDesk$Reader" 96 "nil"], w.before #[Value.ref b] s = true := fun w h => hts w (of_decide_eq_true (List.all_eq_true.mp an_l w h))
  simp only [List.mem_cons, List.not_mem_nil, or_false, forall_eq_or_imp, forall_eq] at hin
  obtain ⟨l1, l2, l3, l4, l5, l6, i1, i2, i3, i4, i5, r1⟩ := hin
  have hE : ∀ i : Nat, ∃ a : Nat, i < 19 → (am_te i).eval #[Value.ref b] s none [] s = some (.ref a) ∧ va_O "ListDesk$Word" a (am_A s.heap) s s.heap := fun i => by
    by_cases hi : i < 19
    · obtain ⟨a, h1⟩ := am_ex_ref (hn _ (an_e0 hi).1) hA
      exact ⟨a, fun _ => h1⟩
    · exact ⟨0, fun h => absurd h hi⟩
  obtain ⟨eE, heE⟩ := Classical.axiomOfChoice hE
  have hK : ∀ i : Nat, ∃ q : Nat × Nat, i < 20 → (am_tm i).eval #[Value.ref b] s none [] s = some (.ref q.1) ∧ va_O "java/lang/String" q.1 (am_A s.heap) s s.heap ∧ va_OF "java/lang/String" "coder" "B" (.int 0) q.1 (am_A s.heap) s s.heap ∧ va_OF "java/lang/String" "value" "[B" (.ref q.2) q.1 (am_A s.heap) s s.heap ∧ va_T .byte q.2 (am_lens.getD i 0) (fun j => .int ((am_tx.getD i []).getD j 0)) (am_A s.heap) s s.heap := fun i => by
    by_cases hi : i < 20
    · obtain ⟨a, h1, h2⟩ := am_ex_ref (hn _ (an_s0 hi).1) hA
      obtain ⟨t, ht, hT⟩ := va_Tof (f := fun j => .int ((am_tx.getD i []).getD j 0)) (A := am_A s.heap) (N := am_lens.getD i 0) (by have h := (aj_ch i hi); omega) (hn _ (an_s0 hi).2.2.1) (va_eqt (hn _ (an_s0 hi).2.2.2.1)) (fun j hj => va_eqt (hn _ ((an_s0 hi).2.2.2.2 j hj))) hA
      exact ⟨(a, t), fun _ => ⟨h1, h2, vk_OFof h1 (va_eqt (hn _ (an_s0 hi).2.1)) hA, vk_OFof h1 ht hA, hT⟩⟩
    · exact ⟨(0, 0), fun h => absurd h hi⟩
  obtain ⟨eK, heK⟩ := Classical.axiomOfChoice hK
  obtain ⟨tS, htS, hTS⟩ := va_Tof (f := fun j => .int (am_sw.getD j 0)) (A := am_A s.heap) (N := 19) (by decide) (hn _ an_w1) (va_eqt (hn _ an_w2)) (fun j hj => va_eqt (hn _ (an_w3 j hj))) hA
  obtain ⟨tA, htA, hTA⟩ := va_Tof (f := fun j => .ref (eE j)) (A := am_A s.heap) (N := 19) (by decide) (hn _ an_a1) (va_eqt (hn _ an_a2)) (fun j hj => va_eqv (hn _ (an_a3 j hj)) (heE j hj).1) hA
  obtain ⟨cI, aI⟩ := am_ac_of (ty := .int) (fun C h => by cases h) (htsA _ am_ac_int)
  obtain ⟨cJ, aJ⟩ := am_ac_of (ty := .long) (fun C h => by cases h) (htsA _ am_ac_long)
  obtain ⟨cZ, aZ⟩ := am_ac_of (ty := .boolean) (fun C h => by cases h) (htsA _ am_ac_boolean)

  obtain ⟨c0, iS0, hKn0⟩ := u_known (C := RX1) (T := TX1) (N := 4) (n := 4) htsA inX1 (hts (.instantiable RX1 (4)) (by decide +kernel))
  obtain ⟨c1, iS1, hKn1⟩ := u_known (C := RX2) (T := TX2) (N := 10) (n := 10) htsA inX2 (hts (.instantiable RX2 (10)) (by decide +kernel))
  obtain ⟨c2, iS2, hKn2⟩ := u_known (C := RX3) (T := TX3) (N := 5) (n := 5) htsA inX3 (hts (.instantiable RX3 (5)) (by decide +kernel))
  obtain ⟨c3, iS3, hKn3⟩ := u_known (C := RX4) (T := TX4) (N := 15) (n := 15) htsA inX4 (hts (.instantiable RX4 (15)) (by decide +kernel))
  obtain ⟨c4, iS4, hKn4⟩ := u_known (C := RX5) (T := TX5) (N := 9) (n := 9) htsA inX5 (hts (.instantiable RX5 (9)) (by decide +kernel))
  obtain ⟨c5, iS5, hKn5⟩ := u_known (C := RX6) (T := TX6) (N := 2) (n := 2) htsA inX6 (hts (.instantiable RX6 (2)) (by decide +kernel))
  obtain ⟨c6, iS6, hKn6⟩ := u_known (C := RX7) (T := TX7) (N := 6) (n := 6) htsA inX7 (hts (.instantiable RX7 (6)) (by decide +kernel))
  obtain ⟨c7, iS7, hKn7⟩ := u_known (C := RX9) (T := TX9) (N := 4) (n := 4) htsA inX9 (hts (.instantiable RX9 (4)) (by decide +kernel))
  obtain ⟨c8, iS8, hKn8⟩ := u_known (C := RX12) (T := TX12) (N := 3) (n := 3) htsA inX12 (hts (.instantiable RX12 (3)) (by decide +kernel))
  obtain ⟨c9, iS9, hKn9⟩ := u_known (C := RX13) (T := TX13) (N := 58) (n := 58) htsA inX13 (hts (.instantiable RX13 (58)) (by decide +kernel))
  obtain ⟨dC, dI, hKc⟩ : ∃ (dC : Nat → ClassId) (dI : Nat → Nat → Nat), ∀ (k : Nat) (q : vw_C), vwCl[k]? = some q → u_Kn s q.1 q.2.1 q.2.2 (dC k) (dI k) := by
    refine ⟨fun k => match k with | 0 => c0 | 1 => c1 | 2 => c2 | 3 => c3 | 4 => c4 | 5 => c5 | 6 => c6 | 7 => c7 | 8 => c8 | _ => c9, fun k => match k with | 0 => iS0 | 1 => iS1 | 2 => iS2 | 3 => iS3 | 4 => iS4 | 5 => iS5 | 6 => iS6 | 7 => iS7 | 8 => iS8 | _ => iS9, ?_⟩
    intro k q hq
    match k, hq with
    | 0, hq => cases hq; exact hKn0
    | 1, hq => cases hq; exact hKn1
    | 2, hq => cases hq; exact hKn2
    | 3, hq => cases hq; exact hKn3
    | 4, hq => cases hq; exact hKn4
    | 5, hq => cases hq; exact hKn5
    | 6, hq => cases hq; exact hKn6
    | 7, hq => cases hq; exact hKn7
    | 8, hq => cases hq; exact hKn8
    | 9, hq => cases hq; exact hKn9
    | k + 10, hq => exact absurd (am_cls_lt hq) (by omega)
  refine ⟨am_rho s.heap.size eE (fun i => (eK i).1) tS tA b, (dC, dI), cI, cJ, cZ, fun i hi => if_pos hi, rfl, ⟨⟨hKc, ?_⟩, ?_, ⟨hX, hbl⟩, ⟨va_Zref l1 i1 htS hA, hTS⟩, ⟨va_Zref l2 i2 htA hA, ?_⟩, ?_, ?_, ?_⟩, ?_, ?_⟩
  · intro k q hq
    match k, hq with
    | 0, hq => cases hq; exact aI
    | 1, hq => cases hq; exact aJ
    | 2, hq => cases hq; exact aZ
    | k + 3, hq => simp at hq
  · intro a i n1 n2 d h
    exact va_Nw.of rfl (hts _ h)
  · have e1 : (fun j : Nat => Value.ref (am_rho s.heap.size eE (fun i => (eK i).1) tS tA b (1000 + j))) = fun j => Value.ref (if 1000 + j < 1019 then eE j else am_rho s.heap.size eE (fun i => (eK i).1) tS tA b (1000 + j)) := by
      funext j
      by_cases hj : 1000 + j < 1019
      · rw [if_pos hj]
        unfold am_rho
        rw [if_neg (by omega), if_pos hj, show 1000 + j - 1000 = j by omega]
      · rw [if_neg hj]
    obtain ⟨cell, g1, g2, g3, g4, g5, g6, g7⟩ := hTA
    refine ⟨cell, g1, g2, g3, g4, g5, fun j hj => ?_, g7⟩
    have h1 := g6 j hj
    rw [e1]
    show cell.slots[j]? = some (Value.ref (if 1000 + j < 1019 then eE j else _))
    rw [if_pos (by omega)]
    exact h1
  · intro i hi
    have e1 : am_rho s.heap.size eE (fun i => (eK i).1) tS tA b (1000 + i) = eE i := by
      unfold am_rho
      rw [if_neg (by omega), if_pos (by omega), show 1000 + i - 1000 = i by omega]
    have e2 : am_rho s.heap.size eE (fun i => (eK i).1) tS tA b (1100 + i) = (eK i).1 := by
      unfold am_rho
      rw [if_neg (by omega), if_neg (by omega), if_neg (by omega), if_pos (by omega), show 1100 + i - 1100 = i by omega]
    rw [e1, e2]
    obtain ⟨h1, h2⟩ := heE i hi
    exact ⟨h2, vk_OFof h1 (va_eqt (hn _ (an_e0 hi).2.1)) hA, vk_OFof h1 (va_eqt (hn _ (an_e0 hi).2.2.1)) hA, vk_OFof h1 (va_eqt (hn _ (an_e0 hi).2.2.2.1)) hA, vk_OFof h1 (va_eqv (hn _ (an_e0 hi).2.2.2.2) (heK i (by omega)).1) hA⟩
  · exact vk_R.of (A := #[Value.ref b]) r1 (heK 19 (by decide)).1
  · refine ⟨⟨fun i => (eK i).2, fun i hi => ?_⟩, va_Zof l3 i3 (va_eqi (hn _ an_c1)) hA, va_Zqof l4 i4 (hn _ an_c2) hA⟩
    have e2 : am_rho s.heap.size eE (fun i => (eK i).1) tS tA b (1100 + i) = (eK i).1 := by
      unfold am_rho
      rw [if_neg (by omega), if_neg (by omega), if_neg (by omega), if_pos (by omega), show 1100 + i - 1100 = i by omega]
    show va_O "java/lang/String" (am_rho s.heap.size eE (fun i => (eK i).1) tS tA b (1100 + i)) _ s _ ∧ va_OF _ _ _ _ (am_rho s.heap.size eE (fun i => (eK i).1) tS tA b (1100 + i)) _ s _ ∧ va_OF _ _ _ _ (am_rho s.heap.size eE (fun i => (eK i).1) tS tA b (1100 + i)) _ s _ ∧ _
    rw [e2]
    exact (heK i hi).2
  · refine ⟨vx_Zqof l5 i5 (hn _ an_c3) hA, vx_Zqof l6 i5 (hn _ an_c4) hA, fun q hq => ?_, fun q hq w hw => ?_, fun w hw => ?_, fun i j hi hj hij => va_Nc.of (hn _ (an_x5 i hi j hj hij))⟩
    · obtain ⟨a, h1, -⟩ := am_ex_ref (A := am_A s.heap) (hn _ (an_x1 q hq)) hA
      exact ⟨a, vk_R.of (A := #[Value.ref b]) (hts _ (an_x2 q hq)) h1⟩
    · obtain ⟨-, k2, -⟩ := (am_tw_get hq).1 w hw
      exact va_tabs k2 rfl (hts _ (an_x3 q hq w hw))
    · have k := List.all_eq_true.mp am_cw_ok w hw
      simp only [Bool.and_eq_true] at k
      exact va_tabs k.2 rfl (hts _ (an_x4 w hw))
  · exact ⟨fun k q h => by simp [am_ws] at h, Nat.zero_le _, fun _ => rfl, Nat.le_refl _, fun _ _ => rfl⟩
end
section
/-! THE CLAIM OUT OF ONE WALK OF THE LAW'S BODY. Your part is whole_start (and what it stands on); all else here is the same for every law, but numbers. -/
def R_law : String := "ListDeskLaw"
def lw_P (b : Addr) (xs : List Int32) (args : Array Value) (s : State) : Prop := args = #[.ref b] ∧ s.IntsAt b xs ∧ xs.length ≤ 2048 ∧ (Jvm.Cond.and given_1 narrow_1).before args s = true
def lw_Q (_ : Array Value) (s : State) (o : Outcome) (t : State) : Prop := o = .returned (some (.int 1)) ∧ Framed s o t [] 601024 7293034
def lw_Z (below : List Frame) (a : Array Value) (s : State) : State → Prop := fun t => ∃ o, t.status = .running ∧ Ended t below o ∧ lw_Q a s o t
/-- the law's own end, with 1 on the stack, nothing written that was there before, its room as the claim has it -/
theorem lw_ret {p : Program} {l : Launch} {e : Env} {s : State} {m : MethodId} {below : List Frame} {meth : Method} {c : Code} {b : Nat} (hx : p.tables.exec = Jvm.exec) (hb : c.code = code) (hr : meth.sig.returnType = ret) (hlocks : meth.locks = false) {pc : Nat} {H : Heap} {ls : Array Slot} (hdg : decode code pc = .ok (.ireturn, 1)) : W p l e room_1 s m #[Value.ref b] below meth c H [] 601024 7293034 (lw_Z below #[Value.ref b] s) (F0 m pc ls [.int 1]) := by
  intro T hT X
  obtain ⟨fs, hret, hrun, hended, hW, hframe⟩ := X.leave (v := some (.int 1)) (hlocks := hlocks) (fun h => by rw [hr] at h; cases h)
  have hmeth' : T.vm.method? m = some meth := X.method'
  refine ⟨T.setFrames fs, ?_, .returned (some (.int 1)), hrun, hended, rfl, ⟨_, rfl⟩, hW, hframe⟩
  jvm_step X.here [X.here.top, hx, hb, hdg, hmeth', hr, ret, narrow_b1]
  (try refine ⟨rfl, ?_⟩); (try refine ⟨rfl, ?_⟩)
  first | (intro acts; rw [hret _ acts rfl rfl rfl]) | rw [hret _ _ rfl rfl rfl]
  exact Steps.refl _
/-- what holds at the law's entry: the machine, the code, the tables' words (any of lw_tbl by 'hts w (by decide +kernel)'), the script of L ints xs at the cell b, what the Statement gives of the start (any of its parts by flat_of_before) -/
def lw_At (p : Program) (s : State) (m : MethodId) (meth : Method) (c : Code) (b L : Nat) (xs : Nat → Int32) : Prop :=
  p.tables.exec = Jvm.exec ∧ c.code = code ∧ meth.sig.returnType = ret ∧ c.maxLocals = 7 ∧ s.vm.findClass R_law = some m.cls ∧ (∀ w ∈ lw_tbl, w.before #[Value.ref b] s = true) ∧ va_X b L xs s s.heap ∧ b < s.heap.size ∧ meth.locks = false ∧ (Jvm.Cond.and given_1 narrow_1).before #[Value.ref b] s = true
/-- what the law's run must be, as a run of AM -/
def am_Run : Prop := ∀ (L : Nat) (xs : Nat → Int32), L ≤ 2048 → ∃ n w', AMl (L, xs) (AMc (L, xs) 1000) am_m188 n (0, [(0, .ref 2000)], []) ([], 0, 0) (.inl (some (.int 1))) w' ∧ am_cN w' ≤ 601024 ∧ am_sN w' ≤ 7293034
theorem am_chk_ir {M : amM} {pc len ix : Nat} (h : am_chk M (pc, .ireturn, len, ix) = true) : decode (am_b M) pc = .ok (.ireturn, 1) := of_decide_eq_true h
theorem am_188in : am_m188 ∈ am_Ms := List.mem_of_getElem? (i := 188) rfl
set_option maxHeartbeats 4000000 in
theorem whole_start (hrun : am_Run) {p : Program} {e : Env} {s : State} {m : MethodId} {below : List Frame} {meth : Method} {c : Code} (l : Launch) (hl : l.stackTraces = false) {b L : Nat} {xs : Nat → Int32} (hL : L ≤ 2048) (htab : c.exceptionTable.toList = []) (C0 : lw_At p s m meth c b L xs) : W p l e room_1 s m #[Value.ref b] below meth c s.heap [] 0 0 (lw_Z below #[Value.ref b] s) (entryFrame m ([Value.ref b] : List Value).toArray 7) := by
  obtain ⟨hx, hb, hr, hml, hown, hts, hX, hbl, hlocks, hgv⟩ := C0
  obtain ⟨ρ, D, cI, cJ, cZ, hρ, hρb, hU, hV, hRep⟩ := am_begin hts hX hbl hgv
  obtain ⟨n, w', hrun, hcN, hsN⟩ := hrun L xs hL
  have htsA : ∀ w ∈ amTb, w.before #[Value.ref b] s = true := fun w h => hts w (List.mem_filter.mp h).1
  have hF : am_Fr p room_1 s m #[Value.ref b] meth c ρ D cI cJ cZ s.heap (L, xs) am_m188 :=
    ⟨hx, hb, hown, htsA, hU, fun h9 => absurd h9 (by decide), hml, ⟨Nat.le_refl _, fun _ _ => rfl⟩, hρ, by decide, by decide⟩
  rw [lg_entry_eq]
  have hen := lv_entry ([Value.ref b] : List Value) (n := 7) (show 1 ≤ 7 by decide)
  refine am_frame (dd := 1000) (mc := 601024) (ms := 7293034) am_188in hF hV (by rw [htab]; rfl) (Or.inl rfl) (by decide) (by decide) (by decide) (by decide) (am_met hl hρ am_bis 1000) (am_bis p e _ s m _ below meth c am_m188 _ hF hV) ?_ ?_ ?_ n (0, [(0, .ref 2000)], []) ([], 0, 0) hrun s.heap [] _ 0 0 hRep ?_ (fun z hz => by cases hz) (Nat.le_refl _) ?_ ?_
  · intro H locs ls pc len ix cells slots ins v st ho hchk hret hR1 hl1 hs1 hc1 hc2
    cases ho
    have h4 : ins = .ireturn ∧ st = [.int 1] := by
      unfold am_ret at hret
      split at hret <;> first | (cases hret; done) | (next h1 => cases h1) | skip
      all_goals first
        | (next x h1 =>
            split at hret
            · cases hret; exact ⟨rfl, rfl⟩
            · cases hret)
        | (next h1 => cases h1)
        | (next x h1 => cases h1)
        | (next a b h1 => cases h1)
        | skip
    obtain ⟨rfl, rfl⟩ := h4
    have hdg : decode (am_b am_m188) pc = .ok (.ireturn, 1) := am_chk_ir hchk
    refine va_forget hl1 ?_
    refine W.widen hc1 hc2 ?_
    exact lw_ret hx hb hr hlocks hdg
  · intro H locs ls pc cells slots x ce q st ho
    cases ho
  · intro H locs ls pc len ix cells slots x ins st w ho
    cases ho
  · rw [show ([(0, Value.ref 2000)] : List (Nat × Value)).map (am_rl ρ) = lv_args 0 [Value.ref b] from by simp [am_rl, am_rv, hρb, lv_args]]
    exact hen
  · have h9 : am_cN ([], 0, 0) = 0 := rfl
    omega
  · have h9 : am_sN ([], 0, 0) = 0 := rfl
    omega
set_option maxHeartbeats 4000000 in
theorem lw_walk (hrun : am_Run) (l : Launch) (hl : l.stackTraces = false) (b : Addr) (xs : List Int32) : MetFree l x (headSpec (Jvm.Cond.code x code maxLocals ret :: tables_1) room_1) (lw_P b xs) (fun _ _ _ _ _ => True) lw_Q := by
  refine MetFree.of_bodyS (code := code) (maxLocals := maxLocals) (ret := ret) (by decide) ?_ ?_
  · intro args s m h hn
    obtain ⟨meth, c, h1, h2, h3, h4, h5, h6, -, -⟩ := Cond.code_spec hn (atoms_spec (ws := Jvm.Cond.code x code maxLocals ret :: tables_1) h _ List.mem_cons_self)
    exact ⟨meth, c, h1, h2, h3, h4, h5, h6⟩
  · intro p e s m args below meth c s₁ B hml0 hP _
    obtain ⟨rfl, hx, hbd, hgv⟩ := hP
    obtain ⟨scr, harrAt, hlist, hof, hsmall⟩ := hx
    obtain ⟨hcb, hkn, -, -⟩ := State.arrayAt?_spec harrAt
    have hown : s.vm.findClass R_law = some m.cls := findClass_of_methodNamed B.named
    have hts0 : ∀ c ∈ (Jvm.Cond.code x code maxLocals ret :: tables_1), c.before #[Value.ref b] s = true := atoms_spec (ws := Jvm.Cond.code x code maxLocals ret :: tables_1) B.pre
    have hts : ∀ w ∈ lw_tbl, w.before #[Value.ref b] s = true := k2_hts_sels lw_privs (fun w hw => hts0 w (List.mem_cons_of_mem _ hw)) lw_privs_ok
    have hml : c.maxLocals = 7 := B.maxLocals_eq (hts0 _ List.mem_cons_self)
    have X₀ : Stand p l e room_1 s m #[Value.ref b] below meth c s₁ [] 0 0 := Stand.of_body B
    have hh0 : s₁.heap = s.heap := by rw [B.state]; rfl
    have hsz : scr.slots.size = xs.length := by rw [← Array.length_toList, hlist, List.length_map]
    have hval : ∀ j : Nat, j < xs.length → scr.slots[j]? = some (.int (xs.getD j 0)) := fun j hj => by
      rw [← Array.getElem?_toList, hlist]
      simp [hj]
    have hbl : b < s.heap.size := (Array.getElem?_eq_some_iff.mp hcb).1
    have hX : va_X b xs.length (fun j => xs.getD j 0) s s.heap := ⟨scr, hcb, hof, hkn, hsz, hval⟩
    have K : W p l e room_1 s m #[Value.ref b] below meth c s₁.heap [] 0 0 (lw_Z below #[Value.ref b] s) (entryFrame m ([Value.ref b] : List Value).toArray 7) := by
      rw [hh0]
      have ht : c.exceptionTable.toList = [] := by
        obtain ⟨meth9, c9, h1, h2, -, -, -, -, h7, -⟩ := Cond.code_spec B.named (atoms_spec (ws := Jvm.Cond.code x code maxLocals ret :: tables_1) B.pre _ List.mem_cons_self)
        cases Option.some.inj (h1.symm.trans B.method)
        cases Option.some.inj (h2.symm.trans (Stand.of_body B).code)
        rw [Array.isEmpty_iff.mp h7]
      exact whole_start hrun l hl hbd ht ⟨B.exec, B.bytes, B.returns, hml, hown, hts, hX, hbl, B.notSynchronized, hgv⟩
    obtain ⟨t, a1, o, b1, b2, b3⟩ := K s₁ rfl X₀
    exact ⟨t, o, a1, b1, b2, b3⟩
theorem lw_pre_spec {args : Array Value} {s : State} (h : (Jvm.Cond.and given_1 narrow_1).before args s = true) (hr : rest_1_c.before args s = true) : ∃ (b : Addr) (xs : List Int32), lw_P b xs args s := by
  have hs := flat_of_before _ h
  have hq := flat_of_before _ hr
  have hc : (Cond.count 1).before args s = true := hs _ (by decide +kernel)
  have harr : (Cond.arrayOf (.arg 0) .int).before args s = true := hs _ (by decide +kernel)
  have hle : (Cond.le (.length (.arg 0)) (.int 2048)).before args s = true := hs _ (by decide +kernel)
  have hlen : (Cond.isInt (.length (.arg 0))).before args s = true := hq _ (by decide +kernel)
  have hall : (Cond.all (.arg 0) (.isInt (.elem (.arg 0) (.index 0)))).before args s = true := hq _ (by decide +kernel)
  obtain ⟨b, xs, hb, hx⟩ := State.ints_of_pre rfl harr hlen hall
  have hsm : xs.length < 2 ^ 31 := hx.choose_spec.2.2.2
  have hev : (Term.length (.arg 0)).eval args s none [] s = some (.int xs.length.toInt32) := hx.length_eval hb
  have hv := Cond.le_ints hev (show (Term.int 2048).eval args s none [] s = some (.int 2048) from rfl)
  have hd : xs.length.toInt32 ≤ 2048 := by
    simpa [Cond.before, Cond.holds, hv] using hle
  have hN : xs.length ≤ 2048 := (Int32.ofNat_le_ofNat hsm (by decide)).mp (show Int32.ofNat xs.length ≤ Int32.ofNat 2048 from hd)
  exact ⟨b, xs, Cond.one_arg hc (show args[0]? = some (.ref b) from hb), hx, hN, h⟩
theorem lw_comes (hrun : am_Run) (l : Launch) (hl : l.stackTraces = false) : Comes l x (Jvm.Cond.code x code maxLocals ret :: tables_1) room_1 (fun tb e args s => Calls_1 tb e args s ∧ rest_1 tb e args s ∧ Pre_1 tb e args s)
    (fun _ _ args s o t => lw_Q args s o t) := by
  intro p e ha hc hk s m args below hf hfit hheap happ hpre
  obtain ⟨b, xs, hP⟩ := lw_pre_spec hpre.2.2 hpre.2.1
  obtain ⟨k, o, h1, h2, h3, hQ⟩ := lw_walk hrun l hl b xs p e ha hc hk s m args below hf ((Spec.applies_iff_loose hf).mp happ).1 hP trivial
  exact ⟨k, o, h1, h2, h3, hQ⟩
theorem lw_frame {s t : State} {o : Outcome} {args : Array Value} (h : Framed s o t [] 601024 7293034) :
    Framed s o t (fieldLocs frame_1_writes args s ++ arrayLocs frame_1_arrays args s ++ staticLocs frame_1_statics s) 601024 7293034 := h
theorem lw_limb (hrun : am_Run) (L : Cond) (hL : ∀ (args : Array Value) (s t : State), L.after args s (.returned (some (.int 1))) t = true) :
    ArmFor flags0 classFile x code maxLocals ret World_1 tables_1 room_1 Calls_1 rest_1 Pre_1
      (fun tb e a s o t => postC L tb e a s o t ∧ Framed s o t (fieldLocs frame_1_writes a s ++ arrayLocs frame_1_arrays a s ++ staticLocs frame_1_statics s) 601024 7293034) := by
  intro l hfl _ _ p e ha hc hk s m args below hf hfit hheap happ hpre
  have hl : l.stackTraces = false := by
    unfold Launch.stackTraces
    rw [hfl]
    decide
  obtain ⟨k, o, h1, h2, h3, rfl, hF⟩ := lw_comes hrun l hl p e ha hc hk s m args below hf hfit hheap happ hpre
  exact ⟨k, _, h1, h2, h3, hL args s _, lw_frame hF⟩
theorem am_ivc (hrun : am_Run) : Claimed_1_1 ∧ Claimed_1_2 := ⟨lw_limb hrun limb_1_1 (fun args s t => by simp [limb_1_1, Cond.after, Cond.holds, Cond.value]), lw_limb hrun limb_1_2 (fun args s t => Cond.after_iff.mpr (by
  first | (rw [show limb_1_2 = Cond.eq .result (.int 1) from rfl, Cond.eq_ints (x := 1) (y := 1) rfl rfl]; simp; done) | (simp [limb_1_2, Cond.value, Term.eval]; done)))⟩
end
