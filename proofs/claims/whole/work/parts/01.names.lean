/-! ===== BEGIN words of one list among another's, by their places ===== -/
theorem goodIn_r {big : List Cond} (ws : List Cond) (ps : List Nat) (hp : ws = ps.filterMap (fun i => big[i]?)) (h : ws.all goodWord = true) : GoodIn big ws := by
  intro w hw
  have h1 := List.all_eq_true.mp h w hw
  rw [hp] at hw
  obtain ⟨i, -, hi⟩ := List.mem_filterMap.mp hw
  have hm : w ∈ big := by first | exact List.mem_of_getElem? hi | exact List.getElem?_mem hi
  exact ⟨hm, good_of_word h1⟩
theorem goodIn_app {big a b : List Cond} (ha : GoodIn big a) (hb : GoodIn big b) : GoodIn big (a ++ b) := fun w h => (List.mem_append.mp h).elim (ha w) (hb w)
theorem goodIn_ca {big a b : List Cond} {c : Cond} (ha : GoodIn big (c :: a)) (hb : GoodIn big b) : GoodIn big (c :: (a ++ b)) := fun w h => (List.mem_cons.mp h).elim (fun e => ha w (List.mem_cons.mpr (Or.inl e))) (fun h => (List.mem_append.mp h).elim (fun h => ha w (List.mem_cons.mpr (Or.inr h))) (hb w))
theorem goodIn_sub {big ws : List Cond} (hm : ∀ w ∈ ws, w ∈ big) (h : ws.all goodWord = true) : GoodIn big ws := fun w hw => ⟨hm w hw, good_of_word (List.all_eq_true.mp h w hw)⟩
/-! ===== END ===== -/

/-! ===== BEGIN exceptions that leave a method, and their catching by the caller (launches without stack traces) ===== -/
section VXA
/-! The laws vx_back, vx_callV, vx_callS, vx_callSW, vx_throw0, vx_throwS follow proofs of the library, with one case more: JvmDerived/Free/Laws.lean (Back.of_free), Shelf42/LK1.lean (callV, callS), Shelf/KitTraced.lean (throwNew0V, throwNewS). -/
/-- where a method has thrown q: the class by its name, the cell, what was written, the world -/
def vx_T (XC : String → State → State → Prop) (st : State) (q : Addr) (t : State) (mc ms : Nat) (free : Addr → Prop) : Prop :=
  ∃ (E : String) (ce : Cell) (L : List Loc), XC E st t ∧ t.heap[q]? = some ce ∧ ce.vm = .none ∧ st.vm.findClass E = some ce.cls ∧ st.WarmedH t.vm ∧ st.sameButNew ({ t with vm := st.vm } : State) L mc ms ∧ ∀ z ∈ L, free z.base
def vx_Q (Qc : Array Value → State → Outcome → State → Prop) (XC : String → State → State → Prop) (mc ms : Nat) (free : Addr → Prop) : Array Value → State → Outcome → State → Prop := fun a st o t =>
  (Qc a st o t ∧ ∃ L, FrameEnd st o t L mc ms ∧ ∀ q ∈ L, free q.base) ∨ ∃ q, o = .threw q ∧ vx_T XC st q t mc ms free
/-- a callee that returns or throws -/
def vx_Met (l : Launch) (y : MethodName) (ws : List Cond) (rm : Room) (Pc : Array Value → State → Prop) (Qc : Array Value → State → Outcome → State → Prop) (XC : String → State → State → Prop) (mc ms : Nat) (free : Addr → Prop) : Prop :=
  MetFree l y (headSpec ws rm) Pc (fun _ _ _ _ _ => True) (vx_Q Qc XC mc ms free)
def vx_Post (XC : String → State → State → Prop) (mc ms : Nat) (free : Addr → Prop) : Pt → Array Value → Addr → Pt → Prop := fun A a q B =>
  ∃ (g : JFrame) (mk : MethodId) (t : State) (L : List Loc) (E : String) (ce : Cell), B.U.heap = t.heap ∧ B.U.vm = t.vm ∧ XC E (A.U.calling g mk a) t ∧ t.heap[q]? = some ce ∧ ce.vm = .none ∧ A.U.vm.findClass E = some ce.cls ∧ B.locs = A.locs ++ L ∧ (∀ z ∈ L, free z.base) ∧ B.cells = A.cells + mc ∧ B.slots = A.slots + ms
def vx_Back (l : Launch) (R : Room) (p : Program) (e : Env) (below : List Frame) (s : State) (sargs : Array Value) (y : MethodName) (len W9 : Nat)
    (Pre : Pt → Array Value → Prop) (Post : Pt → Array Value → Option Value → Pt → Prop) (PostX : Pt → Array Value → Addr → Pt → Prop) : Prop :=
  ∀ (m : MethodId) (meth : Method) (c : Code) (A : Pt) (g : JFrame) (ig : Instr) (mk : MethodId) (a : Array Value),
    Stand p l e R s m sargs below meth c A.U A.locs A.cells A.slots → g.method = m → g.locals.size = c.maxLocals → decode c.code g.pc = .ok (ig, len) →
    2 * g.monitorRoom + (g.stack.map fun v => v.category).sum ≤ W9 → A.U.methodNamed? y = some mk → Pre A a →
    (∃ (v : Option Value) (B : Pt), Stand p l e R s m sargs below meth c B.U B.locs B.cells B.slots ∧ Post A a v B ∧
      Steps p.tables e below (doInvoke e (A.U.setTop g) [] mk a).1 (B.U.setTop { g with pc := g.pc + len, stack := v.toList ++ g.stack })) ∨
    (∃ (q : Addr) (B : Pt), Stand p l e R s m sargs below meth c B.U B.locs B.cells B.slots ∧ PostX A a q B ∧
      Steps p.tables e below (doInvoke e (A.U.setTop g) [] mk a).1 ((B.U.setTop g).pushFrame (.throwing q)))
section Payer
variable {l : Launch} {R : Room} {p : Program} {e : Env} {below : List Frame} {s : State} {sargs : Array Value} {y : MethodName} {len W9 : Nat}
theorem vx_back {ws : List Cond} {rm : Room} {Pc : Array Value → State → Prop} {Qc : Array Value → State → Outcome → State → Prop} {XC : String → State → State → Prop} {mc ms : Nat} {free : Addr → Prop} {bytes : ByteArray} {maxL : Nat} {ret : Option FieldType}
    (hM : vx_Met l y ws rm Pc Qc XC mc ms free) (hblind : FrameBlind Pc) (hrc : rm.cells = mc) (hrs : rm.slots = ms)
    (hframes : rm.frames + 1 ≤ R.frames) (hlocals : W9 + (maxL + 11) + rm.locals ≤ R.locals)
    (hws : ∀ w ∈ ws, ∀ a' U, s.WarmedH U.vm → w.before a' U = true) (hcode : Cond.code y bytes maxL ret ∈ ws) (hinit : ∀ a' U, s.WarmedH U.vm → (Cond.initialized y.cls).before a' U = true) :
    vx_Back l R p e below s sargs y len W9 (PreOf R mc ms Pc) (PostOf Qc mc ms free) (vx_Post XC mc ms free) := by
  intro m meth c A g ig mk a X hg hsize hdg hW hn hp
  have h1 : (headSpec ws rm).pre.before a A.U = true := atoms_intro fun w hw => hws w hw _ _ X.warmed
  have h2 : (Cond.code y bytes maxL ret).before a A.U = true := hws _ hcode _ _ X.warmed
  have h3 : (Cond.initialized y.cls).before a A.U = true := hinit _ _ X.warmed
  have h4 : A.cells + (headSpec ws rm).room.cells ≤ R.cells := by rw [show (headSpec ws rm).room.cells = mc from hrc]; exact hp.1
  have h5 : A.slots + (headSpec ws rm).room.slots ≤ R.slots := by rw [show (headSpec ws rm).room.slots = ms from hrs]; exact hp.2.1
  have hPc : Pc a (A.U.calling g mk a) := hblind _ _ _ _ hp.2.2
  obtain ⟨U, Ls, c0, s0⟩ := A
  dsimp only [Pt.U, Pt.locs, Pt.cells, Pt.slots] at h1 h2 h3 h4 h5 X hn hPc ⊢
  obtain ⟨methY, cY, hmY, hcY, -, hlY, -, -, -, -⟩ := Cond.code_spec hn h2
  obtain ⟨kY, hkY, -⟩ := className_of_methodNamed hn
  have hinitY : kY.init = .initialized := Cond.initialized_spec (findClass_of_methodNamed hn) hkY h3
  have h : At U g.method c below := by rw [hg]; exact X.here
  have hlocals9 : W9 + (maxL + 11) + (headSpec ws rm).room.locals ≤ R.locals := hlocals
  have happ : (headSpec ws rm).appliesLoose y e.platform (U.calling g mk a) = true :=
    Spec.appliesLoose_calling (g := g) h hdg hn hkY hinitY
      (X.room_calling (g := g) (R' := (headSpec ws rm).room) hsize hmY hcY hframes (by rw [hlY]; omega) h4 h5) h1
  obtain ⟨mid, hmid⟩ := h.above
  have hfr : (U.setTop g).frames = (.java g :: mid) ++ below := by rw [State.frames_setTop' g h.top, hmid]; rfl
  obtain ⟨o, s₂, hsteps, -, hend, hq⟩ := Steps.callFree hM p X.admits X.cas X.clock (acts := []) hfr happ hPc trivial
  have hq' : vx_Q Qc XC mc ms free a (U.calling g mk a) o s₂ := hq
  rw [State.frames_setTop' g h.top] at hend
  obtain ⟨g₀, hg0⟩ := Option.isSome_iff_exists.mp h.top
  obtain ⟨r, hr⟩ := State.topJava?_eq_some.mp hg0
  have hr' : (({ U with heap := s₂.heap, slotsUsed := s₂.slotsUsed } : State).setVm s₂.vm).frames = .java g₀ :: r := hr
  rcases hq' with ⟨hqc, L, hfe, hL⟩ | ⟨q, rfl, E, ce, L, hx, hce, hcv, hcl, hW₂, hsm, hL⟩
  · obtain ⟨⟨v, rfl⟩, hW₂, e2, q2, q3, q4, q5, q6⟩ := id hfe
    have e3 : s₂ = ({ (U.calling g mk a).setFrames s₂.frames with heap := s₂.heap, slotsUsed := s₂.slotsUsed } : State).setVm s₂.vm := by
      have : s₂ = ({ s₂ with vm := (U.calling g mk a).vm } : State).setVm s₂.vm := rfl
      rw [e2] at this
      exact this
    obtain ⟨c₂, i₂, len₂, hc₂, hd₂, hf₂⟩ := hend
    have hW' : U.WarmedH s₂.vm := hW₂
    have hcc : c₂ = c := by
      have h1 : s₂.code? g.method = U.code? g.method := by
        rw [State.code?_eq, State.code?_eq, hW'.alike.method?]
      exact Option.some.inj (hc₂.symm.trans (h1.trans h.code))
    subst hcc
    have hlen : len₂ = len := by rw [hdg] at hd₂; cases hd₂; rfl
    subst hlen
    have hs₂ : s₂ = (({ U with heap := s₂.heap, slotsUsed := s₂.slotsUsed } : State).setVm s₂.vm).setTop { g with pc := g.pc + len₂, stack := v.toList ++ g.stack } := by
      refine e3.trans ?_
      rw [hf₂, State.calling_eq h.top, State.setFrames_setFrames, State.setTop_of_frames _ hr', hr]
      rfl
    have hsame : U.sameButNew ({ U with heap := s₂.heap, slotsUsed := s₂.slotsUsed } : State) L mc ms := by
      refine ⟨?_, q2, q3, q4, q5, q6⟩
      obtain ⟨t, ht, -⟩ := State.frames_cons hr
      show ({ U with heap := s₂.heap, slotsUsed := s₂.slotsUsed } : State) = { U.setFrames U.frames with heap := s₂.heap, slotsUsed := s₂.slotsUsed }
      rw [State.setFrames_self ht]
    subst hg
    refine Or.inl ⟨v, ⟨(({ U with heap := s₂.heap, slotsUsed := s₂.slotsUsed } : State).setVm s₂.vm), Ls ++ L, c0 + mc, s0 + ms⟩,
      ⟨X.admits, X.cas, X.clock, X.frames, X.room, X.hears, X.method, X.code, (X.here.setHeapUsed s₂.heap s₂.slotsUsed).setVm hW'.alike, X.tail, State.WarmedH.trans X.warmed hW', X.limits, X.bytes, X.same.trans (hsame.setVm s.vm)⟩,
      ⟨g, mk, s₂, L, rfl, rfl, hqc, rfl, hL, rfl, rfl⟩, ?_⟩
    show Steps p.tables e below _ ((({ U with heap := s₂.heap, slotsUsed := s₂.slotsUsed } : State).setVm s₂.vm).setTop { g with pc := g.pc + len₂, stack := v.toList ++ g.stack })
    rw [← hs₂]
    exact hsteps
  · obtain ⟨e2, q2, q3, q4, q5, q6⟩ := id hsm
    have e3 : s₂ = ({ (U.calling g mk a).setFrames s₂.frames with heap := s₂.heap, slotsUsed := s₂.slotsUsed } : State).setVm s₂.vm := by
      have : s₂ = ({ s₂ with vm := (U.calling g mk a).vm } : State).setVm s₂.vm := rfl
      rw [e2] at this
      exact this
    have hf₂ : s₂.frames = .throwing q :: .java g :: U.frames.tail := hend
    have hW' : U.WarmedH s₂.vm := hW₂
    have hs₂ : s₂ = ((({ U with heap := s₂.heap, slotsUsed := s₂.slotsUsed } : State).setVm s₂.vm).setTop g).pushFrame (.throwing q) := by
      refine e3.trans ?_
      rw [hf₂, State.calling_eq h.top, State.setFrames_setFrames, State.pushFrame, State.frames_setTop _ hr', State.setTop_of_frames _ hr', State.setFrames_setFrames, hr]
      rfl
    have hsame : U.sameButNew ({ U with heap := s₂.heap, slotsUsed := s₂.slotsUsed } : State) L mc ms := by
      refine ⟨?_, q2, q3, q4, q5, q6⟩
      obtain ⟨t, ht, -⟩ := State.frames_cons hr
      show ({ U with heap := s₂.heap, slotsUsed := s₂.slotsUsed } : State) = { U.setFrames U.frames with heap := s₂.heap, slotsUsed := s₂.slotsUsed }
      rw [State.setFrames_self ht]
    subst hg
    refine Or.inr ⟨q, ⟨(({ U with heap := s₂.heap, slotsUsed := s₂.slotsUsed } : State).setVm s₂.vm), Ls ++ L, c0 + mc, s0 + ms⟩,
      ⟨X.admits, X.cas, X.clock, X.frames, X.room, X.hears, X.method, X.code, (X.here.setHeapUsed s₂.heap s₂.slotsUsed).setVm hW'.alike, X.tail, State.WarmedH.trans X.warmed hW', X.limits, X.bytes, X.same.trans (hsame.setVm s.vm)⟩,
      ⟨g, mk, s₂, L, E, ce, rfl, rfl, hx, hce, hcv, hcl, rfl, hL, rfl, rfl⟩, ?_⟩
    show Steps p.tables e below _ (((({ U with heap := s₂.heap, slotsUsed := s₂.slotsUsed } : State).setVm s₂.vm).setTop g).pushFrame (.throwing q))
    rw [← hs₂]
    exact hsteps
end Payer
section Calls
variable {p : Program} {l : Launch} {e : Env} {R : Room} {s : State} {m : MethodId} {args : Array Value} {below : List Frame} {meth : Method} {c : Code} {T : State} {locs : List Loc} {cells slots : Nat}
theorem vx_callV (X : Stand p l e R s m args below meth c T locs cells slots) (hexec : p.tables.exec = Jvm.exec) {own C : String} {index : Nat} {y : MethodName} {bytes : ByteArray} {maxL : Nat} {ret : Option FieldType}
    (hown : s.vm.findClass own = some m.cls) (hlink : (Cond.methodLink own index y).before args s = true) (hinst : (Cond.instanceMethod y).before args s = true) (hsel : (Cond.selects C y y).before args s = true)
    (hcode : (Cond.code y bytes maxL ret).before args s = true) (hy : y.cls ≠ "java/lang/invoke/MethodHandle" ∧ y.cls ≠ "java/lang/invoke/VarHandle")
    {W9 : Nat} {Pre : Pt → Array Value → Prop} {Post : Pt → Array Value → Option Value → Pt → Prop} {PostX : Pt → Array Value → Addr → Pt → Prop} (hK : vx_Back l R p e below s args y 3 W9 Pre Post PostX)
    {b : Addr} {cellB : Cell} (hcell : T.heap[b]? = some cellB) (hobj : cellB.vm.isStatics = false) (hcls : s.vm.findClass C = some cellB.cls)
    {g : JFrame} (hg : g.method = m) (hsize : g.locals.size = c.maxLocals) {argsL rest : List Value} (hlen : ∀ sig, parseMethodDescriptor y.desc = some sig → argsL.length = sig.parameters.length)
    (hstack : g.stack = argsL.reverse ++ .ref b :: rest) (hW : 2 * g.monitorRoom + (rest.map fun v => v.category).sum ≤ W9) (hdg : decode c.code g.pc = .ok (.invokevirtual index, 3))
    (hpre : ∀ vm₁, s.WarmedH vm₁ → Pre ⟨T.setVm vm₁, locs, cells, slots⟩ (Value.ref b :: argsL).toArray) :
    (∃ (v : Option Value) (vm₁ : Vm) (B : Pt), s.WarmedH vm₁ ∧ Stand p l e R s m args below meth c B.U B.locs B.cells B.slots ∧ Post ⟨T.setVm vm₁, locs, cells, slots⟩ (Value.ref b :: argsL).toArray v B ∧
      ∀ target, Steps p.tables e below (B.U.setTop { g with pc := g.pc + 3, stack := v.toList ++ rest }) target → Steps p.tables e below (T.setTop g) target) ∨
    (∃ (q : Addr) (vm₁ : Vm) (B : Pt), s.WarmedH vm₁ ∧ Stand p l e R s m args below meth c B.U B.locs B.cells B.slots ∧ PostX ⟨T.setVm vm₁, locs, cells, slots⟩ (Value.ref b :: argsL).toArray q B ∧
      Steps p.tables e below (T.setTop g) ((B.U.setTop { g with stack := rest }).pushFrame (.throwing q))) := by
  obtain ⟨mk, methM, hnamed, hmethM, hstM, habM⟩ := Cond.instanceMethod_spec hinst
  obtain ⟨methM', cM, hmethM', -, -, -, -, -, -, hsigM⟩ := Cond.code_spec hnamed hcode
  cases hmethM.symm.trans hmethM'
  obtain ⟨c2, r2, m2, q1, q2, q3, q4, kP, hkP, hkPi⟩ := Cond.selects_spec hsel
  cases hcls.symm.trans q1
  cases (State.methodFound?_of_named hnamed hy).symm.trans q2
  cases hnamed.symm.trans q3
  have hselP : selectMethod e.platform s.vm cellB.cls mk = .method mk := by rw [Launch.admits_selectMethod X.admits]; exact q4
  obtain ⟨vm₁, X₁, hstep₁⟩ := X.invokevirtual hexec hown hlink hnamed hmethM hstM hkP hkPi hy (a := b) (cell := cellB) hcell
    (fun z h => by rw [h] at hobj; cases hobj) hselP hmethM habM hkP hkPi (g := g) hg (argsL := argsL) (rest := rest) (hlen _ hsigM) hstack hdg
  rcases hK m meth c ⟨T.setVm vm₁, locs, cells, slots⟩ { g with stack := rest } (.invokevirtual index) mk (Value.ref b :: argsL).toArray X₁ hg hsize hdg hW (X₁.named hnamed) (hpre vm₁ X₁.warmed) with ⟨v, B, X', hpost, hsteps⟩ | ⟨q, B, X', hpost, hsteps⟩
  · exact Or.inl ⟨v, vm₁, B, X₁.warmed, X', hpost, fun target h => hstep₁ _ fun acts => by rw [doInvoke_state]; exact hsteps.trans h⟩
  · exact Or.inr ⟨q, vm₁, B, X₁.warmed, X', hpost, hstep₁ _ fun acts => by rw [doInvoke_state]; exact hsteps⟩
theorem vx_callS (X : Stand p l e R s m args below meth c T locs cells slots) (hexec : p.tables.exec = Jvm.exec) {own : String} {index : Nat} {y : MethodName} {bytes : ByteArray} {maxL : Nat} {ret : Option FieldType}
    (hown : s.vm.findClass own = some m.cls) (hlink : (Cond.methodLink own index y).before args s = true) (hstat : (Cond.static y).before args s = true) (hinit : (Cond.initialized y.cls).before args s = true)
    (hcode : (Cond.code y bytes maxL ret).before args s = true) (hy : y.cls ≠ "java/lang/invoke/MethodHandle" ∧ y.cls ≠ "java/lang/invoke/VarHandle")
    {W9 : Nat} {Pre : Pt → Array Value → Prop} {Post : Pt → Array Value → Option Value → Pt → Prop} {PostX : Pt → Array Value → Addr → Pt → Prop} (hK : vx_Back l R p e below s args y 3 W9 Pre Post PostX)
    {g : JFrame} (hg : g.method = m) (hsize : g.locals.size = c.maxLocals) {argsL rest : List Value} (hlen : ∀ sig, parseMethodDescriptor y.desc = some sig → argsL.length = sig.parameters.length)
    (hstack : g.stack = argsL.reverse ++ rest) (hW : 2 * g.monitorRoom + (rest.map fun v => v.category).sum ≤ W9) (hdg : decode c.code g.pc = .ok (.invokestatic index, 3))
    (hpre : ∀ vm₁, s.WarmedH vm₁ → Pre ⟨T.setVm vm₁, locs, cells, slots⟩ argsL.toArray) :
    (∃ (v : Option Value) (vm₁ : Vm) (B : Pt), s.WarmedH vm₁ ∧ Stand p l e R s m args below meth c B.U B.locs B.cells B.slots ∧ Post ⟨T.setVm vm₁, locs, cells, slots⟩ argsL.toArray v B ∧
      ∀ target, Steps p.tables e below (B.U.setTop { g with pc := g.pc + 3, stack := v.toList ++ rest }) target → Steps p.tables e below (T.setTop g) target) ∨
    (∃ (q : Addr) (vm₁ : Vm) (B : Pt), s.WarmedH vm₁ ∧ Stand p l e R s m args below meth c B.U B.locs B.cells B.slots ∧ PostX ⟨T.setVm vm₁, locs, cells, slots⟩ argsL.toArray q B ∧
      Steps p.tables e below (T.setTop g) ((B.U.setTop { g with stack := rest }).pushFrame (.throwing q))) := by
  obtain ⟨mk, hnamed⟩ := Cond.code_named hcode
  obtain ⟨methM, cM, hmethM, -, -, -, -, -, -, hsigM⟩ := Cond.code_spec hnamed hcode
  have hstatic : methM.isStatic = true := Cond.static_spec hnamed hmethM hstat
  obtain ⟨kP, hkP, -⟩ := className_of_methodNamed hnamed
  have hinitP : kP.init = .initialized := Cond.initialized_spec (findClass_of_methodNamed hnamed) hkP hinit
  obtain ⟨vm₁, X₁, hstep₁⟩ := X.invokestatic hexec hown hlink hnamed hmethM hstatic hkP hinitP hy (g := g) hg (argsL := argsL) (rest := rest) (hlen _ hsigM) hstack hdg
  rcases hK m meth c ⟨T.setVm vm₁, locs, cells, slots⟩ { g with stack := rest } (.invokestatic index) mk argsL.toArray X₁ hg hsize hdg hW (X₁.named hnamed) (hpre vm₁ X₁.warmed) with ⟨v, B, X', hpost, hsteps⟩ | ⟨q, B, X', hpost, hsteps⟩
  · exact Or.inl ⟨v, vm₁, B, X₁.warmed, X', hpost, fun target h => hstep₁ _ fun acts => by rw [doInvoke_state]; exact hsteps.trans h⟩
  · exact Or.inr ⟨q, vm₁, B, X₁.warmed, X', hpost, hstep₁ _ fun acts => by rw [doInvoke_state]; exact hsteps⟩
end Calls
theorem vx_cls {s : State} {T : State} {vm₁ : Vm} {E : String} {k : ClassId} (hW : s.WarmedH vm₁) (h : (T.setVm vm₁).vm.findClass E = some k) : s.vm.findClass E = some k := by
  have h1 : vm₁.findClass E = some k := h
  rw [hW.alike.findClass] at h1
  exact h1
/-- the method's frame g, with q thrown over it -/
def vx_W (p : Program) (l : Launch) (e : Env) (R : Room) (s : State) (m : MethodId) (args : Array Value) (below : List Frame) (meth : Method) (c : Code) (H : Heap) (locs : List Loc) (cells slots : Nat) (Q : State → Prop) (g : JFrame) (q : Addr) : Prop :=
  ∀ T : State, T.heap = H → Stand p l e R s m args below meth c T locs cells slots → ∃ t, Steps p.tables e below ((T.setTop g).pushFrame (.throwing q)) t ∧ Q t
def vx_Run (p : Program) (l : Launch) (e : Env) (R : Room) (s : State) (m : MethodId) (args : Array Value) (below : List Frame) (meth : Method) (c : Code) (H : Heap) (locs : List Loc) (cells slots mc ms : Nat) (g : JFrame) (rest : List Value) (Qa : State → Outcome → State → Prop) (XC : String → State → State → Prop) (free : Addr → Prop) : Prop :=
  ∀ T : State, T.heap = H → Stand p l e R s m args below meth c T locs cells slots →
    (∃ (v : Option Value) (st₀ t T' : State) (L : List Loc), st₀.heap = H ∧ Stand p l e R s m args below meth c T' (locs ++ L) (cells + mc) (slots + ms) ∧ (∀ q ∈ L, free q.base) ∧ T'.heap = t.heap ∧ T'.vm = t.vm ∧ Qa st₀ (.returned v) t ∧
      Goes p e below T g T' { g with pc := g.pc + 3, stack := v.toList ++ rest }) ∨
    (∃ (q : Addr) (st₀ t T' : State) (L : List Loc) (E : String) (ce : Cell), st₀.heap = H ∧ Stand p l e R s m args below meth c T' (locs ++ L) (cells + mc) (slots + ms) ∧ (∀ z ∈ L, free z.base) ∧ T'.heap = t.heap ∧ T'.vm = t.vm ∧ XC E st₀ t ∧ t.heap[q]? = some ce ∧ ce.vm = .none ∧ s.vm.findClass E = some ce.cls ∧
      Steps p.tables e below (T.setTop g) ((T'.setTop { g with stack := rest }).pushFrame (.throwing q)))
def vx_X {S : Type} (px : S → Prop) (B : String → S → State → Prop) (A : Nat → Prop) : String → State → State → Prop := fun E st t => ∃ u : S, px u ∧ B E u t ∧ va_F A st t
section Runs
variable {p : Program} {l : Launch} {e : Env} {R : Room} {s : State} {m : MethodId} {args : Array Value} {below : List Frame} {meth : Method} {c : Code} {H : Heap} {locs : List Loc} {cells slots : Nat}
variable {y : MethodName} {bytes cc : ByteArray} {maxL nL mc ms n index : Nat} {ret : Option FieldType} {ws : List Cond} {rm : Room} {Pc : Array Value → State → Prop} {Qc : Array Value → State → Outcome → State → Prop} {XC : String → State → State → Prop} {free : Addr → Prop} {Ts : List Cond} {own C : String} {b : Addr} {As rest : List Value} {g : JFrame}
theorem vx_callBack (cb : CallB R s args own index y bytes maxL ret ws rm mc ms n) (hM : vx_Met l y ws rm Pc Qc XC mc ms free) (hbl : FrameBlind Pc) : vx_Back l R p e below s args y 3 8 (PreOf R mc ms Pc) (PostOf Qc mc ms free) (vx_Post XC mc ms free) := by
  obtain ⟨hrc, hrs, hfr, hlo, hws, hcw, -, hini, -⟩ := cb
  exact vx_back (bytes := bytes) (maxL := maxL) (ret := ret) hM hbl hrc hrs hfr hlo hws hcw (fun a' U hW => word_at hW (Or.inl (by first | rfl | simp [Cond.onTables, Cond.keeps, Cond.steady])) hini)
theorem vx_runV (S : CallFix p m c cc nL s args Ts own) (hM : vx_Met l y ws rm Pc Qc XC mc ms free) (cw : CallW R s args own C index y bytes maxL ret ws rm mc ms n) (hp : PreV s H C b Pc As)
    (hg : g.method = m) (hn : As.length = n) (hsize : g.locals.size = nL) (hstack : g.stack = As.reverse ++ .ref b :: rest) (hW : 2 * g.monitorRoom + (rest.map fun v => v.category).sum ≤ 8) (hdg : decode cc g.pc = .ok (.invokevirtual index, 3)) (hf : cells + mc ≤ R.cells ∧ slots + ms ≤ R.slots) :
    vx_Run p l e R s m args below meth c H locs cells slots mc ms g rest (Qc (Value.ref b :: As).toArray) XC free := by
  have hK : vx_Back l R p e below s args y 3 8 (PreOf R mc ms Pc) (PostOf Qc mc ms free) (vx_Post XC mc ms free) := vx_callBack cw.1 hM hp.1
  obtain ⟨⟨-, -, -, -, -, -, hcode, -, hy, hlen, hl⟩, hin, hse⟩ := cw
  obtain ⟨hx, hb, hml, ho, -⟩ := S
  obtain ⟨-, ⟨cellB, hcB, hoB, hclB⟩, hPc⟩ := hp
  intro T hT X
  rcases vx_callV X hx (C := C) (bytes := bytes) (maxL := maxL) (ret := ret) ho hl hin hse hcode hy hK (by rw [hT]; exact hcB) hoB hclB hg (hsize.trans hml.symm) (argsL := As) (rest := rest) (fun sig h => hn.trans (hlen sig h)) hstack hW (by rw [hb]; exact hdg)
    (fun vm₁ hW₁ => ⟨hf.1, hf.2, hPc (T.setVm vm₁) hT hW₁⟩) with ⟨v, vm₁, ⟨U', l2, c2, s2⟩, hW₁, X', ⟨g', mk, t, L, e1, e2, hq, h1, hL, h2, h3⟩, st⟩ | ⟨q, vm₁, ⟨U', l2, c2, s2⟩, hW₁, X', ⟨g', mk, t, L, E, ce, e1, e2, hq, hce, hcv, hcl, h1, hL, h2, h3⟩, st⟩
  · dsimp only [Pt.U, Pt.locs, Pt.cells, Pt.slots] at X' e1 e2 h1 h2 h3 st
    subst h1; subst h2; subst h3
    exact Or.inl ⟨v, (T.setVm vm₁).calling g' mk (Value.ref b :: As).toArray, t, U', L, hT, X', hL, e1, e2, hq, st⟩
  · dsimp only [Pt.U, Pt.locs, Pt.cells, Pt.slots] at X' e1 e2 h1 h2 h3 st hcl
    subst h1; subst h2; subst h3
    exact Or.inr ⟨q, (T.setVm vm₁).calling g' mk (Value.ref b :: As).toArray, t, U', L, E, ce, hT, X', hL, e1, e2, hq, hce, hcv, vx_cls hW₁ hcl, st⟩
theorem vx_runS (S : CallFix p m c cc nL s args Ts own) (hM : vx_Met l y ws rm Pc Qc XC mc ms free) (cw : CallB R s args own index y bytes maxL ret ws rm mc ms n ∧ (Cond.static y).before args s = true) (hp : PreS s H Pc As)
    (hg : g.method = m) (hn : As.length = n) (hsize : g.locals.size = nL) (hstack : g.stack = As.reverse ++ rest) (hW : 2 * g.monitorRoom + (rest.map fun v => v.category).sum ≤ 8) (hdg : decode cc g.pc = .ok (.invokestatic index, 3)) (hf : cells + mc ≤ R.cells ∧ slots + ms ≤ R.slots) :
    vx_Run p l e R s m args below meth c H locs cells slots mc ms g rest (Qc As.toArray) XC free := by
  have hK : vx_Back l R p e below s args y 3 8 (PreOf R mc ms Pc) (PostOf Qc mc ms free) (vx_Post XC mc ms free) := vx_callBack cw.1 hM hp.1
  obtain ⟨⟨-, -, -, -, -, -, hcode, hini, hy, hlen, hl⟩, hstt⟩ := cw
  obtain ⟨hx, hb, hml, ho, -⟩ := S
  intro T hT X
  rcases vx_callS X hx (bytes := bytes) (maxL := maxL) (ret := ret) ho hl hstt hini hcode hy hK hg (hsize.trans hml.symm) (argsL := As) (rest := rest) (fun sig h => hn.trans (hlen sig h)) hstack hW (by rw [hb]; exact hdg)
    (fun vm₁ hW₁ => ⟨hf.1, hf.2, hp.2 (T.setVm vm₁) hT hW₁⟩) with ⟨v, vm₁, ⟨U', l2, c2, s2⟩, hW₁, X', ⟨g', mk, t, L, e1, e2, hq, h1, hL, h2, h3⟩, st⟩ | ⟨q, vm₁, ⟨U', l2, c2, s2⟩, hW₁, X', ⟨g', mk, t, L, E, ce, e1, e2, hq, hce, hcv, hcl, h1, hL, h2, h3⟩, st⟩
  · dsimp only [Pt.U, Pt.locs, Pt.cells, Pt.slots] at X' e1 e2 h1 h2 h3 st
    subst h1; subst h2; subst h3
    exact Or.inl ⟨v, (T.setVm vm₁).calling g' mk As.toArray, t, U', L, hT, X', hL, e1, e2, hq, st⟩
  · dsimp only [Pt.U, Pt.locs, Pt.cells, Pt.slots] at X' e1 e2 h1 h2 h3 st hcl
    subst h1; subst h2; subst h3
    exact Or.inr ⟨q, (T.setVm vm₁).calling g' mk As.toArray, t, U', L, E, ce, hT, X', hL, e1, e2, hq, hce, hcv, vx_cls hW₁ hcl, st⟩
end Runs
section Rows
variable {p : Program} {l : Launch} {e : Env} {R : Room} {s : State} {m : MethodId} {args : Array Value} {below : List Frame} {meth : Method} {c : Code} {H : Heap} {locs : List Loc} {cells slots : Nat} {Q : State → Prop}
variable {mc ms : Nat} {free : Addr → Prop} {A0 A1 : Nat → Prop} {H0 : Heap} {a : Array Value} {pc : Nat} {ls : Array Slot} {st0 rest : List Value}
theorem vx_keep {st₀ t T' : State} {L : List Loc} (h0 : st₀.heap = H) (e1 : T'.heap = t.heap) (hS : va_S A0 H0 H locs) (hA : ∀ q, q < H.size → A1 q → A0 q) (hf : ∀ q, free q → A0 q) (hL : ∀ q ∈ L, free q.base) (hF : va_F A1 st₀ t) :
    H.size ≤ T'.heap.size ∧ (∀ q : Nat, q < H.size → ¬ A1 q → T'.heap[q]? = H[q]?) ∧ va_S A0 H0 T'.heap (locs ++ L) := by
  obtain ⟨hz, hk⟩ := hF
  rw [h0] at hz hk
  exact ⟨by rw [e1]; exact hz, fun q h1 h2 => by rw [e1]; exact hk q h1 h2,
    ⟨Nat.le_trans hS.1 (by rw [e1]; exact hz), fun q h1 h2 => by rw [e1, hk q (Nat.lt_of_lt_of_le h1 hS.1) (fun z => h2 (hA q (Nat.lt_of_lt_of_le h1 hS.1) z))]; exact hS.2.1 q h1 h2, fun q hq => by
      rcases List.mem_append.mp hq with h | h
      · exact hS.2.2 q h
      · exact hf _ (hL q h)⟩⟩
theorem vx_calli {S SX : Type} {post : Int32 → S → Prop} {px : SX → Prop} {B : S → State → Prop} {BX : String → SX → State → Prop} {AX : Nat → Prop} (hr : vx_Run p l e R s m args below meth c H locs cells slots mc ms (F0 m pc ls st0) rest (va_Qi post B A1 a) (vx_X px BX AX) free) (hS : va_S A0 H0 H locs) (hA : ∀ q, q < H.size → A1 q → A0 q) (hf : ∀ q, free q → A0 q) (hAX : ∀ q, q < H.size → AX q → A0 q)
    (kx : ∀ (E : String) (ce : Cell) (q9 : Addr) (u : SX) (t : State) (H1 : Heap) (locs1 : List Loc), t.heap = H1 → s.vm.Alike t.vm → px u → BX E u t → H.size ≤ H1.size → (∀ q : Nat, q < H.size → ¬ AX q → H1[q]? = H[q]?) → va_S A0 H0 H1 locs1 → H1[q9]? = some ce → ce.vm = .none → s.vm.findClass E = some ce.cls → vx_W p l e R s m args below meth c H1 locs1 (cells + mc) (slots + ms) Q (F0 m pc ls rest) q9)
    (kk : ∀ (r : Int32) (u : S) (t : State) (H1 : Heap) (locs1 : List Loc), t.heap = H1 → s.vm.Alike t.vm → post r u → B u t → H.size ≤ H1.size → (∀ q : Nat, q < H.size → ¬ A1 q → H1[q]? = H[q]?) → va_S A0 H0 H1 locs1 → W p l e R s m args below meth c H1 locs1 (cells + mc) (slots + ms) Q (F0 m (pc + 3) ls (.int r :: rest))) : W p l e R s m args below meth c H locs cells slots Q (F0 m pc ls st0) := by
  intro T hT X
  rcases hr T hT X with ⟨v, st₀, t, T', L, h0, X', hL, e1, e2, ⟨⟨r, u, hv, hp, hb⟩, hF⟩, st⟩ | ⟨q, st₀, t, T', L, E, ce, h0, X', hL, e1, e2, ⟨u, hp, hb, hF⟩, hce, hcv, hcl, st⟩
  · cases hv
    obtain ⟨k1, k2, k3⟩ := vx_keep h0 e1 hS hA hf hL hF
    obtain ⟨t2, a1, b1⟩ := kk r u t T'.heap (locs ++ L) e1.symm (by rw [← e2]; exact X'.warmed.alike) hp hb k1 k2 k3 T' rfl X'
    exact ⟨t2, st t2 a1, b1⟩
  · obtain ⟨k1, k2, k3⟩ := vx_keep h0 e1 hS hAX hf hL hF
    obtain ⟨t2, a1, b1⟩ := kx E ce q u t T'.heap (locs ++ L) e1.symm (by rw [← e2]; exact X'.warmed.alike) hp hb k1 k2 k3 (by rw [e1]; exact hce) hcv hcl T' rfl X'
    exact ⟨t2, st.trans a1, b1⟩
theorem vx_calll {S SX : Type} {post : Int64 → S → Prop} {px : SX → Prop} {B : S → State → Prop} {BX : String → SX → State → Prop} {AX : Nat → Prop} (hr : vx_Run p l e R s m args below meth c H locs cells slots mc ms (F0 m pc ls st0) rest (va_Ql post B A1 a) (vx_X px BX AX) free) (hS : va_S A0 H0 H locs) (hA : ∀ q, q < H.size → A1 q → A0 q) (hf : ∀ q, free q → A0 q) (hAX : ∀ q, q < H.size → AX q → A0 q)
    (kx : ∀ (E : String) (ce : Cell) (q9 : Addr) (u : SX) (t : State) (H1 : Heap) (locs1 : List Loc), t.heap = H1 → s.vm.Alike t.vm → px u → BX E u t → H.size ≤ H1.size → (∀ q : Nat, q < H.size → ¬ AX q → H1[q]? = H[q]?) → va_S A0 H0 H1 locs1 → H1[q9]? = some ce → ce.vm = .none → s.vm.findClass E = some ce.cls → vx_W p l e R s m args below meth c H1 locs1 (cells + mc) (slots + ms) Q (F0 m pc ls rest) q9)
    (kk : ∀ (r : Int64) (u : S) (t : State) (H1 : Heap) (locs1 : List Loc), t.heap = H1 → s.vm.Alike t.vm → post r u → B u t → H.size ≤ H1.size → (∀ q : Nat, q < H.size → ¬ A1 q → H1[q]? = H[q]?) → va_S A0 H0 H1 locs1 → W p l e R s m args below meth c H1 locs1 (cells + mc) (slots + ms) Q (F0 m (pc + 3) ls (.long r :: rest))) : W p l e R s m args below meth c H locs cells slots Q (F0 m pc ls st0) := by
  intro T hT X
  rcases hr T hT X with ⟨v, st₀, t, T', L, h0, X', hL, e1, e2, ⟨⟨r, u, hv, hp, hb⟩, hF⟩, st⟩ | ⟨q, st₀, t, T', L, E, ce, h0, X', hL, e1, e2, ⟨u, hp, hb, hF⟩, hce, hcv, hcl, st⟩
  · cases hv
    obtain ⟨k1, k2, k3⟩ := vx_keep h0 e1 hS hA hf hL hF
    obtain ⟨t2, a1, b1⟩ := kk r u t T'.heap (locs ++ L) e1.symm (by rw [← e2]; exact X'.warmed.alike) hp hb k1 k2 k3 T' rfl X'
    exact ⟨t2, st t2 a1, b1⟩
  · obtain ⟨k1, k2, k3⟩ := vx_keep h0 e1 hS hAX hf hL hF
    obtain ⟨t2, a1, b1⟩ := kx E ce q u t T'.heap (locs ++ L) e1.symm (by rw [← e2]; exact X'.warmed.alike) hp hb k1 k2 k3 (by rw [e1]; exact hce) hcv hcl T' rfl X'
    exact ⟨t2, st.trans a1, b1⟩
theorem vx_callf {S SX : Type} {post : UInt32 → S → Prop} {px : SX → Prop} {B : S → State → Prop} {BX : String → SX → State → Prop} {AX : Nat → Prop} (hr : vx_Run p l e R s m args below meth c H locs cells slots mc ms (F0 m pc ls st0) rest (va_Qf post B A1 a) (vx_X px BX AX) free) (hS : va_S A0 H0 H locs) (hA : ∀ q, q < H.size → A1 q → A0 q) (hf : ∀ q, free q → A0 q) (hAX : ∀ q, q < H.size → AX q → A0 q)
    (kx : ∀ (E : String) (ce : Cell) (q9 : Addr) (u : SX) (t : State) (H1 : Heap) (locs1 : List Loc), t.heap = H1 → s.vm.Alike t.vm → px u → BX E u t → H.size ≤ H1.size → (∀ q : Nat, q < H.size → ¬ AX q → H1[q]? = H[q]?) → va_S A0 H0 H1 locs1 → H1[q9]? = some ce → ce.vm = .none → s.vm.findClass E = some ce.cls → vx_W p l e R s m args below meth c H1 locs1 (cells + mc) (slots + ms) Q (F0 m pc ls rest) q9)
    (kk : ∀ (r : UInt32) (u : S) (t : State) (H1 : Heap) (locs1 : List Loc), t.heap = H1 → s.vm.Alike t.vm → post r u → B u t → H.size ≤ H1.size → (∀ q : Nat, q < H.size → ¬ A1 q → H1[q]? = H[q]?) → va_S A0 H0 H1 locs1 → W p l e R s m args below meth c H1 locs1 (cells + mc) (slots + ms) Q (F0 m (pc + 3) ls (.float r :: rest))) : W p l e R s m args below meth c H locs cells slots Q (F0 m pc ls st0) := by
  intro T hT X
  rcases hr T hT X with ⟨v, st₀, t, T', L, h0, X', hL, e1, e2, ⟨⟨r, u, hv, hp, hb⟩, hF⟩, st⟩ | ⟨q, st₀, t, T', L, E, ce, h0, X', hL, e1, e2, ⟨u, hp, hb, hF⟩, hce, hcv, hcl, st⟩
  · cases hv
    obtain ⟨k1, k2, k3⟩ := vx_keep h0 e1 hS hA hf hL hF
    obtain ⟨t2, a1, b1⟩ := kk r u t T'.heap (locs ++ L) e1.symm (by rw [← e2]; exact X'.warmed.alike) hp hb k1 k2 k3 T' rfl X'
    exact ⟨t2, st t2 a1, b1⟩
  · obtain ⟨k1, k2, k3⟩ := vx_keep h0 e1 hS hAX hf hL hF
    obtain ⟨t2, a1, b1⟩ := kx E ce q u t T'.heap (locs ++ L) e1.symm (by rw [← e2]; exact X'.warmed.alike) hp hb k1 k2 k3 (by rw [e1]; exact hce) hcv hcl T' rfl X'
    exact ⟨t2, st.trans a1, b1⟩
theorem vx_calld {S SX : Type} {post : UInt64 → S → Prop} {px : SX → Prop} {B : S → State → Prop} {BX : String → SX → State → Prop} {AX : Nat → Prop} (hr : vx_Run p l e R s m args below meth c H locs cells slots mc ms (F0 m pc ls st0) rest (va_Qd post B A1 a) (vx_X px BX AX) free) (hS : va_S A0 H0 H locs) (hA : ∀ q, q < H.size → A1 q → A0 q) (hf : ∀ q, free q → A0 q) (hAX : ∀ q, q < H.size → AX q → A0 q)
    (kx : ∀ (E : String) (ce : Cell) (q9 : Addr) (u : SX) (t : State) (H1 : Heap) (locs1 : List Loc), t.heap = H1 → s.vm.Alike t.vm → px u → BX E u t → H.size ≤ H1.size → (∀ q : Nat, q < H.size → ¬ AX q → H1[q]? = H[q]?) → va_S A0 H0 H1 locs1 → H1[q9]? = some ce → ce.vm = .none → s.vm.findClass E = some ce.cls → vx_W p l e R s m args below meth c H1 locs1 (cells + mc) (slots + ms) Q (F0 m pc ls rest) q9)
    (kk : ∀ (r : UInt64) (u : S) (t : State) (H1 : Heap) (locs1 : List Loc), t.heap = H1 → s.vm.Alike t.vm → post r u → B u t → H.size ≤ H1.size → (∀ q : Nat, q < H.size → ¬ A1 q → H1[q]? = H[q]?) → va_S A0 H0 H1 locs1 → W p l e R s m args below meth c H1 locs1 (cells + mc) (slots + ms) Q (F0 m (pc + 3) ls (.double r :: rest))) : W p l e R s m args below meth c H locs cells slots Q (F0 m pc ls st0) := by
  intro T hT X
  rcases hr T hT X with ⟨v, st₀, t, T', L, h0, X', hL, e1, e2, ⟨⟨r, u, hv, hp, hb⟩, hF⟩, st⟩ | ⟨q, st₀, t, T', L, E, ce, h0, X', hL, e1, e2, ⟨u, hp, hb, hF⟩, hce, hcv, hcl, st⟩
  · cases hv
    obtain ⟨k1, k2, k3⟩ := vx_keep h0 e1 hS hA hf hL hF
    obtain ⟨t2, a1, b1⟩ := kk r u t T'.heap (locs ++ L) e1.symm (by rw [← e2]; exact X'.warmed.alike) hp hb k1 k2 k3 T' rfl X'
    exact ⟨t2, st t2 a1, b1⟩
  · obtain ⟨k1, k2, k3⟩ := vx_keep h0 e1 hS hAX hf hL hF
    obtain ⟨t2, a1, b1⟩ := kx E ce q u t T'.heap (locs ++ L) e1.symm (by rw [← e2]; exact X'.warmed.alike) hp hb k1 k2 k3 (by rw [e1]; exact hce) hcv hcl T' rfl X'
    exact ⟨t2, st.trans a1, b1⟩
theorem vx_callv {S SX : Type} {post : S → Prop} {px : SX → Prop} {B : S → State → Prop} {BX : String → SX → State → Prop} {AX : Nat → Prop} (hr : vx_Run p l e R s m args below meth c H locs cells slots mc ms (F0 m pc ls st0) rest (va_Qv post B A1 a) (vx_X px BX AX) free) (hS : va_S A0 H0 H locs) (hA : ∀ q, q < H.size → A1 q → A0 q) (hf : ∀ q, free q → A0 q) (hAX : ∀ q, q < H.size → AX q → A0 q)
    (kx : ∀ (E : String) (ce : Cell) (q9 : Addr) (u : SX) (t : State) (H1 : Heap) (locs1 : List Loc), t.heap = H1 → s.vm.Alike t.vm → px u → BX E u t → H.size ≤ H1.size → (∀ q : Nat, q < H.size → ¬ AX q → H1[q]? = H[q]?) → va_S A0 H0 H1 locs1 → H1[q9]? = some ce → ce.vm = .none → s.vm.findClass E = some ce.cls → vx_W p l e R s m args below meth c H1 locs1 (cells + mc) (slots + ms) Q (F0 m pc ls rest) q9)
    (kk : ∀ (u : S) (t : State) (H1 : Heap) (locs1 : List Loc), t.heap = H1 → s.vm.Alike t.vm → post u → B u t → H.size ≤ H1.size → (∀ q : Nat, q < H.size → ¬ A1 q → H1[q]? = H[q]?) → va_S A0 H0 H1 locs1 → W p l e R s m args below meth c H1 locs1 (cells + mc) (slots + ms) Q (F0 m (pc + 3) ls (rest))) : W p l e R s m args below meth c H locs cells slots Q (F0 m pc ls st0) := by
  intro T hT X
  rcases hr T hT X with ⟨v, st₀, t, T', L, h0, X', hL, e1, e2, ⟨⟨u, hv, hp, hb⟩, hF⟩, st⟩ | ⟨q, st₀, t, T', L, E, ce, h0, X', hL, e1, e2, ⟨u, hp, hb, hF⟩, hce, hcv, hcl, st⟩
  · cases hv
    obtain ⟨k1, k2, k3⟩ := vx_keep h0 e1 hS hA hf hL hF
    obtain ⟨t2, a1, b1⟩ := kk u t T'.heap (locs ++ L) e1.symm (by rw [← e2]; exact X'.warmed.alike) hp hb k1 k2 k3 T' rfl X'
    exact ⟨t2, st t2 a1, b1⟩
  · obtain ⟨k1, k2, k3⟩ := vx_keep h0 e1 hS hAX hf hL hF
    obtain ⟨t2, a1, b1⟩ := kx E ce q u t T'.heap (locs ++ L) e1.symm (by rw [← e2]; exact X'.warmed.alike) hp hb k1 k2 k3 (by rw [e1]; exact hce) hcv hcl T' rfl X'
    exact ⟨t2, st.trans a1, b1⟩
/-- caught by the row x of this method's table; the rows ahead don't take it -/
theorem vx_catch {own name : String} {E : String} {ce : Cell} {q : Addr} (hown : s.vm.findClass own = some m.cls) (pre : List ExceptionTableEntry) (x : ExceptionTableEntry) (suf : List ExceptionTableEntry) (hsplit : c.exceptionTable.toList = pre ++ x :: suf)
    (hpass : ∀ z ∈ pre, covers z pc = false ∨ (z.catchType ≠ 0 ∧ ∃ nm : String, (Cond.classLink own z.catchType nm).before args s = true ∧ va_Nc E nm s)) (hx : covers x pc = true) (h0 : x.catchType ≠ 0)
    (hlink : (Cond.classLink own x.catchType name).before args s = true) (hcast : (Cond.castable E name).before args s = true) (hcell : H[q]? = some ce) (hv : ce.vm = .none) (hcl : s.vm.findClass E = some ce.cls)
    (kk : W p l e R s m args below meth c H locs cells slots Q (F0 m x.handlerPc ls [.ref q])) : vx_W p l e R s m args below meth c H locs cells slots Q (F0 m pc ls rest) q := by
  intro T hT X
  have hpl : e.platform.magicAccessors = ({} : Platform).magicAccessors := by rw [X.admits.platform]
  obtain ⟨c3, c4, hc3, hc4, hasg⟩ := Cond.castable_spec hcast
  cases Option.some.inj (hc3.symm.trans hcl)
  obtain ⟨c5, hc5, hcl5⟩ := Cond.classLink_spec hown hlink e.platform hpl
  cases Option.some.inj (hc4.symm.trans hc5)
  obtain ⟨vm', X', st⟩ := X.thenCaughtThrough q (g := F0 m pc ls rest) rfl (Steps.refl _) (by rw [hT]; exact hcell) (by rw [hv]; rfl) (by obtain ⟨k9, h9, -⟩ := Vm.findClass_spec hcl; exact ⟨k9, h9⟩) pre x suf hsplit
    (fun z hz => by
      rcases hpass z hz with h | ⟨hz0, nm, hl1, hn1⟩
      · exact Or.inl h
      · obtain ⟨c6, hc6, hcl6⟩ := Cond.classLink_spec hown hl1 e.platform hpl
        obtain ⟨a8, b8, h1, h2, h3⟩ := hn1
        cases Option.some.inj (h1.symm.trans hcl)
        cases Option.some.inj (h2.symm.trans hc6)
        exact Or.inr ⟨hz0, _, hcl6, h3⟩) hx (Or.inr ⟨h0, c4, hcl5, hasg⟩)
  obtain ⟨t, a1, b1⟩ := kk (T.setVm vm') hT X'
  exact ⟨t, st.trans a1, b1⟩
end Rows
section Ends
variable {p : Program} {l : Launch} {e : Env} {R : Room} {s : State} {m : MethodId} {args : Array Value} {below : List Frame} {meth : Method} {c : Code} {H : Heap} {locs : List Loc} {cells slots : Nat} {Q : State → Prop}
variable {mc ms : Nat} {free : Addr → Prop} {A0 A1 : Nat → Prop} {H0 : Heap} {a : Array Value} {ls : Array Slot} {st0 rest : List Value}
variable {Qc : Array Value → State → Outcome → State → Prop} {XC : String → State → State → Prop}
/-- what a body that may throw owes at its end -/
def vx_MQ (below : List Frame) (Qc : Array Value → State → Outcome → State → Prop) (XC : String → State → State → Prop) (a : Array Value) (s : State) (mc ms : Nat) (free : Addr → Prop) : State → Prop := fun t =>
  ∃ o, t.status = .running ∧ Ended t below o ∧ vx_Q Qc XC mc ms free a s o t
theorem vx_ret {g : JFrame} {mc ms : Nat} (k : W p l e R s m args below meth c H locs cells slots (MQ below Qc args s mc ms free) g) : W p l e R s m args below meth c H locs cells slots (vx_MQ below Qc XC args s mc ms free) g := by
  intro T hT X
  obtain ⟨t, a1, o, b1, b2, b3, b4⟩ := k T hT X
  exact ⟨t, a1, o, b1, b2, Or.inl ⟨b3, b4⟩⟩
/-- not caught here: it goes on to the caller -/
theorem vx_widen {g : JFrame} {q : Addr} {k n : Nat} (h1 : cells ≤ k) (h2 : slots ≤ n) (kk : vx_W p l e R s m args below meth c H locs k n Q g q) : vx_W p l e R s m args below meth c H locs cells slots Q g q := fun T hT X => kk T hT (stand_widen X h1 h2)
theorem vx_out {pc : Nat} {E : String} {ce : Cell} {q : Addr} {mc ms : Nat} (hout : ∀ x ∈ c.exceptionTable.toList, covers x pc = false) (hlocks : meth.locks = false) (hcell : H[q]? = some ce) (hv : ce.vm = .none) (hcl : s.vm.findClass E = some ce.cls)
    (hx : ∀ t : State, t.heap = H → s.vm.Alike t.vm → XC E s t) (hf : ∀ z ∈ locs, free z.base) (hc : cells ≤ mc) (hs : slots ≤ ms) :
    vx_W p l e R s m args below meth c H locs cells slots (vx_MQ below Qc XC args s mc ms free) (F0 m pc ls rest) q := by
  intro T hT X
  obtain ⟨st1, hrun, hend, hW, hsm⟩ := X.leaveThrown q (g := F0 m pc ls rest) rfl rfl rfl hout hlocks
  have hcell9 : (T.setFrames (.throwing q :: below)).heap[q]? = some ce := by
    show T.heap[q]? = some ce
    rw [hT]; exact hcell
  exact ⟨_, st1, .threw q, hrun, hend, Or.inr ⟨q, rfl, E, ce, locs, hx _ hT hW.alike, hcell9, hv, hcl, hW, hsm.mono hc hs, hf⟩⟩
theorem vx_frame {U : State} {k n : Nat} (h : s.sameButNew ({ U with vm := s.vm } : State) locs k n) : s.heap.size ≤ U.heap.size ∧ ∀ q : Nat, q < s.heap.size → (∀ z ∈ locs, z.base ≠ q) → U.heap[q]? = s.heap[q]? := by
  obtain ⟨-, h2, -, -, -, h6⟩ := h
  refine ⟨h2, fun q hq hz => ?_⟩
  obtain ⟨c9, e1, e2, e3, e4⟩ := h6 q _ (Array.getElem?_eq_getElem hq)
  have hs : c9.slots = (s.heap[q]).slots := Array.ext_getElem? fun i => e4 i fun hm => hz _ hm rfl
  have h9 : c9 = s.heap[q] := by
    rw [hs] at e2
    exact e2
  have e5 : U.heap[q]? = some c9 := e1
  rw [e5, h9, Array.getElem?_eq_getElem hq]
/-- the words of a throw but the four that speak of the heap -/
def vx_no (w : Cond) : Bool := decide (w ≠ .isRef (.static Bundle.tN "UNASSIGNED_STACK" Bundle.steD)) && decide (w ≠ .isRef (.static Bundle.tN "SUPPRESSED_SENTINEL" Bundle.listD)) && decide (w ≠ .laysStatic Bundle.tN "UNASSIGNED_STACK" Bundle.steD) && decide (w ≠ .laysStatic Bundle.tN "SUPPRESSED_SENTINEL" Bundle.listD)
def vx_at0 (own : String) (ic : Nat) (X : String) (names : List String) : List Cond := (Bundle.ownAtoms0 own ic X names).filter vx_no
def vx_atS (own : String) (ic : Nat) (X : String) (names : List String) : List Cond := (Bundle.ownAtoms own ic X names).filter vx_no
/-- a word that the tables alone decide, or a good one -/
def vx_ot (w : Cond) : Bool := w.onTables || goodWord w
theorem vx_ot_at {args a' : Array Value} {s U : State} {w : Cond} (hW : s.WarmedH U.vm) (hvm : s.vm = U.vm) (hg : vx_ot w = true) (h : w.before args s = true) : w.before a' U = true := by
  simp only [vx_ot, Bool.or_eq_true] at hg
  rcases hg with hg | hg
  · exact va_tabs hg hvm h
  · exact word_at hW (good_of_word hg) h
/-- a list's words: the good ones out of the method's own list, the others by premises of their own -/
theorem vx_hat {args : Array Value} {s : State} {L B : List Cond} (h1 : ∀ w ∈ L.filter goodWord, w.before args s = true) (h2 : ∀ w ∈ L.filter (fun w => !goodWord w), w ∈ B) (h3 : ∀ w ∈ B, w.before args s = true) : ∀ w ∈ L, w.before args s = true := by
  intro w hw
  by_cases g : goodWord w = true
  · exact h1 w (List.mem_filter.mpr ⟨hw, g⟩)
  · refine h3 w (h2 w (List.mem_filter.mpr ⟨hw, ?_⟩))
    show (!goodWord w) = true
    cases hgw : goodWord w
    · rfl
    · exact absurd hgw g
theorem vx_c {args : Array Value} {s : State} {w : Cond} {B : List Cond} (h : w.before args s = true) (t : ∀ w ∈ B, w.before args s = true) : ∀ w' ∈ w :: B, w'.before args s = true := fun w' h' => (List.mem_cons.mp h').elim (fun e => by rw [e]; exact h) (t w')
theorem vx_n {args : Array Value} {s : State} : ∀ w ∈ ([] : List Cond), w.before args s = true := fun _ h => nomatch h
theorem vx_own {args : Array Value} {s : State} {L : List Cond} (h1 : ∀ w ∈ L.filter vx_no, w.before args s = true)
    (hU : (Cond.isRef (.static Bundle.tN "UNASSIGNED_STACK" Bundle.steD)).before args s = true) (hN : (Cond.isRef (.static Bundle.tN "SUPPRESSED_SENTINEL" Bundle.listD)).before args s = true)
    (lU : (Cond.laysStatic Bundle.tN "UNASSIGNED_STACK" Bundle.steD).before args s = true) (lN : (Cond.laysStatic Bundle.tN "SUPPRESSED_SENTINEL" Bundle.listD).before args s = true) : ∀ w ∈ L, w.before args s = true := by
  intro w hw
  by_cases e1 : w = .isRef (.static Bundle.tN "UNASSIGNED_STACK" Bundle.steD)
  · rw [e1]; exact hU
  · by_cases e2 : w = .isRef (.static Bundle.tN "SUPPRESSED_SENTINEL" Bundle.listD)
    · rw [e2]; exact hN
    · by_cases e3 : w = .laysStatic Bundle.tN "UNASSIGNED_STACK" Bundle.steD
      · rw [e3]; exact lU
      · by_cases e4 : w = .laysStatic Bundle.tN "SUPPRESSED_SENTINEL" Bundle.listD
        · rw [e4]; exact lN
        · exact h1 w (List.mem_filter.mpr ⟨hw, by unfold vx_no; rw [decide_eq_true e1, decide_eq_true e2, decide_eq_true e3, decide_eq_true e4]; rfl⟩)
/-- where a static field lies, its class's statics cell in H -/
def vx_L (C n d : String) (A : Nat → Prop) (U : State) (H : Heap) : Prop := ∃ (c : ClassId) (k : Class) (i : Nat) (f : Field) (a : Nat) (cell : Cell), U.vm.findClass C = some c ∧ U.fieldFound? C n d = some (c, k, i, f) ∧ f.isStatic = true ∧ k.statics = some a ∧ H[a]? = some cell ∧ cell.vm.isStatics = true ∧ cell.cls = c ∧ f.slot < cell.slots.size ∧ k.staticTypes[f.slot]? = some f.type ∧ ¬ A a
theorem vx_L.moved {C n d : String} {A : Nat → Prop} {u U : State} {H : Heap} (hvm : u.vm.Alike U.vm) (h : vx_L C n d A u H) : vx_L C n d A U H := by
  obtain ⟨c, k, i, f, a, cell, h1, h2, h3, h4, h5, h6, h7, h8, h9, h10⟩ := h
  obtain ⟨k', hi', he⟩ := State.fieldFound?_setVm hvm h2
  exact ⟨c, k', i, f, a, cell, by rw [hvm.findClass]; exact h1, hi', h3, by rw [he]; exact h4, h5, h6, h7, h8, by rw [he]; exact h9, h10⟩
theorem vx_L.kept {C n d : String} {A : Nat → Prop} {U : State} {H H1 : Heap} (h : vx_L C n d A U H) (hq : ∀ a : Nat, a < H.size → ¬ A a → H1[a]? = H[a]?) : vx_L C n d A U H1 := by
  obtain ⟨c, k, i, f, a, cell, h1, h2, h3, h4, h5, h6, h7, h8, h9, h10⟩ := h
  exact ⟨c, k, i, f, a, cell, h1, h2, h3, h4, by rw [hq a (Array.getElem?_eq_some_iff.mp h5).1 h10]; exact h5, h6, h7, h8, h9, h10⟩
theorem vx_L.narrow {C n d : String} {A B : Nat → Prop} {U : State} {H : Heap} (h : vx_L C n d A U H) (hAB : ∀ q, B q → A q) : vx_L C n d B U H := by
  obtain ⟨c, k, i, f, a, cell, h1, h2, h3, h4, h5, h6, h7, h8, h9, h10⟩ := h
  exact ⟨c, k, i, f, a, cell, h1, h2, h3, h4, h5, h6, h7, h8, h9, fun z => h10 (hAB _ z)⟩
theorem vx_L.word {C n d : String} {A : Nat → Prop} {s : State} {args : Array Value} (h : vx_L C n d A s s.heap) : (Cond.laysStatic C n d).before args s = true := by
  obtain ⟨c, k, i, f, a, cell, h1, h2, h3, h4, h5, h6, h7, h8, h9, -⟩ := h
  show (Cond.laysStatic C n d).holds args s none s [] = true
  exact Cond.laysStatic_of h1 h2 h3 h4 h5 h6 h7 h8 h9
/-- .. and what it holds: null or some reference -/
def vx_Zq (C n d : String) (A : Nat → Prop) (U : State) (H : Heap) : Prop := va_Zq C n d A U H ∧ vx_L C n d A U H
theorem vx_Zq.moved {C n d : String} {A : Nat → Prop} {u U : State} {H : Heap} (hvm : u.vm.Alike U.vm) (h : vx_Zq C n d A u H) : vx_Zq C n d A U H := ⟨va_Zq.moved hvm h.1, vx_L.moved hvm h.2⟩
theorem vx_Zq.kept {C n d : String} {A : Nat → Prop} {U : State} {H H1 : Heap} (h : vx_Zq C n d A U H) (hq : ∀ a : Nat, a < H.size → ¬ A a → H1[a]? = H[a]?) : vx_Zq C n d A U H1 := ⟨va_Zq.kept h.1 hq, vx_L.kept h.2 hq⟩
theorem vx_Zq.narrow {C n d : String} {A B : Nat → Prop} {U : State} {H : Heap} (h : vx_Zq C n d A U H) (hAB : ∀ q, B q → A q) : vx_Zq C n d B U H := ⟨va_Zq.narrow h.1 hAB, vx_L.narrow h.2 hAB⟩
theorem vx_Zqof {args : Array Value} {s : State} {C n d : String} {A : Nat → Prop} (hl : (Cond.laysStatic C n d).before args s = true) (hini : (Cond.initialized C).before args s = true) (h : (Cond.isRef (.static C n d)).before args s = true) (hA : ∀ a : Nat, a < s.heap.size → ¬ A a) : vx_Zq C n d A s s.heap := by
  refine ⟨va_Zqof hl hini h hA, ?_⟩
  obtain ⟨c, k, i, f, a, cell, h1, h2, h3, h4, h5, h6, h7, h8, h9⟩ := Cond.laysStatic_spec hl
  exact ⟨c, k, i, f, a, cell, h1, h2, h3, h4, h5, h6, h7, h8, h9, hA a (Array.getElem?_eq_some_iff.mp h5).1⟩
theorem vx_isRef {C n d : String} {v : Value} {A : Nat → Prop} {s : State} {args : Array Value} (h : va_Z C n d v A s s.heap) (hv : v.isRef = true) : (Cond.isRef (.static C n d)).before args s = true := by
  obtain ⟨cf, kf, fi, f, a, cell, h1, h2, h3, h4, h5, h6, h7, -⟩ := h
  have he : (Term.static C n d).eval args s none [] s = some v := by
    simp [Term.eval, State.fieldNamed?, h1, h2, h4, h5, h6, h7]
  simp only [Cond.before, Cond.holds, Cond.value, he]
  cases v <;> simp_all [Value.isRef]
theorem vx_isRefq {C n d : String} {A : Nat → Prop} {s : State} {args : Array Value} (h : va_Zq C n d A s s.heap) : (Cond.isRef (.static C n d)).before args s = true := by
  rcases h with h | ⟨t, h⟩
  · exact vx_isRef h rfl
  · exact vx_isRef h rfl
/-- the same frame, seen from here: as if the method were called anew in this heap -/
theorem vx_rebase {T : State} (X : Stand p l e R s m args below meth c T locs cells slots) {R' : Room} (hf : R'.frames ≤ R.frames) (hl : R'.locals ≤ R.locals) (hc : cells + R'.cells ≤ R.cells) (hs : slots + R'.slots ≤ R.slots) :
    Stand p l e R' ((T.setVm s.vm).setFrames (.invoking m args :: below)) m args below meth c T [] 0 0 := by
  have htop : (T.setVm s.vm).topJava?.isSome := X.here.top
  have hF : ((T.setVm s.vm).setFrames (.invoking m args :: below)).frames = .invoking m args :: below := State.frames_setFrames _ (State.cur_lt_of_top htop)
  obtain ⟨g₀, hg0⟩ := Option.isSome_iff_exists.mp htop
  obtain ⟨r, hr⟩ := State.topJava?_eq_some.mp hg0
  have hl9 : e.platform.stackLimits (T.setVm s.vm).me = e.platform.stackLimits s.me := X.limits
  have hb9 : (T.setVm s.vm).me.stackBytes = s.me.stackBytes := X.bytes
  refine ⟨X.admits, X.cas, X.clock, hF, ?_, X.hears, X.method, X.code, X.here, X.tail, X.warmed, ?_, ?_, ?_⟩
  · have h := X.room
    have hU : ((T.setVm s.vm).setFrames (.invoking m args :: below)).localsInUse = s.localsInUse := by
      rw [State.localsInUse_invoking hF (meth := meth) (c := c) X.method X.code, State.localsInUse_invoking X.frames X.method X.code]
    simp only [State.hasRoom, Bool.and_eq_true, decide_eq_true_eq] at h ⊢
    obtain ⟨⟨⟨⟨h1, h2, h3, h4, h5, h6⟩, h7⟩, h8⟩, h9⟩ := h
    rw [X.frames, List.length_cons] at h2 h3
    have q1 := X.heapSize
    have q2 := X.used
    simp only [hF, hU, List.length_cons, State.stackLimits_setFrames, State.stackBytes_setFrames, hl9, hb9]
    refine ⟨⟨⟨⟨by omega, by omega, by omega, by omega, by omega, h6⟩, ?_⟩, ?_⟩, X.book⟩
    · show T.heap.size + R'.cells ≤ e.platform.maxCells
      omega
    · show T.slotsUsed + R'.slots ≤ e.platform.maxSlots
      omega
  · rw [State.stackLimits_setFrames]; rfl
  · rw [State.stackBytes_setFrames]; rfl
  · refine ⟨?_, Nat.le_refl _, Nat.le_refl _, ?_, ?_, fun a c9 h9 => ⟨c9, h9, rfl, rfl, fun _ _ => rfl⟩⟩
    · obtain ⟨t, ht, -⟩ := State.frames_cons hr
      show T.setVm s.vm = { ((T.setVm s.vm).setFrames (.invoking m args :: below)).setFrames (T.setVm s.vm).frames with heap := T.heap, slotsUsed := T.slotsUsed }
      rw [State.setFrames_setFrames, State.setFrames_self ht]
      rfl
    · show T.slotsUsed = T.slotsUsed + ((T.heap.toList.drop T.heap.size).map (·.slots.size)).sum
      rw [List.drop_eq_nil_of_le (Nat.le_of_eq Array.length_toList)]
      rfl
    · show ((T.heap.toList.drop T.heap.size).map (·.slots.size)).sum ≤ 0
      rw [List.drop_eq_nil_of_le (Nat.le_of_eq Array.length_toList)]
      exact Nat.le_refl _
/-- 'throw new E()': new; dup; invokespecial; athrow -/
theorem vx_throw0 {cc : ByteArray} {pc : Nat} (hexec : p.tables.exec = Jvm.exec) (hb : c.code = cc) (hl : l.stackTraces = false) {own cls : String} {names : List String} {ik ic mc ms : Nat} {A : Nat → Prop}
    (hown : s.vm.findClass own = some m.cls) (hcls : Bundle.fit cls = true) (hnames : ∀ n ∈ names, Bundle.fit n = true)
    (hk : (Cond.classLink own ik cls).before args s = true) (hini : (Cond.initialized cls).before args s = true) (hat : ∀ w ∈ vx_at0 own ic cls names, w.before args s = true)
    (hgood : ∀ w ∈ Cond.classLink own ik cls :: Cond.initialized cls :: vx_at0 own ic cls names, vx_ot w = true)
    (hU : vx_Zq Bundle.tN "UNASSIGNED_STACK" Bundle.steD A s s.heap) (hN : vx_Zq Bundle.tN "SUPPRESSED_SENTINEL" Bundle.listD A s s.heap) (hS : va_S A s.heap H locs) (hsize : ls.size = c.maxLocals)
    (d0 : decode cc pc = .ok (.new ik, 3)) (d3 : decode cc (pc + 3) = .ok (.dup, 1)) (d4 : decode cc (pc + 4) = .ok (.invokespecial ic, 3)) (d7 : decode cc (pc + 7) = .ok (.athrow, 1))
    (hout : ∀ x ∈ c.exceptionTable.toList, covers x (pc + 7) = false)
    (hRframes : names.length + 3 < R.frames) (hRlocals : (rest.map fun v => v.category).sum + (13 * (names.length + 1) + 42) ≤ R.locals) (hRcells : cells + 1 ≤ R.cells) (hRslots : slots + 6 ≤ R.slots) (hlocks : meth.locks = false)
    (hx : ∀ t : State, s.vm.Alike t.vm → H.size ≤ t.heap.size → (∀ q : Nat, q < H.size → t.heap[q]? = H[q]?) → XC cls s t)
    (hf : ∀ z ∈ locs, free z.base) (hc : cells + 1 ≤ mc) (hs : slots + 6 ≤ ms) :
    W p l e R s m args below meth c H locs cells slots (vx_MQ below Qc XC args s mc ms free) (F0 m pc ls rest) := by
  intro T hT X
  have htr : e.platform.stackTraces = false := (show e.platform.stackTraces = l.stackTraces by rw [X.admits.platform]).trans hl
  have Y := vx_rebase X (R' := { frames := R.frames, locals := R.locals, cells := 1, slots := 6 }) (Nat.le_refl _) (Nat.le_refl _) hRcells hRslots
  obtain ⟨s', hA⟩ : ∃ z, z = (T.setVm s.vm).setFrames (.invoking m args :: below) := ⟨_, rfl⟩
  rw [← hA] at Y
  have hvm : s'.vm = s.vm := by rw [hA]; rfl
  have hhp : s'.heap = H := by rw [hA]; exact hT
  have hW0 : s.WarmedH s'.vm := by rw [hvm]; exact State.WarmedH.refl s
  have hat' : ∀ w ∈ vx_at0 own ic cls names, w.before args s' = true := fun w hw => vx_ot_at hW0 hvm.symm (hgood w (List.mem_cons_of_mem _ (List.mem_cons_of_mem _ hw))) (hat w hw)
  have hk' : (Cond.classLink own ik cls).before args s' = true := vx_ot_at hW0 hvm.symm (hgood _ List.mem_cons_self) hk
  have hini' : (Cond.initialized cls).before args s' = true := vx_ot_at hW0 hvm.symm (hgood _ (List.mem_cons_of_mem _ List.mem_cons_self)) hini
  have hU' : vx_Zq Bundle.tN "UNASSIGNED_STACK" Bundle.steD A s' s'.heap := by rw [hhp]; exact vx_Zq.moved hW0.alike (hU.kept hS.2.1)
  have hN' : vx_Zq Bundle.tN "SUPPRESSED_SENTINEL" Bundle.listD A s' s'.heap := by rw [hhp]; exact vx_Zq.moved hW0.alike (hN.kept hS.2.1)
  have h : ∀ w ∈ Bundle.ownAtoms0 own ic cls names, w.before args s' = true := vx_own hat' (vx_isRefq hU'.1) (vx_isRefq hN'.1) hU'.2.word hN'.2.word
  have hown' : s'.vm.findClass own = some m.cls := by rw [hvm]; exact hown
  have hins : (Cond.instantiable cls 6).before args s' = true := h _ (by simp [Bundle.ownAtoms0])
  obtain ⟨vm₁, cX, kX, hfX, hkX, -, -, X₁, st1⟩ := Y.newCold hexec (own := own) (C := cls) (index := ik) (n := 6) hown' hk' hins hini'
    (g := F0 m pc ls rest) rfl (by rw [hb]; exact d0) (Nat.le_refl _) (Nat.le_refl _)
  generalize hT1 : (T.setVm vm₁).pushCell { cls := cX, slots := kX.instanceTypes.map defaultValue, vm := .none } = T1 at X₁ st1
  have hcat : (Value.ref T.heap.size).category = 1 := rfl
  have hcellA : T1.heap[T.heap.size]? = some (freshCell cX kX) := by rw [← hT1]; exact State.heap_pushCell_size _ _
  have d3' : decode c.code (pc + 3) = .ok (.dup, 1) := by rw [hb]; exact d3
  obtain ⟨U, hsteps, hrun, hend, hW, hsame, ce, hce, hO⟩ := X₁.ctorThrow0 hexec htr (own := own) (cls := cls) (names := names) (ic := ic) hown' hcls hnames h (fun x hx => nomatch hx) hfX hkX hcellA (by rw [hhp, hT]; exact Nat.le_refl _)
    (g := { method := m, pc := pc + 4, locals := ls, stack := .ref T.heap.size :: .ref T.heap.size :: rest, locked := none }) rfl hsize rfl rfl (rest := rest) rfl
    (by rw [hb]; exact d4) (by rw [hb]; exact d7) hout hRframes (by simp only [List.map_cons, List.sum_cons, hcat]; omega) hlocks
  obtain ⟨f1, f2⟩ := vx_frame hsame
  rw [hhp] at f1 f2
  have hWs : s.WarmedH U.vm := State.WarmedH.trans hW0 hW
  have hcl : s.vm.findClass cls = some ce.cls := by
    have h9 := hO.cls
    rw [hvm] at h9
    exact h9
  have hall : s.sameButNew ({ U with vm := s.vm } : State) locs mc ms := by
    subst hA
    obtain ⟨e1, e2⟩ := hsame
    rw [State.setFrames_setFrames] at e1
    have h2 : (T.setVm s.vm).sameButNew ({ U with vm := s.vm } : State) [] (0 + 1) (0 + 6) := ⟨e1, e2⟩
    have h3 := X.same.trans h2
    rw [List.append_nil] at h3
    exact h3.mono hc hs
  refine ⟨U, ?_, .threw T.heap.size, hrun, hend, Or.inr ⟨T.heap.size, rfl, cls, ce, locs, hx U hWs.alike f1 (fun q hq => f2 q hq (fun z hz => nomatch hz)), hce, hO.vm, hcl, hWs, hall, hf⟩⟩
  refine st1 _ ?_
  show Steps p.tables e below (T1.setTop { method := m, pc := pc + 3, locals := ls, stack := .ref T.heap.size :: rest, locked := none }) _
  jvm_step X₁.here [X₁.here.top, hexec, d3', Value.category]
  exact hsteps
/-- 'throw new E("text")': new; dup; ldc; invokespecial; athrow -/
theorem vx_throwS {cc : ByteArray} {pc : Nat} (hexec : p.tables.exec = Jvm.exec) (hb : c.code = cc) (hl : l.stackTraces = false) {own cls text : String} {names : List String} {ik is ic mc ms sa : Nat} {A : Nat → Prop}
    (hown : s.vm.findClass own = some m.cls) (hcls : Bundle.fit cls = true) (hnames : ∀ n ∈ names, Bundle.fit n = true)
    (hk : (Cond.classLink own ik cls).before args s = true) (hini : (Cond.initialized cls).before args s = true) (hstr : vk_R own is text sa s) (hat : ∀ w ∈ vx_atS own ic cls names, w.before args s = true)
    (hgood : ∀ w ∈ Cond.classLink own ik cls :: Cond.initialized cls :: vx_atS own ic cls names, vx_ot w = true)
    (hU : vx_Zq Bundle.tN "UNASSIGNED_STACK" Bundle.steD A s s.heap) (hN : vx_Zq Bundle.tN "SUPPRESSED_SENTINEL" Bundle.listD A s s.heap) (hS : va_S A s.heap H locs) (hsize : ls.size = c.maxLocals)
    (d0 : decode cc pc = .ok (.new ik, 3)) (d3 : decode cc (pc + 3) = .ok (.dup, 1)) (d4 : decode cc (pc + 4) = .ok (.ldc is, 2)) (d6 : decode cc (pc + 6) = .ok (.invokespecial ic, 3)) (d9 : decode cc (pc + 9) = .ok (.athrow, 1))
    (hout : ∀ x ∈ c.exceptionTable.toList, covers x (pc + 9) = false)
    (hRframes : names.length + 3 < R.frames) (hRlocals : (rest.map fun v => v.category).sum + (13 * (names.length + 1) + 43) ≤ R.locals) (hRcells : cells + 1 ≤ R.cells) (hRslots : slots + 6 ≤ R.slots) (hlocks : meth.locks = false)
    (hx : ∀ t : State, s.vm.Alike t.vm → H.size ≤ t.heap.size → (∀ q : Nat, q < H.size → t.heap[q]? = H[q]?) → XC cls s t)
    (hf : ∀ z ∈ locs, free z.base) (hc : cells + 1 ≤ mc) (hs : slots + 6 ≤ ms) :
    W p l e R s m args below meth c H locs cells slots (vx_MQ below Qc XC args s mc ms free) (F0 m pc ls rest) := by
  intro T hT X
  have htr : e.platform.stackTraces = false := (show e.platform.stackTraces = l.stackTraces by rw [X.admits.platform]).trans hl
  have Y := vx_rebase X (R' := { frames := R.frames, locals := R.locals, cells := 1, slots := 6 }) (Nat.le_refl _) (Nat.le_refl _) hRcells hRslots
  obtain ⟨s', hA⟩ : ∃ z, z = (T.setVm s.vm).setFrames (.invoking m args :: below) := ⟨_, rfl⟩
  rw [← hA] at Y
  have hvm : s'.vm = s.vm := by rw [hA]; rfl
  have hhp : s'.heap = H := by rw [hA]; exact hT
  have hW0 : s.WarmedH s'.vm := by rw [hvm]; exact State.WarmedH.refl s
  have hat' : ∀ w ∈ vx_atS own ic cls names, w.before args s' = true := fun w hw => vx_ot_at hW0 hvm.symm (hgood w (List.mem_cons_of_mem _ (List.mem_cons_of_mem _ hw))) (hat w hw)
  have hk' : (Cond.classLink own ik cls).before args s' = true := vx_ot_at hW0 hvm.symm (hgood _ List.mem_cons_self) hk
  have hini' : (Cond.initialized cls).before args s' = true := vx_ot_at hW0 hvm.symm (hgood _ (List.mem_cons_of_mem _ List.mem_cons_self)) hini
  have hU' : vx_Zq Bundle.tN "UNASSIGNED_STACK" Bundle.steD A s' s'.heap := by rw [hhp]; exact vx_Zq.moved hW0.alike (hU.kept hS.2.1)
  have hN' : vx_Zq Bundle.tN "SUPPRESSED_SENTINEL" Bundle.listD A s' s'.heap := by rw [hhp]; exact vx_Zq.moved hW0.alike (hN.kept hS.2.1)
  have h : ∀ w ∈ Bundle.ownAtoms own ic cls names, w.before args s' = true := vx_own hat' (vx_isRefq hU'.1) (vx_isRefq hN'.1) hU'.2.word hN'.2.word
  have hown' : s'.vm.findClass own = some m.cls := by rw [hvm]; exact hown
  have hins : (Cond.instantiable cls 6).before args s' = true := h _ (by simp [Bundle.ownAtoms])
  obtain ⟨vm₁, cX, kX, hfX, hkX, -, -, X₁, st1⟩ := Y.newCold hexec (own := own) (C := cls) (index := ik) (n := 6) hown' hk' hins hini'
    (g := F0 m pc ls rest) rfl (by rw [hb]; exact d0) (Nat.le_refl _) (Nat.le_refl _)
  generalize hT1 : (T.setVm vm₁).pushCell { cls := cX, slots := kX.instanceTypes.map defaultValue, vm := .none } = T1 at X₁ st1
  have hcat : (Value.ref T.heap.size).category = 1 := rfl
  have hcellA : T1.heap[T.heap.size]? = some (freshCell cX kX) := by rw [← hT1]; exact State.heap_pushCell_size _ _
  have d3' : decode c.code (pc + 3) = .ok (.dup, 1) := by rw [hb]; exact d3
  have d4' : decode c.code (pc + 4) = .ok (.ldc is, 2) := by rw [hb]; exact d4
  have hstr' : vk_R own is text sa s' := vk_R.warm hW0 hstr
  obtain ⟨U, hsteps, hrun, hend, hW, hsame, ce, hce, hO⟩ := X₁.ctorThrowS hexec htr (own := own) (cls := cls) (names := names) (ic := ic) hown' hcls hnames h (fun x hx => nomatch hx) hfX hkX hcellA (by rw [hhp, hT]; exact Nat.le_refl _) (msg := .ref sa) rfl
    (g := { method := m, pc := pc + 6, locals := ls, stack := .ref sa :: .ref T.heap.size :: .ref T.heap.size :: rest, locked := none }) rfl hsize rfl rfl (rest := rest) rfl
    (by rw [hb]; exact d6) (by rw [hb]; exact d9) hout hRframes (by simp only [List.map_cons, List.sum_cons, hcat]; omega) hlocks
  obtain ⟨f1, f2⟩ := vx_frame hsame
  rw [hhp] at f1 f2
  have hWs : s.WarmedH U.vm := State.WarmedH.trans hW0 hW
  have hcl : s.vm.findClass cls = some ce.cls := by
    have h9 := hO.cls
    rw [hvm] at h9
    exact h9
  have hall : s.sameButNew ({ U with vm := s.vm } : State) locs mc ms := by
    subst hA
    obtain ⟨e1, e2⟩ := hsame
    rw [State.setFrames_setFrames] at e1
    have h2 : (T.setVm s.vm).sameButNew ({ U with vm := s.vm } : State) [] (0 + 1) (0 + 6) := ⟨e1, e2⟩
    have h3 := X.same.trans h2
    rw [List.append_nil] at h3
    exact h3.mono hc hs
  refine ⟨U, ?_, .threw T.heap.size, hrun, hend, Or.inr ⟨T.heap.size, rfl, cls, ce, locs, hx U hWs.alike f1 (fun q hq => f2 q hq (fun z hz => nomatch hz)), hce, hO.vm, hcl, hWs, hall, hf⟩⟩
  refine st1 _ ?_
  show Steps p.tables e below (T1.setTop { method := m, pc := pc + 3, locals := ls, stack := .ref T.heap.size :: rest, locked := none }) _
  jvm_step X₁.here [X₁.here.top, hexec, d3', Value.category]
  exact X₁.ldcString hexec (own := own) (text := text) (index := is) (a := sa) hown' hstr'.1 hstr'.2
    (g := { method := m, pc := pc + 4, locals := ls, stack := .ref T.heap.size :: .ref T.heap.size :: rest, locked := none }) rfl d4' _ hsteps
/-- 'throw new E("text")', the text by a wide index -/
theorem vx_throwSW {cc : ByteArray} {pc : Nat} (hexec : p.tables.exec = Jvm.exec) (hb : c.code = cc) (hl : l.stackTraces = false) {own cls text : String} {names : List String} {ik is ic mc ms sa : Nat} {A : Nat → Prop}
    (hown : s.vm.findClass own = some m.cls) (hcls : Bundle.fit cls = true) (hnames : ∀ n ∈ names, Bundle.fit n = true)
    (hk : (Cond.classLink own ik cls).before args s = true) (hini : (Cond.initialized cls).before args s = true) (hstr : vk_R own is text sa s) (hat : ∀ w ∈ vx_atS own ic cls names, w.before args s = true)
    (hgood : ∀ w ∈ Cond.classLink own ik cls :: Cond.initialized cls :: vx_atS own ic cls names, vx_ot w = true)
    (hU : vx_Zq Bundle.tN "UNASSIGNED_STACK" Bundle.steD A s s.heap) (hN : vx_Zq Bundle.tN "SUPPRESSED_SENTINEL" Bundle.listD A s s.heap) (hS : va_S A s.heap H locs) (hsize : ls.size = c.maxLocals)
    (d0 : decode cc pc = .ok (.new ik, 3)) (d3 : decode cc (pc + 3) = .ok (.dup, 1)) (d4 : decode cc (pc + 4) = .ok (.ldc_w is, 3)) (d7 : decode cc (pc + 7) = .ok (.invokespecial ic, 3)) (d10 : decode cc (pc + 10) = .ok (.athrow, 1))
    (hout : ∀ x ∈ c.exceptionTable.toList, covers x (pc + 10) = false)
    (hRframes : names.length + 3 < R.frames) (hRlocals : (rest.map fun v => v.category).sum + (13 * (names.length + 1) + 43) ≤ R.locals) (hRcells : cells + 1 ≤ R.cells) (hRslots : slots + 6 ≤ R.slots) (hlocks : meth.locks = false)
    (hx : ∀ t : State, s.vm.Alike t.vm → H.size ≤ t.heap.size → (∀ q : Nat, q < H.size → t.heap[q]? = H[q]?) → XC cls s t)
    (hf : ∀ z ∈ locs, free z.base) (hc : cells + 1 ≤ mc) (hs : slots + 6 ≤ ms) :
    W p l e R s m args below meth c H locs cells slots (vx_MQ below Qc XC args s mc ms free) (F0 m pc ls rest) := by
  intro T hT X
  have htr : e.platform.stackTraces = false := (show e.platform.stackTraces = l.stackTraces by rw [X.admits.platform]).trans hl
  have Y := vx_rebase X (R' := { frames := R.frames, locals := R.locals, cells := 1, slots := 6 }) (Nat.le_refl _) (Nat.le_refl _) hRcells hRslots
  obtain ⟨s', hA⟩ : ∃ z, z = (T.setVm s.vm).setFrames (.invoking m args :: below) := ⟨_, rfl⟩
  rw [← hA] at Y
  have hvm : s'.vm = s.vm := by rw [hA]; rfl
  have hhp : s'.heap = H := by rw [hA]; exact hT
  have hW0 : s.WarmedH s'.vm := by rw [hvm]; exact State.WarmedH.refl s
  have hat' : ∀ w ∈ vx_atS own ic cls names, w.before args s' = true := fun w hw => vx_ot_at hW0 hvm.symm (hgood w (List.mem_cons_of_mem _ (List.mem_cons_of_mem _ hw))) (hat w hw)
  have hk' : (Cond.classLink own ik cls).before args s' = true := vx_ot_at hW0 hvm.symm (hgood _ List.mem_cons_self) hk
  have hini' : (Cond.initialized cls).before args s' = true := vx_ot_at hW0 hvm.symm (hgood _ (List.mem_cons_of_mem _ List.mem_cons_self)) hini
  have hU' : vx_Zq Bundle.tN "UNASSIGNED_STACK" Bundle.steD A s' s'.heap := by rw [hhp]; exact vx_Zq.moved hW0.alike (hU.kept hS.2.1)
  have hN' : vx_Zq Bundle.tN "SUPPRESSED_SENTINEL" Bundle.listD A s' s'.heap := by rw [hhp]; exact vx_Zq.moved hW0.alike (hN.kept hS.2.1)
  have h : ∀ w ∈ Bundle.ownAtoms own ic cls names, w.before args s' = true := vx_own hat' (vx_isRefq hU'.1) (vx_isRefq hN'.1) hU'.2.word hN'.2.word
  have hown' : s'.vm.findClass own = some m.cls := by rw [hvm]; exact hown
  have hins : (Cond.instantiable cls 6).before args s' = true := h _ (by simp [Bundle.ownAtoms])
  obtain ⟨vm₁, cX, kX, hfX, hkX, -, -, X₁, st1⟩ := Y.newCold hexec (own := own) (C := cls) (index := ik) (n := 6) hown' hk' hins hini'
    (g := F0 m pc ls rest) rfl (by rw [hb]; exact d0) (Nat.le_refl _) (Nat.le_refl _)
  generalize hT1 : (T.setVm vm₁).pushCell { cls := cX, slots := kX.instanceTypes.map defaultValue, vm := .none } = T1 at X₁ st1
  have hcat : (Value.ref T.heap.size).category = 1 := rfl
  have hcellA : T1.heap[T.heap.size]? = some (freshCell cX kX) := by rw [← hT1]; exact State.heap_pushCell_size _ _
  have d3' : decode c.code (pc + 3) = .ok (.dup, 1) := by rw [hb]; exact d3
  have d4' : decode c.code (pc + 4) = .ok (.ldc_w is, 3) := by rw [hb]; exact d4
  have hstr' : vk_R own is text sa s' := vk_R.warm hW0 hstr
  obtain ⟨U, hsteps, hrun, hend, hW, hsame, ce, hce, hO⟩ := X₁.ctorThrowS hexec htr (own := own) (cls := cls) (names := names) (ic := ic) hown' hcls hnames h (fun x hx => nomatch hx) hfX hkX hcellA (by rw [hhp, hT]; exact Nat.le_refl _) (msg := .ref sa) rfl
    (g := { method := m, pc := pc + 7, locals := ls, stack := .ref sa :: .ref T.heap.size :: .ref T.heap.size :: rest, locked := none }) rfl hsize rfl rfl (rest := rest) rfl
    (by rw [hb]; exact d7) (by rw [hb]; exact d10) hout hRframes (by simp only [List.map_cons, List.sum_cons, hcat]; omega) hlocks
  obtain ⟨f1, f2⟩ := vx_frame hsame
  rw [hhp] at f1 f2
  have hWs : s.WarmedH U.vm := State.WarmedH.trans hW0 hW
  have hcl : s.vm.findClass cls = some ce.cls := by
    have h9 := hO.cls
    rw [hvm] at h9
    exact h9
  have hall : s.sameButNew ({ U with vm := s.vm } : State) locs mc ms := by
    subst hA
    obtain ⟨e1, e2⟩ := hsame
    rw [State.setFrames_setFrames] at e1
    have h2 : (T.setVm s.vm).sameButNew ({ U with vm := s.vm } : State) [] (0 + 1) (0 + 6) := ⟨e1, e2⟩
    have h3 := X.same.trans h2
    rw [List.append_nil] at h3
    exact h3.mono hc hs
  refine ⟨U, ?_, .threw T.heap.size, hrun, hend, Or.inr ⟨T.heap.size, rfl, cls, ce, locs, hx U hWs.alike f1 (fun q hq => f2 q hq (fun z hz => nomatch hz)), hce, hO.vm, hcl, hWs, hall, hf⟩⟩
  refine st1 _ ?_
  show Steps p.tables e below (T1.setTop { method := m, pc := pc + 3, locals := ls, stack := .ref T.heap.size :: rest, locked := none }) _
  jvm_step X₁.here [X₁.here.top, hexec, d3', Value.category]
  exact X₁.ldcStringW hexec (own := own) (text := text) (index := is) (a := sa) hown' hstr'.1 hstr'.2
    (g := { method := m, pc := pc + 4, locals := ls, stack := .ref T.heap.size :: .ref T.heap.size :: rest, locked := none }) rfl d4' _ hsteps
end Ends
section Bodies
variable {l : Launch}
theorem vx_ofW {y : MethodName} {ws ws' : List Cond} {rm : Room} {Pc : Array Value → State → Prop} {Qc : Array Value → State → Outcome → State → Prop} {XC : String → State → State → Prop} {mc ms : Nat} {free : Addr → Prop} {cc : ByteArray} {maxL : Nat} {ret : Option FieldType}
    (hy : plainName y.cls = true) (hw : ws = Cond.code y cc maxL ret :: ws')
    (body : ∀ p e s m args below meth c s₁, BodyLoose p l y (headSpec ws rm) cc maxL ret e s m args below meth c s₁ → c.maxLocals = maxL → (∀ x ∈ c.exceptionTable.toList, False) → Pc args s →
      W p l e (headSpec ws rm).room s m args below meth c s.heap [] 0 0 (vx_MQ below Qc XC args s mc ms free) (entryFrame m args maxL)) : vx_Met l y ws rm Pc Qc XC mc ms free := by
  refine MetFree.of_bodyS (code := cc) (maxLocals := maxL) (ret := ret) hy ?_ ?_
  · intro args s m h hn
    obtain ⟨meth, c, h1, h2, h3, h4, h5, h6, -, -⟩ := Cond.code_spec hn (atoms_spec (ws := ws) h _ (by rw [hw]; exact List.mem_cons_self))
    exact ⟨meth, c, h1, h2, h3, h4, h5, h6⟩
  · intro p e s m args below meth c s₁ B hml hP _
    have hh0 : s₁.heap = s.heap := by rw [B.state]; rfl
    have ht : ∀ x ∈ c.exceptionTable.toList, False := by
      obtain ⟨meth9, c9, h1, h2, -, -, -, -, h7, -⟩ := Cond.code_spec B.named (atoms_spec (ws := ws) B.pre _ (by rw [hw]; exact List.mem_cons_self))
      cases Option.some.inj (h1.symm.trans B.method)
      cases Option.some.inj (h2.symm.trans (Stand.of_body B).code)
      intro x hx
      rw [Array.isEmpty_iff.mp h7] at hx
      cases hx
    obtain ⟨t, a1, o, b1, b2, b3⟩ := body p e s m args below meth c s₁ B hml ht hP s₁ hh0 (Stand.of_body B)
    exact ⟨t, o, a1, b1, b2, b3⟩
/-- the table of a body with handlers -/
theorem vx_table {p : Program} {x y : MethodName} {S : Spec} {cc bytes : ByteArray} {maxL maxL' : Nat} {ret ret' : Option FieldType} {e : Env} {s s₁ : State} {m : MethodId} {args : Array Value} {below : List Frame} {meth : Method} {c : Code} {hh : List (Nat × Nat × Nat × Nat)}
    (B : BodyLoose p l y S cc maxL ret e s m args below meth c s₁) (h : (Cond.codeWith y bytes maxL' ret' hh).before args s = true) : c.exceptionTable.toList = tableOf hh := by
  obtain ⟨m9, meth9, c9, hn9, h1, h2, -, -, h6, -⟩ := Cond.codeWith_spec h
  cases Option.some.inj (hn9.symm.trans B.named)
  cases Option.some.inj (h1.symm.trans B.method)
  cases Option.some.inj (h2.symm.trans (Stand.of_body B).code)
  rw [← h6, table_eq]
end Bodies
end VXA
/-! ===== END ===== -/
/-! ===== BEGIN a static call of a method with an exception table ===== -/
section VXS
variable {p : Program} {l : Launch} {e : Env} {R : Room} {s : State} {m : MethodId} {args : Array Value} {below : List Frame} {meth : Method} {c : Code} {T : State} {H : Heap} {locs : List Loc} {cells slots : Nat}
abbrev vx_CSW (R : Room) (s : State) (args : Array Value) (own : String) (index : Nat) (y : MethodName) (bytes : ByteArray) (maxL : Nat) (ret : Option FieldType) (hh : List (Nat × Nat × Nat × Nat)) (ws : List Cond) (rm : Room) (mc ms n : Nat) : Prop :=
  (rm.cells = mc ∧ rm.slots = ms ∧ rm.frames + 1 ≤ R.frames ∧ 8 + (maxL + 11) + rm.locals ≤ R.locals ∧ (∀ w ∈ ws, ∀ (a' : Array Value) (U : State), s.WarmedH U.vm → w.before a' U = true) ∧ Cond.codeWith y bytes maxL ret hh ∈ ws) ∧
  (Cond.codeWith y bytes maxL ret hh).before args s = true ∧ (Cond.initialized y.cls).before args s = true ∧ (y.cls ≠ "java/lang/invoke/MethodHandle" ∧ y.cls ≠ "java/lang/invoke/VarHandle") ∧
  (∀ sig, parseMethodDescriptor y.desc = some sig → n = sig.parameters.length) ∧ (Cond.methodLink own index y).before args s = true ∧ (Cond.static y).before args s = true
theorem vx_cwSW {own : String} {index maxL mc ms : Nat} {y : MethodName} {bytes : ByteArray} {ret : Option FieldType} {hh : List (Nat × Nat × Nat × Nat)} {Ts ws ws' : List Cond} {rm : Room} (n : Nat) (ht : ∀ w ∈ Ts, w.before args s = true) (hT : GoodIn Ts (va_wsS own index y ws)) (hw : ws = Cond.codeWith y bytes maxL ret hh :: ws') (hrc : rm.cells = mc) (hrs : rm.slots = ms)
    (hd : y.cls ≠ "java/lang/invoke/MethodHandle" ∧ y.cls ≠ "java/lang/invoke/VarHandle" ∧ (parseMethodDescriptor y.desc).map (fun d => d.parameters.length) = some n) (hR : rm.frames + 1 ≤ R.frames ∧ 8 + (maxL + 11) + rm.locals ≤ R.locals) :
    vx_CSW R s args own index y bytes maxL ret hh ws rm mc ms n := by
  have ok : ∀ w ∈ va_wsS own index y ws, w.before args s = true := fun w h => ht w (hT w h).1
  have hG : GoodIn Ts ws := fun w h => hT w (by unfold va_wsS; exact List.mem_append_right _ h)
  have hc : Cond.codeWith y bytes maxL ret hh ∈ ws := by rw [hw]; exact List.mem_cons_self
  refine ⟨⟨hrc, hrs, hR.1, hR.2, pay_in ht hG, hc⟩, ht _ (hG _ hc).1, ok _ (by simp [va_wsS]), ⟨hd.1, hd.2.1⟩, fun sig h => ?_, ok _ (by simp [va_wsS]), ok _ (by simp [va_wsS])⟩
  have h2 := hd.2.2
  rw [h] at h2
  exact (Option.some.inj h2).symm
theorem vx_callSW (X : Stand p l e R s m args below meth c T locs cells slots) (hexec : p.tables.exec = Jvm.exec) {own : String} {index : Nat} {y : MethodName} {bytes : ByteArray} {maxL : Nat} {ret : Option FieldType} {hh : List (Nat × Nat × Nat × Nat)}
    (hown : s.vm.findClass own = some m.cls) (hlink : (Cond.methodLink own index y).before args s = true) (hstat : (Cond.static y).before args s = true) (hinit : (Cond.initialized y.cls).before args s = true)
    (hcode : (Cond.codeWith y bytes maxL ret hh).before args s = true) (hy : y.cls ≠ "java/lang/invoke/MethodHandle" ∧ y.cls ≠ "java/lang/invoke/VarHandle")
    {W9 : Nat} {Pre : Pt → Array Value → Prop} {Post : Pt → Array Value → Option Value → Pt → Prop} (hK : Back l R p e below s args y 3 W9 Pre Post)
    {g : JFrame} (hg : g.method = m) (hsize : g.locals.size = c.maxLocals) {argsL rest : List Value} (hlen : ∀ sig, parseMethodDescriptor y.desc = some sig → argsL.length = sig.parameters.length)
    (hstack : g.stack = argsL.reverse ++ rest) (hW : 2 * g.monitorRoom + (rest.map fun v => v.category).sum ≤ W9) (hdg : decode c.code g.pc = .ok (.invokestatic index, 3))
    (hpre : ∀ vm₁, s.WarmedH vm₁ → Pre ⟨T.setVm vm₁, locs, cells, slots⟩ argsL.toArray) :
    ∃ (v : Option Value) (vm₁ : Vm) (B : Pt), s.WarmedH vm₁ ∧ Stand p l e R s m args below meth c B.U B.locs B.cells B.slots ∧ Post ⟨T.setVm vm₁, locs, cells, slots⟩ argsL.toArray v B ∧
      ∀ target, Steps p.tables e below (B.U.setTop { g with pc := g.pc + 3, stack := v.toList ++ rest }) target → Steps p.tables e below (T.setTop g) target := by
  obtain ⟨mk, methM, cM, hnamed, hmethM, -, -, -, -, -, -, hsigM⟩ := Cond.codeWith_spec hcode
  have hstatic : methM.isStatic = true := Cond.static_spec hnamed hmethM hstat
  obtain ⟨kP, hkP, -⟩ := className_of_methodNamed hnamed
  have hinitP : kP.init = .initialized := Cond.initialized_spec (findClass_of_methodNamed hnamed) hkP hinit
  obtain ⟨vm₁, X₁, hstep₁⟩ := X.invokestatic hexec hown hlink hnamed hmethM hstatic hkP hinitP hy (g := g) hg (argsL := argsL) (rest := rest) (hlen _ hsigM) hstack hdg
  obtain ⟨v, B, X', hpost, hsteps⟩ := hK m meth c ⟨T.setVm vm₁, locs, cells, slots⟩ { g with stack := rest } (.invokestatic index) mk argsL.toArray X₁ hg hsize hdg hW (X₁.named hnamed) (hpre vm₁ X₁.warmed)
  exact ⟨v, vm₁, B, X₁.warmed, X', hpost, fun target h => hstep₁ _ fun acts => by rw [doInvoke_state]; exact hsteps.trans h⟩
theorem vx_runSW {y : MethodName} {bytes cc : ByteArray} {maxL nL mc ms n index : Nat} {ret : Option FieldType} {hh : List (Nat × Nat × Nat × Nat)} {ws : List Cond} {rm : Room} {Pc : Array Value → State → Prop} {Qc : Array Value → State → Outcome → State → Prop} {free : Addr → Prop} {Ts : List Cond} {own : String} {As rest : List Value} {g : JFrame}
    (S : CallFix p m c cc nL s args Ts own) (hM : Met l y ws rm Pc Qc mc ms free) (cw : vx_CSW R s args own index y bytes maxL ret hh ws rm mc ms n) (hp : PreS s H Pc As)
    (hg : g.method = m) (hn : As.length = n) (hsize : g.locals.size = nL) (hstack : g.stack = As.reverse ++ rest) (hW : 2 * g.monitorRoom + (rest.map fun v => v.category).sum ≤ 8) (hdg : decode cc g.pc = .ok (.invokestatic index, 3)) (hf : cells + mc ≤ R.cells ∧ slots + ms ≤ R.slots) :
    va_Run p l e R s m args below meth c H locs cells slots mc ms g rest (Qc As.toArray) (free) := by
  obtain ⟨⟨hrc, hrs, hfr, hlo, hws, hcw⟩, hcode, hini, hy, hlen, hl, hstt⟩ := cw
  have hK : Back l R p e below s args y 3 8 (PreOf R mc ms Pc) (PostOf Qc mc ms free) := va_backW (hh := hh) (bytes := bytes) (maxL := maxL) (ret := ret) hM hp.1 hrc hrs hfr hlo hws hcw (fun a' U hW => word_at hW (Or.inl (by first | rfl | simp [Cond.onTables, Cond.keeps, Cond.steady])) hini)
  obtain ⟨hx, hb, hml, ho, -⟩ := S
  intro T hT X
  obtain ⟨v, vm₁, ⟨U', l2, c2, s2⟩, hW₁, X', ⟨g', mk, t, L, e1, e2, hq, h1, hL, h2, h3⟩, st⟩ := vx_callSW X hx (hh := hh) (bytes := bytes) (maxL := maxL) (ret := ret) ho hl hstt hini hcode hy hK hg (hsize.trans hml.symm) (argsL := As) (rest := rest) (fun sig h => hn.trans (hlen sig h)) hstack hW (by rw [hb]; exact hdg)
    (fun vm₁ hW₁ => ⟨hf.1, hf.2, hp.2 (T.setVm vm₁) hT hW₁⟩)
  dsimp only [Pt.U, Pt.locs, Pt.cells, Pt.slots] at X' e1 e2 h1 h2 h3 st
  subst h1; subst h2; subst h3
  exact ⟨v, (T.setVm vm₁).calling g' mk As.toArray, t, U', L, hT, X', hL, e1, e2, hq, st⟩
/-- not caught here, past rows that name other classes: it goes on to the caller -/
theorem vx_outP {p : Program} {l : Launch} {e : Env} {R : Room} {s : State} {m : MethodId} {args : Array Value} {below : List Frame} {meth : Method} {c : Code} {H : Heap} {locs : List Loc} {cells slots : Nat} {free : Addr → Prop} {ls : Array Slot} {rest : List Value} {Qc : Array Value → State → Outcome → State → Prop} {XC : String → State → State → Prop}
    {pc : Nat} {own E : String} {ce : Cell} {q : Addr} {mc ms : Nat} (hown : s.vm.findClass own = some m.cls) (hlocks : meth.locks = false)
    (hpass : ∀ z ∈ c.exceptionTable.toList, covers z pc = false ∨ (z.catchType ≠ 0 ∧ ∃ nm : String, (Cond.classLink own z.catchType nm).before args s = true ∧ va_Nc E nm s)) (hcell : H[q]? = some ce) (hv : ce.vm = .none) (hcl : s.vm.findClass E = some ce.cls)
    (hx : ∀ t : State, t.heap = H → s.vm.Alike t.vm → XC E s t) (hf : ∀ z ∈ locs, free z.base) (hc : cells ≤ mc) (hs : slots ≤ ms) :
    vx_W p l e R s m args below meth c H locs cells slots (vx_MQ below Qc XC args s mc ms free) (F0 m pc ls rest) q := by
  intro T hT X
  have hpl : e.platform.magicAccessors = ({} : Platform).magicAccessors := by rw [X.admits.platform]
  obtain ⟨vm', hW', X', st⟩ := X.outThrough hlocks q (g := F0 m pc ls rest) rfl rfl rfl (cell := ce) (by rw [hT]; exact hcell) (by rw [hv]; rfl)
    (by obtain ⟨k9, h9, -⟩ := Vm.findClass_spec hcl; exact ⟨k9, h9⟩) (fun z hz => by
      rcases hpass z hz with h | ⟨hz0, nm, hl1, hn1⟩
      · exact Or.inl h
      · obtain ⟨c6, hc6, hcl6⟩ := Cond.classLink_spec hown hl1 e.platform hpl
        obtain ⟨a8, b8, h1, h2, h3⟩ := hn1
        cases Option.some.inj (h1.symm.trans hcl)
        cases Option.some.inj (h2.symm.trans hc6)
        exact Or.inr ⟨hz0, _, hcl6, h3⟩)
  obtain ⟨g₀, hfr⟩ := X'.frames_eq
  have hcell9 : ((T.setVm vm').setFrames (.throwing q :: below)).heap[q]? = some ce := by
    show T.heap[q]? = some ce
    rw [hT]; exact hcell
  have hend : Ended ((T.setVm vm').setFrames (.throwing q :: below)) below (.threw q) := State.frames_setFrames _ (State.cur_lt_of_frames hfr)
  refine ⟨(T.setVm vm').setFrames (.throwing q :: below), ?_, .threw q, X'.here.running, hend, Or.inr ⟨q, rfl, E, ce, locs, hx _ hT (X'.ends _).1.alike, hcell9, hv, hcl, (X'.ends _).1, (X'.ends _).2.mono hc hs, hf⟩⟩
  rw [X.pushThrowing_eq]
  exact st
/-- a thing of a world lies in the heap -/
theorem vx_lt {D : va_G} {cl : List vw_C} {ws : va_W} {H1 : Heap} (h : va_P D cl ws H1) {k : Nat} {q : Nat × va_E} (hk : ws[k]? = some q) : q.1 < H1.size := (h k q hk).lt
end VXS
/-! ===== END ===== -/
/-! ===== BEGIN methods with a table of their own: called by a name, returning or throwing ===== -/
section VXH
/-! vx_backW, vx_callVX, vx_callSX, vx_callVW, vx_runVW, vx_runVX, vx_runSX, vx_ofWH follow the same proofs as their sisters above (Free/Laws.lean, Shelf42/LK1.lean); vx_outP calls Shelf42/NT130.lean (outThrough). -/
section
variable {l : Launch} {R : Room} {p : Program} {e : Env} {below : List Frame} {s : State} {sargs : Array Value} {y : MethodName} {len W9 : Nat}
theorem vx_backW {ws : List Cond} {rm : Room} {Pc : Array Value → State → Prop} {Qc : Array Value → State → Outcome → State → Prop} {XC : String → State → State → Prop} {mc ms : Nat} {free : Addr → Prop} {bytes : ByteArray} {maxL : Nat} {ret : Option FieldType} {hh : List (Nat × Nat × Nat × Nat)}
    (hM : vx_Met l y ws rm Pc Qc XC mc ms free) (hblind : FrameBlind Pc) (hrc : rm.cells = mc) (hrs : rm.slots = ms)
    (hframes : rm.frames + 1 ≤ R.frames) (hlocals : W9 + (maxL + 11) + rm.locals ≤ R.locals)
    (hws : ∀ w ∈ ws, ∀ a' U, s.WarmedH U.vm → w.before a' U = true) (hcode : Cond.codeWith y bytes maxL ret hh ∈ ws) (hinit : ∀ a' U, s.WarmedH U.vm → (Cond.initialized y.cls).before a' U = true) :
    vx_Back l R p e below s sargs y len W9 (PreOf R mc ms Pc) (PostOf Qc mc ms free) (vx_Post XC mc ms free) := by
  intro m meth c A g ig mk a X hg hsize hdg hW hn hp
  have h1 : (headSpec ws rm).pre.before a A.U = true := atoms_intro fun w hw => hws w hw _ _ X.warmed
  have h2 : (Cond.codeWith y bytes maxL ret hh).before a A.U = true := hws _ hcode _ _ X.warmed
  have h3 : (Cond.initialized y.cls).before a A.U = true := hinit _ _ X.warmed
  have h4 : A.cells + (headSpec ws rm).room.cells ≤ R.cells := by rw [show (headSpec ws rm).room.cells = mc from hrc]; exact hp.1
  have h5 : A.slots + (headSpec ws rm).room.slots ≤ R.slots := by rw [show (headSpec ws rm).room.slots = ms from hrs]; exact hp.2.1
  have hPc : Pc a (A.U.calling g mk a) := hblind _ _ _ _ hp.2.2
  obtain ⟨U, Ls, c0, s0⟩ := A
  dsimp only [Pt.U, Pt.locs, Pt.cells, Pt.slots] at h1 h2 h3 h4 h5 X hn hPc ⊢
  obtain ⟨m9, methY, cY, hn9, hmY, hcY, -, hlY, -⟩ := Cond.codeWith_spec h2
  cases Option.some.inj (hn9.symm.trans hn)
  obtain ⟨kY, hkY, -⟩ := className_of_methodNamed hn
  have hinitY : kY.init = .initialized := Cond.initialized_spec (findClass_of_methodNamed hn) hkY h3
  have h : At U g.method c below := by rw [hg]; exact X.here
  have hlocals9 : W9 + (maxL + 11) + (headSpec ws rm).room.locals ≤ R.locals := hlocals
  have happ : (headSpec ws rm).appliesLoose y e.platform (U.calling g mk a) = true :=
    Spec.appliesLoose_calling (g := g) h hdg hn hkY hinitY
      (X.room_calling (g := g) (R' := (headSpec ws rm).room) hsize hmY hcY hframes (by rw [hlY]; omega) h4 h5) h1
  obtain ⟨mid, hmid⟩ := h.above
  have hfr : (U.setTop g).frames = (.java g :: mid) ++ below := by rw [State.frames_setTop' g h.top, hmid]; rfl
  obtain ⟨o, s₂, hsteps, -, hend, hq⟩ := Steps.callFree hM p X.admits X.cas X.clock (acts := []) hfr happ hPc trivial
  have hq' : vx_Q Qc XC mc ms free a (U.calling g mk a) o s₂ := hq
  rw [State.frames_setTop' g h.top] at hend
  obtain ⟨g₀, hg0⟩ := Option.isSome_iff_exists.mp h.top
  obtain ⟨r, hr⟩ := State.topJava?_eq_some.mp hg0
  have hr' : (({ U with heap := s₂.heap, slotsUsed := s₂.slotsUsed } : State).setVm s₂.vm).frames = .java g₀ :: r := hr
  rcases hq' with ⟨hqc, L, hfe, hL⟩ | ⟨q, rfl, E, ce, L, hx, hce, hcv, hcl, hW₂, hsm, hL⟩
  · obtain ⟨⟨v, rfl⟩, hW₂, e2, q2, q3, q4, q5, q6⟩ := id hfe
    have e3 : s₂ = ({ (U.calling g mk a).setFrames s₂.frames with heap := s₂.heap, slotsUsed := s₂.slotsUsed } : State).setVm s₂.vm := by
      have : s₂ = ({ s₂ with vm := (U.calling g mk a).vm } : State).setVm s₂.vm := rfl
      rw [e2] at this
      exact this
    obtain ⟨c₂, i₂, len₂, hc₂, hd₂, hf₂⟩ := hend
    have hW' : U.WarmedH s₂.vm := hW₂
    have hcc : c₂ = c := by
      have h1 : s₂.code? g.method = U.code? g.method := by
        rw [State.code?_eq, State.code?_eq, hW'.alike.method?]
      exact Option.some.inj (hc₂.symm.trans (h1.trans h.code))
    subst hcc
    have hlen : len₂ = len := by rw [hdg] at hd₂; cases hd₂; rfl
    subst hlen
    have hs₂ : s₂ = (({ U with heap := s₂.heap, slotsUsed := s₂.slotsUsed } : State).setVm s₂.vm).setTop { g with pc := g.pc + len₂, stack := v.toList ++ g.stack } := by
      refine e3.trans ?_
      rw [hf₂, State.calling_eq h.top, State.setFrames_setFrames, State.setTop_of_frames _ hr', hr]
      rfl
    have hsame : U.sameButNew ({ U with heap := s₂.heap, slotsUsed := s₂.slotsUsed } : State) L mc ms := by
      refine ⟨?_, q2, q3, q4, q5, q6⟩
      obtain ⟨t, ht, -⟩ := State.frames_cons hr
      show ({ U with heap := s₂.heap, slotsUsed := s₂.slotsUsed } : State) = { U.setFrames U.frames with heap := s₂.heap, slotsUsed := s₂.slotsUsed }
      rw [State.setFrames_self ht]
    subst hg
    refine Or.inl ⟨v, ⟨(({ U with heap := s₂.heap, slotsUsed := s₂.slotsUsed } : State).setVm s₂.vm), Ls ++ L, c0 + mc, s0 + ms⟩,
      ⟨X.admits, X.cas, X.clock, X.frames, X.room, X.hears, X.method, X.code, (X.here.setHeapUsed s₂.heap s₂.slotsUsed).setVm hW'.alike, X.tail, State.WarmedH.trans X.warmed hW', X.limits, X.bytes, X.same.trans (hsame.setVm s.vm)⟩,
      ⟨g, mk, s₂, L, rfl, rfl, hqc, rfl, hL, rfl, rfl⟩, ?_⟩
    show Steps p.tables e below _ ((({ U with heap := s₂.heap, slotsUsed := s₂.slotsUsed } : State).setVm s₂.vm).setTop { g with pc := g.pc + len₂, stack := v.toList ++ g.stack })
    rw [← hs₂]
    exact hsteps
  · obtain ⟨e2, q2, q3, q4, q5, q6⟩ := id hsm
    have e3 : s₂ = ({ (U.calling g mk a).setFrames s₂.frames with heap := s₂.heap, slotsUsed := s₂.slotsUsed } : State).setVm s₂.vm := by
      have : s₂ = ({ s₂ with vm := (U.calling g mk a).vm } : State).setVm s₂.vm := rfl
      rw [e2] at this
      exact this
    have hf₂ : s₂.frames = .throwing q :: .java g :: U.frames.tail := hend
    have hW' : U.WarmedH s₂.vm := hW₂
    have hs₂ : s₂ = ((({ U with heap := s₂.heap, slotsUsed := s₂.slotsUsed } : State).setVm s₂.vm).setTop g).pushFrame (.throwing q) := by
      refine e3.trans ?_
      rw [hf₂, State.calling_eq h.top, State.setFrames_setFrames, State.pushFrame, State.frames_setTop _ hr', State.setTop_of_frames _ hr', State.setFrames_setFrames, hr]
      rfl
    have hsame : U.sameButNew ({ U with heap := s₂.heap, slotsUsed := s₂.slotsUsed } : State) L mc ms := by
      refine ⟨?_, q2, q3, q4, q5, q6⟩
      obtain ⟨t, ht, -⟩ := State.frames_cons hr
      show ({ U with heap := s₂.heap, slotsUsed := s₂.slotsUsed } : State) = { U.setFrames U.frames with heap := s₂.heap, slotsUsed := s₂.slotsUsed }
      rw [State.setFrames_self ht]
    subst hg
    refine Or.inr ⟨q, ⟨(({ U with heap := s₂.heap, slotsUsed := s₂.slotsUsed } : State).setVm s₂.vm), Ls ++ L, c0 + mc, s0 + ms⟩,
      ⟨X.admits, X.cas, X.clock, X.frames, X.room, X.hears, X.method, X.code, (X.here.setHeapUsed s₂.heap s₂.slotsUsed).setVm hW'.alike, X.tail, State.WarmedH.trans X.warmed hW', X.limits, X.bytes, X.same.trans (hsame.setVm s.vm)⟩,
      ⟨g, mk, s₂, L, E, ce, rfl, rfl, hx, hce, hcv, hcl, rfl, hL, rfl, rfl⟩, ?_⟩
    show Steps p.tables e below _ (((({ U with heap := s₂.heap, slotsUsed := s₂.slotsUsed } : State).setVm s₂.vm).setTop g).pushFrame (.throwing q))
    rw [← hs₂]
    exact hsteps
end
variable {p : Program} {l : Launch} {e : Env} {R : Room} {s : State} {m : MethodId} {args : Array Value} {below : List Frame} {meth : Method} {c : Code} {T : State} {H : Heap} {locs : List Loc} {cells slots : Nat}
theorem vx_callVX (X : Stand p l e R s m args below meth c T locs cells slots) (hexec : p.tables.exec = Jvm.exec) {own C : String} {index : Nat} {y : MethodName} {bytes : ByteArray} {maxL : Nat} {ret : Option FieldType} {hh : List (Nat × Nat × Nat × Nat)}
    (hown : s.vm.findClass own = some m.cls) (hlink : (Cond.methodLink own index y).before args s = true) (hinst : (Cond.instanceMethod y).before args s = true) (hsel : (Cond.selects C y y).before args s = true)
    (hcode : (Cond.codeWith y bytes maxL ret hh).before args s = true) (hy : y.cls ≠ "java/lang/invoke/MethodHandle" ∧ y.cls ≠ "java/lang/invoke/VarHandle")
    {W9 : Nat} {Pre : Pt → Array Value → Prop} {Post : Pt → Array Value → Option Value → Pt → Prop} {PostX : Pt → Array Value → Addr → Pt → Prop} (hK : vx_Back l R p e below s args y 3 W9 Pre Post PostX)
    {b : Addr} {cellB : Cell} (hcell : T.heap[b]? = some cellB) (hobj : cellB.vm.isStatics = false) (hcls : s.vm.findClass C = some cellB.cls)
    {g : JFrame} (hg : g.method = m) (hsize : g.locals.size = c.maxLocals) {argsL rest : List Value} (hlen : ∀ sig, parseMethodDescriptor y.desc = some sig → argsL.length = sig.parameters.length)
    (hstack : g.stack = argsL.reverse ++ .ref b :: rest) (hW : 2 * g.monitorRoom + (rest.map fun v => v.category).sum ≤ W9) (hdg : decode c.code g.pc = .ok (.invokevirtual index, 3))
    (hpre : ∀ vm₁, s.WarmedH vm₁ → Pre ⟨T.setVm vm₁, locs, cells, slots⟩ (Value.ref b :: argsL).toArray) :
    (∃ (v : Option Value) (vm₁ : Vm) (B : Pt), s.WarmedH vm₁ ∧ Stand p l e R s m args below meth c B.U B.locs B.cells B.slots ∧ Post ⟨T.setVm vm₁, locs, cells, slots⟩ (Value.ref b :: argsL).toArray v B ∧
      ∀ target, Steps p.tables e below (B.U.setTop { g with pc := g.pc + 3, stack := v.toList ++ rest }) target → Steps p.tables e below (T.setTop g) target) ∨
    (∃ (q : Addr) (vm₁ : Vm) (B : Pt), s.WarmedH vm₁ ∧ Stand p l e R s m args below meth c B.U B.locs B.cells B.slots ∧ PostX ⟨T.setVm vm₁, locs, cells, slots⟩ (Value.ref b :: argsL).toArray q B ∧
      Steps p.tables e below (T.setTop g) ((B.U.setTop { g with stack := rest }).pushFrame (.throwing q))) := by
  obtain ⟨mk, methM, hnamed, hmethM, hstM, habM⟩ := Cond.instanceMethod_spec hinst
  obtain ⟨m8, methM', cM, hn8, hmethM', -, -, -, -, -, -, hsigM⟩ := Cond.codeWith_spec hcode
  cases Option.some.inj (hn8.symm.trans hnamed)
  cases hmethM.symm.trans hmethM'
  obtain ⟨c2, r2, m2, q1, q2, q3, q4, kP, hkP, hkPi⟩ := Cond.selects_spec hsel
  cases hcls.symm.trans q1
  cases (State.methodFound?_of_named hnamed hy).symm.trans q2
  cases hnamed.symm.trans q3
  have hselP : selectMethod e.platform s.vm cellB.cls mk = .method mk := by rw [Launch.admits_selectMethod X.admits]; exact q4
  obtain ⟨vm₁, X₁, hstep₁⟩ := X.invokevirtual hexec hown hlink hnamed hmethM hstM hkP hkPi hy (a := b) (cell := cellB) hcell
    (fun z h => by rw [h] at hobj; cases hobj) hselP hmethM habM hkP hkPi (g := g) hg (argsL := argsL) (rest := rest) (hlen _ hsigM) hstack hdg
  rcases hK m meth c ⟨T.setVm vm₁, locs, cells, slots⟩ { g with stack := rest } (.invokevirtual index) mk (Value.ref b :: argsL).toArray X₁ hg hsize hdg hW (X₁.named hnamed) (hpre vm₁ X₁.warmed) with ⟨v, B, X', hpost, hsteps⟩ | ⟨q, B, X', hpost, hsteps⟩
  · exact Or.inl ⟨v, vm₁, B, X₁.warmed, X', hpost, fun target h => hstep₁ _ fun acts => by rw [doInvoke_state]; exact hsteps.trans h⟩
  · exact Or.inr ⟨q, vm₁, B, X₁.warmed, X', hpost, hstep₁ _ fun acts => by rw [doInvoke_state]; exact hsteps⟩
theorem vx_callSX (X : Stand p l e R s m args below meth c T locs cells slots) (hexec : p.tables.exec = Jvm.exec) {own : String} {index : Nat} {y : MethodName} {bytes : ByteArray} {maxL : Nat} {ret : Option FieldType} {hh : List (Nat × Nat × Nat × Nat)}
    (hown : s.vm.findClass own = some m.cls) (hlink : (Cond.methodLink own index y).before args s = true) (hstat : (Cond.static y).before args s = true) (hinit : (Cond.initialized y.cls).before args s = true)
    (hcode : (Cond.codeWith y bytes maxL ret hh).before args s = true) (hy : y.cls ≠ "java/lang/invoke/MethodHandle" ∧ y.cls ≠ "java/lang/invoke/VarHandle")
    {W9 : Nat} {Pre : Pt → Array Value → Prop} {Post : Pt → Array Value → Option Value → Pt → Prop} {PostX : Pt → Array Value → Addr → Pt → Prop} (hK : vx_Back l R p e below s args y 3 W9 Pre Post PostX)
    {g : JFrame} (hg : g.method = m) (hsize : g.locals.size = c.maxLocals) {argsL rest : List Value} (hlen : ∀ sig, parseMethodDescriptor y.desc = some sig → argsL.length = sig.parameters.length)
    (hstack : g.stack = argsL.reverse ++ rest) (hW : 2 * g.monitorRoom + (rest.map fun v => v.category).sum ≤ W9) (hdg : decode c.code g.pc = .ok (.invokestatic index, 3))
    (hpre : ∀ vm₁, s.WarmedH vm₁ → Pre ⟨T.setVm vm₁, locs, cells, slots⟩ argsL.toArray) :
    (∃ (v : Option Value) (vm₁ : Vm) (B : Pt), s.WarmedH vm₁ ∧ Stand p l e R s m args below meth c B.U B.locs B.cells B.slots ∧ Post ⟨T.setVm vm₁, locs, cells, slots⟩ argsL.toArray v B ∧
      ∀ target, Steps p.tables e below (B.U.setTop { g with pc := g.pc + 3, stack := v.toList ++ rest }) target → Steps p.tables e below (T.setTop g) target) ∨
    (∃ (q : Addr) (vm₁ : Vm) (B : Pt), s.WarmedH vm₁ ∧ Stand p l e R s m args below meth c B.U B.locs B.cells B.slots ∧ PostX ⟨T.setVm vm₁, locs, cells, slots⟩ argsL.toArray q B ∧
      Steps p.tables e below (T.setTop g) ((B.U.setTop { g with stack := rest }).pushFrame (.throwing q))) := by
  obtain ⟨mk, methM, cM, hnamed, hmethM, -, -, -, -, -, -, hsigM⟩ := Cond.codeWith_spec hcode
  have hstatic : methM.isStatic = true := Cond.static_spec hnamed hmethM hstat
  obtain ⟨kP, hkP, -⟩ := className_of_methodNamed hnamed
  have hinitP : kP.init = .initialized := Cond.initialized_spec (findClass_of_methodNamed hnamed) hkP hinit
  obtain ⟨vm₁, X₁, hstep₁⟩ := X.invokestatic hexec hown hlink hnamed hmethM hstatic hkP hinitP hy (g := g) hg (argsL := argsL) (rest := rest) (hlen _ hsigM) hstack hdg
  rcases hK m meth c ⟨T.setVm vm₁, locs, cells, slots⟩ { g with stack := rest } (.invokestatic index) mk argsL.toArray X₁ hg hsize hdg hW (X₁.named hnamed) (hpre vm₁ X₁.warmed) with ⟨v, B, X', hpost, hsteps⟩ | ⟨q, B, X', hpost, hsteps⟩
  · exact Or.inl ⟨v, vm₁, B, X₁.warmed, X', hpost, fun target h => hstep₁ _ fun acts => by rw [doInvoke_state]; exact hsteps.trans h⟩
  · exact Or.inr ⟨q, vm₁, B, X₁.warmed, X', hpost, hstep₁ _ fun acts => by rw [doInvoke_state]; exact hsteps⟩
theorem vx_callVW (X : Stand p l e R s m args below meth c T locs cells slots) (hexec : p.tables.exec = Jvm.exec) {own C : String} {index : Nat} {y : MethodName} {bytes : ByteArray} {maxL : Nat} {ret : Option FieldType} {hh : List (Nat × Nat × Nat × Nat)}
    (hown : s.vm.findClass own = some m.cls) (hlink : (Cond.methodLink own index y).before args s = true) (hinst : (Cond.instanceMethod y).before args s = true) (hsel : (Cond.selects C y y).before args s = true)
    (hcode : (Cond.codeWith y bytes maxL ret hh).before args s = true) (hy : y.cls ≠ "java/lang/invoke/MethodHandle" ∧ y.cls ≠ "java/lang/invoke/VarHandle")
    {W9 : Nat} {Pre : Pt → Array Value → Prop} {Post : Pt → Array Value → Option Value → Pt → Prop} (hK : Back l R p e below s args y 3 W9 Pre Post)
    {b : Addr} {cellB : Cell} (hcell : T.heap[b]? = some cellB) (hobj : cellB.vm.isStatics = false) (hcls : s.vm.findClass C = some cellB.cls)
    {g : JFrame} (hg : g.method = m) (hsize : g.locals.size = c.maxLocals) {argsL rest : List Value} (hlen : ∀ sig, parseMethodDescriptor y.desc = some sig → argsL.length = sig.parameters.length)
    (hstack : g.stack = argsL.reverse ++ .ref b :: rest) (hW : 2 * g.monitorRoom + (rest.map fun v => v.category).sum ≤ W9) (hdg : decode c.code g.pc = .ok (.invokevirtual index, 3))
    (hpre : ∀ vm₁, s.WarmedH vm₁ → Pre ⟨T.setVm vm₁, locs, cells, slots⟩ (Value.ref b :: argsL).toArray) :
    ∃ (v : Option Value) (vm₁ : Vm) (B : Pt), s.WarmedH vm₁ ∧ Stand p l e R s m args below meth c B.U B.locs B.cells B.slots ∧ Post ⟨T.setVm vm₁, locs, cells, slots⟩ (Value.ref b :: argsL).toArray v B ∧
      ∀ target, Steps p.tables e below (B.U.setTop { g with pc := g.pc + 3, stack := v.toList ++ rest }) target → Steps p.tables e below (T.setTop g) target := by
  obtain ⟨mk, methM, hnamed, hmethM, hstM, habM⟩ := Cond.instanceMethod_spec hinst
  obtain ⟨m8, methM', cM, hn8, hmethM', -, -, -, -, -, -, hsigM⟩ := Cond.codeWith_spec hcode
  cases Option.some.inj (hn8.symm.trans hnamed)
  cases hmethM.symm.trans hmethM'
  obtain ⟨c2, r2, m2, q1, q2, q3, q4, kP, hkP, hkPi⟩ := Cond.selects_spec hsel
  cases hcls.symm.trans q1
  cases (State.methodFound?_of_named hnamed hy).symm.trans q2
  cases hnamed.symm.trans q3
  have hselP : selectMethod e.platform s.vm cellB.cls mk = .method mk := by rw [Launch.admits_selectMethod X.admits]; exact q4
  obtain ⟨vm₁, X₁, hstep₁⟩ := X.invokevirtual hexec hown hlink hnamed hmethM hstM hkP hkPi hy (a := b) (cell := cellB) hcell
    (fun z h => by rw [h] at hobj; cases hobj) hselP hmethM habM hkP hkPi (g := g) hg (argsL := argsL) (rest := rest) (hlen _ hsigM) hstack hdg
  obtain ⟨v, B, X', hpost, hsteps⟩ := hK m meth c ⟨T.setVm vm₁, locs, cells, slots⟩ { g with stack := rest } (.invokevirtual index) mk (Value.ref b :: argsL).toArray X₁ hg hsize hdg hW (X₁.named hnamed) (hpre vm₁ X₁.warmed)
  exact ⟨v, vm₁, B, X₁.warmed, X', hpost, fun target h => hstep₁ _ fun acts => by rw [doInvoke_state]; exact hsteps.trans h⟩
abbrev vx_CVW (R : Room) (s : State) (args : Array Value) (own C : String) (index : Nat) (y : MethodName) (bytes : ByteArray) (maxL : Nat) (ret : Option FieldType) (hh : List (Nat × Nat × Nat × Nat)) (ws : List Cond) (rm : Room) (mc ms n : Nat) : Prop :=
  (rm.cells = mc ∧ rm.slots = ms ∧ rm.frames + 1 ≤ R.frames ∧ 8 + (maxL + 11) + rm.locals ≤ R.locals ∧ (∀ w ∈ ws, ∀ (a' : Array Value) (U : State), s.WarmedH U.vm → w.before a' U = true) ∧ Cond.codeWith y bytes maxL ret hh ∈ ws) ∧
  (Cond.codeWith y bytes maxL ret hh).before args s = true ∧ (Cond.initialized y.cls).before args s = true ∧ (y.cls ≠ "java/lang/invoke/MethodHandle" ∧ y.cls ≠ "java/lang/invoke/VarHandle") ∧
  (∀ sig, parseMethodDescriptor y.desc = some sig → n = sig.parameters.length) ∧ (Cond.methodLink own index y).before args s = true ∧ (Cond.instanceMethod y).before args s = true ∧ (Cond.selects C y y).before args s = true
theorem vx_cwVW {own C : String} {index maxL mc ms : Nat} {y : MethodName} {bytes : ByteArray} {ret : Option FieldType} {hh : List (Nat × Nat × Nat × Nat)} {Ts ws ws' : List Cond} {rm : Room} (n : Nat) (ht : ∀ w ∈ Ts, w.before args s = true) (hT : GoodIn Ts (wsV own index C y ws)) (hw : ws = Cond.codeWith y bytes maxL ret hh :: ws') (hrc : rm.cells = mc) (hrs : rm.slots = ms)
    (hd : y.cls = C ∧ y.cls ≠ "java/lang/invoke/MethodHandle" ∧ y.cls ≠ "java/lang/invoke/VarHandle" ∧ (parseMethodDescriptor y.desc).map (fun d => d.parameters.length) = some n) (hR : rm.frames + 1 ≤ R.frames ∧ 8 + (maxL + 11) + rm.locals ≤ R.locals) :
    vx_CVW R s args own C index y bytes maxL ret hh ws rm mc ms n := by
  obtain ⟨hC, hd⟩ := hd
  subst hC
  have ok : ∀ w ∈ wsV own index y.cls y ws, w.before args s = true := fun w h => ht w (hT w h).1
  have hG : GoodIn Ts ws := fun w h => hT w (by unfold wsV; exact List.mem_append_right _ h)
  have hc : Cond.codeWith y bytes maxL ret hh ∈ ws := by rw [hw]; exact List.mem_cons_self
  refine ⟨⟨hrc, hrs, hR.1, hR.2, pay_in ht hG, hc⟩, ht _ (hG _ hc).1, ok _ (by simp [wsV]), ⟨hd.1, hd.2.1⟩, fun sig h => ?_, ok _ (by simp [wsV]), ok _ (by simp [wsV]), ok _ (by simp [wsV])⟩
  have h2 := hd.2.2
  rw [h] at h2
  exact (Option.some.inj h2).symm
theorem vx_runVW {y : MethodName} {bytes cc : ByteArray} {maxL nL mc ms n index : Nat} {ret : Option FieldType} {hh : List (Nat × Nat × Nat × Nat)} {ws : List Cond} {rm : Room} {Pc : Array Value → State → Prop} {Qc : Array Value → State → Outcome → State → Prop} {free : Addr → Prop} {Ts : List Cond} {own C : String} {b : Addr} {As rest : List Value} {g : JFrame}
    (S : CallFix p m c cc nL s args Ts own) (hM : Met l y ws rm Pc Qc mc ms free) (cw : vx_CVW R s args own C index y bytes maxL ret hh ws rm mc ms n) (hp : PreV s H C b Pc As)
    (hg : g.method = m) (hn : As.length = n) (hsize : g.locals.size = nL) (hstack : g.stack = As.reverse ++ .ref b :: rest) (hW : 2 * g.monitorRoom + (rest.map fun v => v.category).sum ≤ 8) (hdg : decode cc g.pc = .ok (.invokevirtual index, 3)) (hf : cells + mc ≤ R.cells ∧ slots + ms ≤ R.slots) :
    va_Run p l e R s m args below meth c H locs cells slots mc ms g rest (Qc (Value.ref b :: As).toArray) free := by
  obtain ⟨⟨hrc, hrs, hfr, hlo, hws, hcw⟩, hcode, hini, hy, hlen, hl, hin, hse⟩ := cw
  have hK : Back l R p e below s args y 3 8 (PreOf R mc ms Pc) (PostOf Qc mc ms free) := va_backW (hh := hh) (bytes := bytes) (maxL := maxL) (ret := ret) hM hp.1 hrc hrs hfr hlo hws hcw (fun a' U hW => word_at hW (Or.inl (by first | rfl | simp [Cond.onTables, Cond.keeps, Cond.steady])) hini)
  obtain ⟨hx, hb, hml, ho, -⟩ := S
  obtain ⟨-, ⟨cellB, hcB, hoB, hclB⟩, hPc⟩ := hp
  intro T hT X
  obtain ⟨v, vm₁, ⟨U', l2, c2, s2⟩, hW₁, X', ⟨g', mk, t, L, e1, e2, hq, h1, hL, h2, h3⟩, st⟩ := vx_callVW X hx (C := C) (hh := hh) (bytes := bytes) (maxL := maxL) (ret := ret) ho hl hin hse hcode hy hK (by rw [hT]; exact hcB) hoB hclB hg (hsize.trans hml.symm) (argsL := As) (rest := rest) (fun sig h => hn.trans (hlen sig h)) hstack hW (by rw [hb]; exact hdg)
    (fun vm₁ hW₁ => ⟨hf.1, hf.2, hPc (T.setVm vm₁) hT hW₁⟩)
  dsimp only [Pt.U, Pt.locs, Pt.cells, Pt.slots] at X' e1 e2 h1 h2 h3 st
  subst h1; subst h2; subst h3
  exact ⟨v, (T.setVm vm₁).calling g' mk (Value.ref b :: As).toArray, t, U', L, hT, X', hL, e1, e2, hq, st⟩
section
variable {y : MethodName} {bytes cc : ByteArray} {maxL nL mc ms n index : Nat} {ret : Option FieldType} {ws : List Cond} {rm : Room} {Pc : Array Value → State → Prop} {Qc : Array Value → State → Outcome → State → Prop} {XC : String → State → State → Prop} {free : Addr → Prop} {Ts : List Cond} {own C : String} {b : Addr} {As rest : List Value} {g : JFrame}
theorem vx_runVX {hh : List (Nat × Nat × Nat × Nat)} (S : CallFix p m c cc nL s args Ts own) (hM : vx_Met l y ws rm Pc Qc XC mc ms free) (cw : vx_CVW R s args own C index y bytes maxL ret hh ws rm mc ms n) (hp : PreV s H C b Pc As)
    (hg : g.method = m) (hn : As.length = n) (hsize : g.locals.size = nL) (hstack : g.stack = As.reverse ++ .ref b :: rest) (hW : 2 * g.monitorRoom + (rest.map fun v => v.category).sum ≤ 8) (hdg : decode cc g.pc = .ok (.invokevirtual index, 3)) (hf : cells + mc ≤ R.cells ∧ slots + ms ≤ R.slots) :
    vx_Run p l e R s m args below meth c H locs cells slots mc ms g rest (Qc (Value.ref b :: As).toArray) XC free := by
  obtain ⟨⟨hrc, hrs, hfr, hlo, hws, hcw⟩, hcode, hini, hy, hlen, hl, hin, hse⟩ := cw
  have hK : vx_Back l R p e below s args y 3 8 (PreOf R mc ms Pc) (PostOf Qc mc ms free) (vx_Post XC mc ms free) := vx_backW (hh := hh) (bytes := bytes) (maxL := maxL) (ret := ret) hM hp.1 hrc hrs hfr hlo hws hcw (fun a' U hW => word_at hW (Or.inl (by first | rfl | simp [Cond.onTables, Cond.keeps, Cond.steady])) hini)
  obtain ⟨hx, hb, hml, ho, -⟩ := S
  obtain ⟨-, ⟨cellB, hcB, hoB, hclB⟩, hPc⟩ := hp
  intro T hT X
  rcases vx_callVX X hx (C := C) (hh := hh) (bytes := bytes) (maxL := maxL) (ret := ret) ho hl hin hse hcode hy hK (by rw [hT]; exact hcB) hoB hclB hg (hsize.trans hml.symm) (argsL := As) (rest := rest) (fun sig h => hn.trans (hlen sig h)) hstack hW (by rw [hb]; exact hdg)
    (fun vm₁ hW₁ => ⟨hf.1, hf.2, hPc (T.setVm vm₁) hT hW₁⟩) with ⟨v, vm₁, ⟨U', l2, c2, s2⟩, hW₁, X', ⟨g', mk, t, L, e1, e2, hq, h1, hL, h2, h3⟩, st⟩ | ⟨q, vm₁, ⟨U', l2, c2, s2⟩, hW₁, X', ⟨g', mk, t, L, E, ce, e1, e2, hq, hce, hcv, hcl, h1, hL, h2, h3⟩, st⟩
  · dsimp only [Pt.U, Pt.locs, Pt.cells, Pt.slots] at X' e1 e2 h1 h2 h3 st
    subst h1; subst h2; subst h3
    exact Or.inl ⟨v, (T.setVm vm₁).calling g' mk (Value.ref b :: As).toArray, t, U', L, hT, X', hL, e1, e2, hq, st⟩
  · dsimp only [Pt.U, Pt.locs, Pt.cells, Pt.slots] at X' e1 e2 h1 h2 h3 st hcl
    subst h1; subst h2; subst h3
    exact Or.inr ⟨q, (T.setVm vm₁).calling g' mk (Value.ref b :: As).toArray, t, U', L, E, ce, hT, X', hL, e1, e2, hq, hce, hcv, vx_cls hW₁ hcl, st⟩
theorem vx_runSX {hh : List (Nat × Nat × Nat × Nat)} (S : CallFix p m c cc nL s args Ts own) (hM : vx_Met l y ws rm Pc Qc XC mc ms free) (cw : vx_CSW R s args own index y bytes maxL ret hh ws rm mc ms n) (hp : PreS s H Pc As)
    (hg : g.method = m) (hn : As.length = n) (hsize : g.locals.size = nL) (hstack : g.stack = As.reverse ++ rest) (hW : 2 * g.monitorRoom + (rest.map fun v => v.category).sum ≤ 8) (hdg : decode cc g.pc = .ok (.invokestatic index, 3)) (hf : cells + mc ≤ R.cells ∧ slots + ms ≤ R.slots) :
    vx_Run p l e R s m args below meth c H locs cells slots mc ms g rest (Qc As.toArray) XC free := by
  obtain ⟨⟨hrc, hrs, hfr, hlo, hws, hcw⟩, hcode, hini, hy, hlen, hl, hstt⟩ := cw
  have hK : vx_Back l R p e below s args y 3 8 (PreOf R mc ms Pc) (PostOf Qc mc ms free) (vx_Post XC mc ms free) := vx_backW (hh := hh) (bytes := bytes) (maxL := maxL) (ret := ret) hM hp.1 hrc hrs hfr hlo hws hcw (fun a' U hW => word_at hW (Or.inl (by first | rfl | simp [Cond.onTables, Cond.keeps, Cond.steady])) hini)
  obtain ⟨hx, hb, hml, ho, -⟩ := S
  intro T hT X
  rcases vx_callSX X hx (hh := hh) (bytes := bytes) (maxL := maxL) (ret := ret) ho hl hstt hini hcode hy hK hg (hsize.trans hml.symm) (argsL := As) (rest := rest) (fun sig h => hn.trans (hlen sig h)) hstack hW (by rw [hb]; exact hdg)
    (fun vm₁ hW₁ => ⟨hf.1, hf.2, hp.2 (T.setVm vm₁) hT hW₁⟩) with ⟨v, vm₁, ⟨U', l2, c2, s2⟩, hW₁, X', ⟨g', mk, t, L, e1, e2, hq, h1, hL, h2, h3⟩, st⟩ | ⟨q, vm₁, ⟨U', l2, c2, s2⟩, hW₁, X', ⟨g', mk, t, L, E, ce, e1, e2, hq, hce, hcv, hcl, h1, hL, h2, h3⟩, st⟩
  · dsimp only [Pt.U, Pt.locs, Pt.cells, Pt.slots] at X' e1 e2 h1 h2 h3 st
    subst h1; subst h2; subst h3
    exact Or.inl ⟨v, (T.setVm vm₁).calling g' mk As.toArray, t, U', L, hT, X', hL, e1, e2, hq, st⟩
  · dsimp only [Pt.U, Pt.locs, Pt.cells, Pt.slots] at X' e1 e2 h1 h2 h3 st hcl
    subst h1; subst h2; subst h3
    exact Or.inr ⟨q, (T.setVm vm₁).calling g' mk As.toArray, t, U', L, E, ce, hT, X', hL, e1, e2, hq, hce, hcv, vx_cls hW₁ hcl, st⟩
end
end VXH
theorem vx_ofWH {l : Launch} {y : MethodName} {ws ws' : List Cond} {rm : Room} {Pc : Array Value → State → Prop} {Qc : Array Value → State → Outcome → State → Prop} {XC : String → State → State → Prop} {mc ms : Nat} {free : Addr → Prop} {cc : ByteArray} {maxL : Nat} {ret : Option FieldType} {hh : List (Nat × Nat × Nat × Nat)}
    (hy : plainName y.cls = true) (hw : ws = Cond.codeWith y cc maxL ret hh :: ws')
    (body : ∀ p e s m args below meth c s₁, BodyLoose p l y (headSpec ws rm) cc maxL ret e s m args below meth c s₁ → c.maxLocals = maxL → Pc args s →
      W p l e (headSpec ws rm).room s m args below meth c s.heap [] 0 0 (vx_MQ below Qc XC args s mc ms free) (entryFrame m args maxL)) : vx_Met l y ws rm Pc Qc XC mc ms free := by
  refine MetFree.of_bodyS (code := cc) (maxLocals := maxL) (ret := ret) hy ?_ ?_
  · intro args s m h hn
    obtain ⟨m9, meth, c, hn9, h1, h2, h3, h4, -, h5, h6, -⟩ := Cond.codeWith_spec (atoms_spec (ws := ws) h _ (by rw [hw]; exact List.mem_cons_self))
    cases hn.symm.trans hn9
    exact ⟨meth, c, h1, h2, h3, h4, h5, h6⟩
  · intro p e s m args below meth c s₁ B hml hP _
    have hh0 : s₁.heap = s.heap := by rw [B.state]; rfl
    obtain ⟨t, a1, o, b1, b2, b3⟩ := body p e s m args below meth c s₁ B hml hP s₁ hh0 (Stand.of_body B)
    exact ⟨t, o, a1, b1, b2, b3⟩
/-! ===== END ===== -/

/-! ===== printed names (classes, fields, codes, methods) ===== -/
def RX0 : String := "TurnpikeTrust$Act"
def TX0 : u_T := fun k => match k with
  | 0 => ("TurnpikeTrust$Act", "from", "I", true)
  | _ => ("TurnpikeTrust$Act", "clauses", "Ljava/util/ArrayList;", true)
def tyX0 : Nat → FieldType := fun k => match k with
  | 0 => .int
  | _ => .object "java/util/ArrayList"
abbrev wsX00 : List Cond := u_ws RX0 TX0 2
theorem nmX0 : ∀ a, a < 2 → ∀ b, b < 2 → a ≠ b → (TX0 a).2.1 ≠ (TX0 b).2.1 := by decide +kernel
theorem tyX0_ok : ∀ k, k < 2 → parseFieldDescriptor (TX0 k).2.2.1 = some (tyX0 k) := by decide +kernel
abbrev cX0_init : ByteArray := prog_2_method_1_code
def yX0_init : MethodName := ⟨RX0, "<init>", "(I)V"⟩
def RX1 : String := "TurnpikeTrust$Bid"
def TX1 : u_T := fun k => match k with
  | 0 => ("TurnpikeTrust$Bid", "bidder", "LTurnpikeTrust$Farmer;", true)
  | 1 => ("TurnpikeTrust$Bid", "rent", "I", true)
  | _ => ("TurnpikeTrust$Bid", "surety", "I", true)
def tyX1 : Nat → FieldType := fun k => match k with
  | 0 => .object "TurnpikeTrust$Farmer"
  | 1 => .int
  | _ => .int
abbrev wsX10 : List Cond := u_ws RX1 TX1 3
theorem nmX1 : ∀ a, a < 3 → ∀ b, b < 3 → a ≠ b → (TX1 a).2.1 ≠ (TX1 b).2.1 := by decide +kernel
theorem tyX1_ok : ∀ k, k < 3 → parseFieldDescriptor (TX1 k).2.2.1 = some (tyX1 k) := by decide +kernel
abbrev cX1_init : ByteArray := prog_3_method_1_code
def yX1_init : MethodName := ⟨RX1, "<init>", "(LTurnpikeTrust$Farmer;II)V"⟩
abbrev cX1_isGood : ByteArray := prog_3_method_2_code
def yX1_isGood : MethodName := ⟨RX1, "isGood", "()Z"⟩
def RX2 : String := "TurnpikeTrust$Box"
def TX2 : u_T := fun k => match k with
  | 0 => ("TurnpikeTrust$Box", "held", "J", false)
  | 1 => ("TurnpikeTrust$Box", "lines", "I", false)
  | 2 => ("TurnpikeTrust$Box", "days", "[I", false)
  | 3 => ("TurnpikeTrust$Box", "kinds", "[I", false)
  | 4 => ("TurnpikeTrust$Box", "whos", "[I", false)
  | 5 => ("TurnpikeTrust$Box", "sums", "[J", false)
  | _ => ("TurnpikeTrust$Box", "heldAfter", "[J", false)
def tyX2 : Nat → FieldType := fun k => match k with
  | 0 => .long
  | 1 => .int
  | 2 => .array .int
  | 3 => .array .int
  | 4 => .array .int
  | 5 => .array .long
  | _ => .array .long
abbrev wsX20 : List Cond := u_ws RX2 TX2 7
theorem nmX2 : ∀ a, a < 7 → ∀ b, b < 7 → a ≠ b → (TX2 a).2.1 ≠ (TX2 b).2.1 := by decide +kernel
theorem tyX2_ok : ∀ k, k < 7 → parseFieldDescriptor (TX2 k).2.2.1 = some (tyX2 k) := by decide +kernel
abbrev cX2_init : ByteArray := prog_4_method_1_code
def yX2_init : MethodName := ⟨RX2, "<init>", "()V"⟩
abbrev cX2_change : ByteArray := prog_4_method_2_code
def yX2_change : MethodName := ⟨RX2, "change", "(IIIJ)V"⟩
abbrev cX2_makeRoom : ByteArray := prog_4_method_3_code
def yX2_makeRoom : MethodName := ⟨RX2, "makeRoom", "()V"⟩
abbrev cX2_told : ByteArray := prog_4_method_4_code
def yX2_told : MethodName := ⟨RX2, "told", "(II)J"⟩
abbrev cX2_heldBehind : ByteArray := prog_4_method_5_code
def yX2_heldBehind : MethodName := ⟨RX2, "heldBehind", "(I)J"⟩
def RX3 : String := "TurnpikeTrust$Clause"
def TX3 : u_T := fun k => match k with
  | 0 => ("TurnpikeTrust$Clause", "word", "I", true)
  | 1 => ("TurnpikeTrust$Clause", "manner", "I", false)
  | 2 => ("TurnpikeTrust$Clause", "first", "I", false)
  | 3 => ("TurnpikeTrust$Clause", "second", "I", false)
  | _ => ("TurnpikeTrust$Clause", "steps", "[I", false)
def tyX3 : Nat → FieldType := fun k => match k with
  | 0 => .int
  | 1 => .int
  | 2 => .int
  | 3 => .int
  | _ => .array .int
abbrev wsX30 : List Cond := u_ws RX3 TX3 5
theorem nmX3 : ∀ a, a < 5 → ∀ b, b < 5 → a ≠ b → (TX3 a).2.1 ≠ (TX3 b).2.1 := by decide +kernel
theorem tyX3_ok : ∀ k, k < 5 → parseFieldDescriptor (TX3 k).2.2.1 = some (tyX3 k) := by decide +kernel
abbrev cX3_init : ByteArray := prog_5_method_1_code
def yX3_init : MethodName := ⟨RX3, "<init>", "(I)V"⟩
abbrev cX3_holdsOf : ByteArray := prog_5_method_2_code
def yX3_holdsOf : MethodName := ⟨RX3, "holdsOf", "([I)Z"⟩
abbrev cX3_isTrue : ByteArray := prog_5_method_3_code
def yX3_isTrue : MethodName := ⟨RX3, "isTrue", "([IIII)Z"⟩
def RX4 : String := "TurnpikeTrust$Farmer"
def TX4 : u_T := fun k => match k with
  | 0 => ("TurnpikeTrust$Farmer", "number", "I", true)
  | _ => ("TurnpikeTrust$Farmer", "purse", "J", false)
def tyX4 : Nat → FieldType := fun k => match k with
  | 0 => .int
  | _ => .long
abbrev wsX40 : List Cond := u_ws RX4 TX4 2
theorem nmX4 : ∀ a, a < 2 → ∀ b, b < 2 → a ≠ b → (TX4 a).2.1 ≠ (TX4 b).2.1 := by decide +kernel
theorem tyX4_ok : ∀ k, k < 2 → parseFieldDescriptor (TX4 k).2.2.1 = some (tyX4 k) := by decide +kernel
abbrev cX4_init : ByteArray := prog_6_method_1_code
def yX4_init : MethodName := ⟨RX4, "<init>", "(II)V"⟩
def RX5 : String := "TurnpikeTrust$Gate"
def TX5 : u_T := fun k => match k with
  | 0 => ("TurnpikeTrust$Gate", "number", "I", true)
  | 1 => ("TurnpikeTrust$Gate", "road", "LTurnpikeTrust$Stretch;", true)
  | 2 => ("TurnpikeTrust$Gate", "bids", "Ljava/util/ArrayList;", true)
  | 3 => ("TurnpikeTrust$Gate", "passes", "I", false)
  | 4 => ("TurnpikeTrust$Gate", "tenant", "LTurnpikeTrust$Farmer;", false)
  | 5 => ("TurnpikeTrust$Gate", "rent", "I", false)
  | 6 => ("TurnpikeTrust$Gate", "surety", "I", false)
  | 7 => ("TurnpikeTrust$Gate", "dueDay", "I", false)
  | _ => ("TurnpikeTrust$Gate", "rentsLeft", "I", false)
def tyX5 : Nat → FieldType := fun k => match k with
  | 0 => .int
  | 1 => .object "TurnpikeTrust$Stretch"
  | 2 => .object "java/util/ArrayList"
  | 3 => .int
  | 4 => .object "TurnpikeTrust$Farmer"
  | 5 => .int
  | 6 => .int
  | 7 => .int
  | _ => .int
abbrev wsX50 : List Cond := u_ws RX5 TX5 9
theorem nmX5 : ∀ a, a < 9 → ∀ b, b < 9 → a ≠ b → (TX5 a).2.1 ≠ (TX5 b).2.1 := by decide +kernel
theorem tyX5_ok : ∀ k, k < 9 → parseFieldDescriptor (TX5 k).2.2.1 = some (tyX5 k) := by decide +kernel
abbrev cX5_init : ByteArray := prog_7_method_1_code
def yX5_init : MethodName := ⟨RX5, "<init>", "(ILTurnpikeTrust$Stretch;)V"⟩
abbrev cX5_bestBid : ByteArray := prog_7_method_2_code
def yX5_bestBid : MethodName := ⟨RX5, "bestBid", "()LTurnpikeTrust$Bid;"⟩
abbrev cX5_beginLease : ByteArray := prog_7_method_3_code
def yX5_beginLease : MethodName := ⟨RX5, "beginLease", "(LTurnpikeTrust$Bid;II)V"⟩
abbrev cX5_endLease : ByteArray := prog_7_method_4_code
def yX5_endLease : MethodName := ⟨RX5, "endLease", "()V"⟩
def RX6 : String := "TurnpikeTrust$Loan"
def TX6 : u_T := fun k => match k with
  | 0 => ("TurnpikeTrust$Loan", "rate", "I", true)
  | 1 => ("TurnpikeTrust$Loan", "rank", "I", true)
  | 2 => ("TurnpikeTrust$Loan", "sum", "I", false)
  | 3 => ("TurnpikeTrust$Loan", "due", "J", false)
  | 4 => ("TurnpikeTrust$Loan", "granted", "J", false)
  | _ => ("TurnpikeTrust$Loan", "rest", "J", false)
def tyX6 : Nat → FieldType := fun k => match k with
  | 0 => .int
  | 1 => .int
  | 2 => .int
  | 3 => .long
  | 4 => .long
  | _ => .long
abbrev wsX60 : List Cond := u_ws RX6 TX6 6
theorem nmX6 : ∀ a, a < 6 → ∀ b, b < 6 → a ≠ b → (TX6 a).2.1 ≠ (TX6 b).2.1 := by decide +kernel
theorem tyX6_ok : ∀ k, k < 6 → parseFieldDescriptor (TX6 k).2.2.1 = some (tyX6 k) := by decide +kernel
abbrev cX6_init : ByteArray := prog_8_method_1_code
def yX6_init : MethodName := ⟨RX6, "<init>", "(III)V"⟩
abbrev cX6_growDue : ByteArray := prog_8_method_2_code
def yX6_growDue : MethodName := ⟨RX6, "growDue", "()V"⟩
abbrev cX6_grantPart : ByteArray := prog_8_method_3_code
def yX6_grantPart : MethodName := ⟨RX6, "grantPart", "(JJ)V"⟩
def RX7 : String := "TurnpikeTrust$Reader"
def TX7 : u_T := fun k => match k with
  | 0 => ("TurnpikeTrust$Reader", "tape", "[B", true)
  | 1 => ("TurnpikeTrust$Reader", "tapeSize", "I", false)
  | 2 => ("TurnpikeTrust$Reader", "fault", "I", false)
  | 3 => ("TurnpikeTrust$Reader", "faultPlace", "I", false)
  | 4 => ("TurnpikeTrust$Reader", "length", "I", false)
  | 5 => ("TurnpikeTrust$Reader", "next", "I", false)
  | 6 => ("TurnpikeTrust$Reader", "token", "I", false)
  | 7 => ("TurnpikeTrust$Reader", "tokenStart", "I", false)
  | 8 => ("TurnpikeTrust$Reader", "number", "I", false)
  | 9 => ("TurnpikeTrust$Reader", "steps", "[I", true)
  | _ => ("TurnpikeTrust$Reader", "stepsUsed", "I", false)
def tyX7 : Nat → FieldType := fun k => match k with
  | 0 => .array .byte
  | 1 => .int
  | 2 => .int
  | 3 => .int
  | 4 => .int
  | 5 => .int
  | 6 => .int
  | 7 => .int
  | 8 => .int
  | 9 => .array .int
  | _ => .int
abbrev wsX70 : List Cond := u_ws RX7 TX7 11
theorem nmX7 : ∀ a, a < 11 → ∀ b, b < 11 → a ≠ b → (TX7 a).2.1 ≠ (TX7 b).2.1 := by decide +kernel
theorem tyX7_ok : ∀ k, k < 11 → parseFieldDescriptor (TX7 k).2.2.1 = some (tyX7 k) := by decide +kernel
abbrev cX7_init : ByteArray := prog_9_method_1_code
def yX7_init : MethodName := ⟨RX7, "<init>", "()V"⟩
abbrev cX7_append : ByteArray := prog_9_method_2_code
def yX7_append : MethodName := ⟨RX7, "append", "(I)V"⟩
abbrev cX7_readAct : ByteArray := prog_9_method_3_code
def yX7_readAct : MethodName := ⟨RX7, "readAct", "(LTurnpikeTrust$Act;I)Z"⟩
abbrev cX7_refuse : ByteArray := prog_9_method_4_code
def yX7_refuse : MethodName := ⟨RX7, "refuse", "(I)Z"⟩
abbrev cX7_readClause : ByteArray := prog_9_method_5_code
def yX7_readClause : MethodName := ⟨RX7, "readClause", "(LTurnpikeTrust$Act;)Z"⟩
abbrev cX7_readWhat : ByteArray := prog_9_method_6_code
def yX7_readWhat : MethodName := ⟨RX7, "readWhat", "(LTurnpikeTrust$Clause;)Z"⟩
abbrev cX7_readToll : ByteArray := prog_9_method_7_code
def yX7_readToll : MethodName := ⟨RX7, "readToll", "(LTurnpikeTrust$Clause;)Z"⟩
abbrev cX7_readTimes : ByteArray := prog_9_method_8_code
def yX7_readTimes : MethodName := ⟨RX7, "readTimes", "(LTurnpikeTrust$Clause;)Z"⟩
abbrev cX7_readManner : ByteArray := prog_9_method_9_code
def yX7_readManner : MethodName := ⟨RX7, "readManner", "(LTurnpikeTrust$Clause;II)V"⟩
abbrev cX7_readNumber : ByteArray := prog_9_method_10_code
def yX7_readNumber : MethodName := ⟨RX7, "readNumber", "(I)Z"⟩
abbrev cX7_readSign : ByteArray := prog_9_method_11_code
def yX7_readSign : MethodName := ⟨RX7, "readSign", "(I)Z"⟩
abbrev cX7_readIf : ByteArray := prog_9_method_12_code
def yX7_readIf : MethodName := ⟨RX7, "readIf", "()Z"⟩
abbrev cX7_readAny : ByteArray := prog_9_method_13_code
def yX7_readAny : MethodName := ⟨RX7, "readAny", "(I)Z"⟩
abbrev cX7_readBoth : ByteArray := prog_9_method_14_code
def yX7_readBoth : MethodName := ⟨RX7, "readBoth", "(I)Z"⟩
abbrev cX7_readOne : ByteArray := prog_9_method_15_code
def yX7_readOne : MethodName := ⟨RX7, "readOne", "(I)Z"⟩
abbrev cX7_readNested : ByteArray := prog_9_method_16_code
def yX7_readNested : MethodName := ⟨RX7, "readNested", "(I)Z"⟩
abbrev cX7_readKind : ByteArray := prog_9_method_17_code
def yX7_readKind : MethodName := ⟨RX7, "readKind", "()Z"⟩
abbrev cX7_readComparison : ByteArray := prog_9_method_18_code
def yX7_readComparison : MethodName := ⟨RX7, "readComparison", "(I)Z"⟩
abbrev cX7_addStep : ByteArray := prog_9_method_19_code
def yX7_addStep : MethodName := ⟨RX7, "addStep", "(III)V"⟩
abbrev cX7_advance : ByteArray := prog_9_method_20_code
def yX7_advance : MethodName := ⟨RX7, "advance", "()V"⟩
abbrev cX7_wordNumber : ByteArray := prog_9_method_21_code
def yX7_wordNumber : MethodName := ⟨RX7, "wordNumber", "(II)I"⟩
abbrev cX7_byteAt : ByteArray := prog_9_method_22_code
def yX7_byteAt : MethodName := ⟨RX7, "byteAt", "(I)I"⟩
abbrev cX7_isBlank : ByteArray := prog_9_method_23_code
def yX7_isBlank : MethodName := ⟨RX7, "isBlank", "(I)Z"⟩
abbrev cX7_isLetter : ByteArray := prog_9_method_24_code
def yX7_isLetter : MethodName := ⟨RX7, "isLetter", "(I)Z"⟩
abbrev cX7_isDigit : ByteArray := prog_9_method_25_code
def yX7_isDigit : MethodName := ⟨RX7, "isDigit", "(I)Z"⟩
def RX8 : String := "TurnpikeTrust$Reckoner"
def TX8 : u_T := fun k => match k with
  | 0 => ("TurnpikeTrust$Reckoner", "toll", "I", false)
  | 1 => ("TurnpikeTrust$Reckoner", "by", "I", false)
  | 2 => ("TurnpikeTrust$Reckoner", "facts", "[I", true)
  | 3 => ("TurnpikeTrust$Reckoner", "kept", "[I", true)
  | 4 => ("TurnpikeTrust$Reckoner", "keptTimes", "I", false)
  | 5 => ("TurnpikeTrust$Reckoner", "onceHere", "I", false)
  | _ => ("TurnpikeTrust$Reckoner", "onceAll", "I", false)
def tyX8 : Nat → FieldType := fun k => match k with
  | 0 => .int
  | 1 => .int
  | 2 => .array .int
  | 3 => .array .int
  | 4 => .int
  | 5 => .int
  | _ => .int
abbrev wsX80 : List Cond := u_ws RX8 TX8 7
theorem nmX8 : ∀ a, a < 7 → ∀ b, b < 7 → a ≠ b → (TX8 a).2.1 ≠ (TX8 b).2.1 := by decide +kernel
theorem tyX8_ok : ∀ k, k < 7 → parseFieldDescriptor (TX8 k).2.2.1 = some (tyX8 k) := by decide +kernel
abbrev cX8_init : ByteArray := prog_10_method_1_code
def yX8_init : MethodName := ⟨RX8, "<init>", "()V"⟩
abbrev cX8_reckon : ByteArray := prog_10_method_2_code
def yX8_reckon : MethodName := ⟨RX8, "reckon", "(LTurnpikeTrust$Act;LTurnpikeTrust$Traveller;II)V"⟩
abbrev cX8_learn : ByteArray := prog_10_method_3_code
def yX8_learn : MethodName := ⟨RX8, "learn", "(LTurnpikeTrust$Traveller;II)V"⟩
abbrev cX8_note : ByteArray := prog_10_method_4_code
def yX8_note : MethodName := ⟨RX8, "note", "(II)V"⟩
abbrev cX8_keep : ByteArray := prog_10_method_5_code
def yX8_keep : MethodName := ⟨RX8, "keep", "(LTurnpikeTrust$Clause;I)V"⟩
abbrev cX8_charge : ByteArray := prog_10_method_6_code
def yX8_charge : MethodName := ⟨RX8, "charge", "(LTurnpikeTrust$Act;ILTurnpikeTrust$Traveller;II)V"⟩
abbrev cX8_ahead : ByteArray := prog_10_method_7_code
def yX8_ahead : MethodName := ⟨RX8, "ahead", "(LTurnpikeTrust$Clause;LTurnpikeTrust$Traveller;)J"⟩
abbrev cX8_timesKept : ByteArray := prog_10_method_8_code
def yX8_timesKept : MethodName := ⟨RX8, "timesKept", "(LTurnpikeTrust$Act;J)J"⟩
def RX9 : String := "TurnpikeTrust$Stretch"
def TX9 : u_T := fun k => match k with
  | 0 => ("TurnpikeTrust$Stretch", "number", "I", true)
  | 1 => ("TurnpikeTrust$Stretch", "price", "I", true)
  | _ => ("TurnpikeTrust$Stretch", "worn", "J", false)
def tyX9 : Nat → FieldType := fun k => match k with
  | 0 => .int
  | 1 => .int
  | _ => .long
abbrev wsX90 : List Cond := u_ws RX9 TX9 3
theorem nmX9 : ∀ a, a < 3 → ∀ b, b < 3 → a ≠ b → (TX9 a).2.1 ≠ (TX9 b).2.1 := by decide +kernel
theorem tyX9_ok : ∀ k, k < 3 → parseFieldDescriptor (TX9 k).2.2.1 = some (tyX9 k) := by decide +kernel
abbrev cX9_init : ByteArray := prog_11_method_1_code
def yX9_init : MethodName := ⟨RX9, "<init>", "(II)V"⟩
abbrev cX9_loadTakes : ByteArray := prog_11_method_2_code
def yX9_loadTakes : MethodName := ⟨RX9, "loadTakes", "()J"⟩
abbrev cX9_isWorthMoreThan : ByteArray := prog_11_method_3_code
def yX9_isWorthMoreThan : MethodName := ⟨RX9, "isWorthMoreThan", "(LTurnpikeTrust$Stretch;)Z"⟩
def RX10 : String := "TurnpikeTrust$Traveller"
def TX10 : u_T := fun k => match k with
  | 0 => ("TurnpikeTrust$Traveller", "kind", "I", true)
  | 1 => ("TurnpikeTrust$Traveller", "wheels", "I", true)
  | 2 => ("TurnpikeTrust$Traveller", "beasts", "I", true)
  | 3 => ("TurnpikeTrust$Traveller", "bits", "I", true)
  | 4 => ("TurnpikeTrust$Traveller", "latestPaid", "I", false)
  | 5 => ("TurnpikeTrust$Traveller", "passed", "[I", true)
  | _ => ("TurnpikeTrust$Traveller", "paid", "[I", true)
def tyX10 : Nat → FieldType := fun k => match k with
  | 0 => .int
  | 1 => .int
  | 2 => .int
  | 3 => .int
  | 4 => .int
  | 5 => .array .int
  | _ => .array .int
abbrev wsX100 : List Cond := u_ws RX10 TX10 7
theorem nmX10 : ∀ a, a < 7 → ∀ b, b < 7 → a ≠ b → (TX10 a).2.1 ≠ (TX10 b).2.1 := by decide +kernel
theorem tyX10_ok : ∀ k, k < 7 → parseFieldDescriptor (TX10 k).2.2.1 = some (tyX10 k) := by decide +kernel
abbrev cX10_init : ByteArray := prog_12_method_1_code
def yX10_init : MethodName := ⟨RX10, "<init>", "(IIII)V"⟩
abbrev cX10_passedOn : ByteArray := prog_12_method_2_code
def yX10_passedOn : MethodName := ⟨RX10, "passedOn", "(I)I"⟩
abbrev cX10_paidOn : ByteArray := prog_12_method_3_code
def yX10_paidOn : MethodName := ⟨RX10, "paidOn", "(I)I"⟩
abbrev cX10_noteAt : ByteArray := prog_12_method_4_code
def yX10_noteAt : MethodName := ⟨RX10, "noteAt", "(III)V"⟩
abbrev cX10_harm : ByteArray := prog_12_method_5_code
def yX10_harm : MethodName := ⟨RX10, "harm", "()I"⟩
def RX11 : String := "TurnpikeTrust"
def TX11 : u_T := fun k => match k with
  | 0 => ("TurnpikeTrust", "reader", "LTurnpikeTrust$Reader;", true)
  | 1 => ("TurnpikeTrust", "reckoner", "LTurnpikeTrust$Reckoner;", true)
  | 2 => ("TurnpikeTrust", "chest", "LTurnpikeTrust$Box;", true)
  | 3 => ("TurnpikeTrust", "acts", "Ljava/util/ArrayList;", true)
  | 4 => ("TurnpikeTrust", "stretches", "Ljava/util/ArrayList;", true)
  | 5 => ("TurnpikeTrust", "gates", "Ljava/util/ArrayList;", true)
  | 6 => ("TurnpikeTrust", "travellers", "Ljava/util/ArrayList;", true)
  | 7 => ("TurnpikeTrust", "farmers", "Ljava/util/ArrayList;", true)
  | 8 => ("TurnpikeTrust", "loans", "Ljava/util/ArrayList;", true)
  | 9 => ("TurnpikeTrust", "today", "I", false)
  | 10 => ("TurnpikeTrust", "firstDryDay", "I", false)
  | _ => ("TurnpikeTrust", "latestClause", "I", false)
def tyX11 : Nat → FieldType := fun k => match k with
  | 0 => .object "TurnpikeTrust$Reader"
  | 1 => .object "TurnpikeTrust$Reckoner"
  | 2 => .object "TurnpikeTrust$Box"
  | 3 => .object "java/util/ArrayList"
  | 4 => .object "java/util/ArrayList"
  | 5 => .object "java/util/ArrayList"
  | 6 => .object "java/util/ArrayList"
  | 7 => .object "java/util/ArrayList"
  | 8 => .object "java/util/ArrayList"
  | 9 => .int
  | 10 => .int
  | _ => .int
abbrev wsX110 : List Cond := u_ws RX11 TX11 12
theorem nmX11 : ∀ a, a < 12 → ∀ b, b < 12 → a ≠ b → (TX11 a).2.1 ≠ (TX11 b).2.1 := by decide +kernel
theorem tyX11_ok : ∀ k, k < 12 → parseFieldDescriptor (TX11 k).2.2.1 = some (tyX11 k) := by decide +kernel
abbrev cX11_init : ByteArray := prog_1_method_1_code
def yX11_init : MethodName := ⟨RX11, "<init>", "()V"⟩
abbrev cX11_feed : ByteArray := prog_1_method_2_code
def yX11_feed : MethodName := ⟨RX11, "feed", "(IIIII)I"⟩
abbrev cX11_act : ByteArray := prog_1_method_3_code
def yX11_act : MethodName := ⟨RX11, "act", "(II)I"⟩
abbrev cX11_fault : ByteArray := prog_1_method_4_code
def yX11_fault : MethodName := ⟨RX11, "fault", "()I"⟩
abbrev cX11_stretch : ByteArray := prog_1_method_5_code
def yX11_stretch : MethodName := ⟨RX11, "stretch", "(I)I"⟩
abbrev cX11_gate : ByteArray := prog_1_method_6_code
def yX11_gate : MethodName := ⟨RX11, "gate", "(I)I"⟩
abbrev cX11_traveller : ByteArray := prog_1_method_7_code
def yX11_traveller : MethodName := ⟨RX11, "traveller", "(IIII)I"⟩
abbrev cX11_pass : ByteArray := prog_1_method_8_code
def yX11_pass : MethodName := ⟨RX11, "pass", "(II)I"⟩
abbrev cX11_clause : ByteArray := prog_1_method_9_code
def yX11_clause : MethodName := ⟨RX11, "clause", "()I"⟩
abbrev cX11_asked : ByteArray := prog_1_method_10_code
def yX11_asked : MethodName := ⟨RX11, "asked", "(III)I"⟩
abbrev cX11_force : ByteArray := prog_1_method_11_code
def yX11_force : MethodName := ⟨RX11, "force", "(I)I"⟩
abbrev cX11_wait : ByteArray := prog_1_method_12_code
def yX11_wait : MethodName := ⟨RX11, "wait", "(I)I"⟩
abbrev cX11_rain : ByteArray := prog_1_method_13_code
def yX11_rain : MethodName := ⟨RX11, "rain", "(I)V"⟩
abbrev cX11_mend : ByteArray := prog_1_method_14_code
def yX11_mend : MethodName := ⟨RX11, "mend", "(I)I"⟩
abbrev cX11_farmer : ByteArray := prog_1_method_15_code
def yX11_farmer : MethodName := ⟨RX11, "farmer", "(I)I"⟩
abbrev cX11_bid : ByteArray := prog_1_method_16_code
def yX11_bid : MethodName := ⟨RX11, "bid", "(IIII)I"⟩
abbrev cX11_let : ByteArray := prog_1_method_17_code
def yX11_let : MethodName := ⟨RX11, "let", "(II)I"⟩
abbrev cX11_gateTold : ByteArray := prog_1_method_18_code
def yX11_gateTold : MethodName := ⟨RX11, "gateTold", "(II)I"⟩
abbrev cX11_borrow : ByteArray := prog_1_method_19_code
def yX11_borrow : MethodName := ⟨RX11, "borrow", "(III)I"⟩
abbrev cX11_repay : ByteArray := prog_1_method_20_code
def yX11_repay : MethodName := ⟨RX11, "repay", "(II)I"⟩
abbrev cX11_loan : ByteArray := prog_1_method_21_code
def yX11_loan : MethodName := ⟨RX11, "loan", "(II)J"⟩
abbrev cX11_money : ByteArray := prog_1_method_22_code
def yX11_money : MethodName := ⟨RX11, "money", "(I)J"⟩
abbrev cX11_wear : ByteArray := prog_1_method_23_code
def yX11_wear : MethodName := ⟨RX11, "wear", "(I)J"⟩
abbrev cX11_box : ByteArray := prog_1_method_24_code
def yX11_box : MethodName := ⟨RX11, "box", "(I)J"⟩
abbrev cX11_journal : ByteArray := prog_1_method_25_code
def yX11_journal : MethodName := ⟨RX11, "journal", "(II)J"⟩
abbrev cX11_count : ByteArray := prog_1_method_26_code
def yX11_count : MethodName := ⟨RX11, "count", "(I)I"⟩
abbrev cX11_isWithin : ByteArray := prog_1_method_27_code
def yX11_isWithin : MethodName := ⟨RX11, "isWithin", "(III)Z"⟩
abbrev cX11_rainLeft : ByteArray := prog_1_method_28_code
def yX11_rainLeft : MethodName := ⟨RX11, "rainLeft", "()I"⟩
abbrev cX11_actOn : ByteArray := prog_1_method_29_code
def yX11_actOn : MethodName := ⟨RX11, "actOn", "(I)I"⟩
abbrev cX11_takeToll : ByteArray := prog_1_method_30_code
def yX11_takeToll : MethodName := ⟨RX11, "takeToll", "(ILTurnpikeTrust$Gate;I)V"⟩
abbrev cX11_worthMost : ByteArray := prog_1_method_31_code
def yX11_worthMost : MethodName := ⟨RX11, "worthMost", "()LTurnpikeTrust$Stretch;"⟩
abbrev cX11_moveOn : ByteArray := prog_1_method_32_code
def yX11_moveOn : MethodName := ⟨RX11, "moveOn", "()V"⟩
abbrev cX11_keepLease : ByteArray := prog_1_method_33_code
def yX11_keepLease : MethodName := ⟨RX11, "keepLease", "(LTurnpikeTrust$Gate;)V"⟩
abbrev cX11_payInterest : ByteArray := prog_1_method_34_code
def yX11_payInterest : MethodName := ⟨RX11, "payInterest", "()V"⟩
abbrev cX11_dueOf : ByteArray := prog_1_method_35_code
def yX11_dueOf : MethodName := ⟨RX11, "dueOf", "(I)J"⟩
abbrev cX11_grantAll : ByteArray := prog_1_method_36_code
def yX11_grantAll : MethodName := ⟨RX11, "grantAll", "(I)V"⟩
abbrev cX11_grantParts : ByteArray := prog_1_method_37_code
def yX11_grantParts : MethodName := ⟨RX11, "grantParts", "(IJ)V"⟩
abbrev cX11_mostCut : ByteArray := prog_1_method_38_code
def yX11_mostCut : MethodName := ⟨RX11, "mostCut", "(I)LTurnpikeTrust$Loan;"⟩
abbrev cX11_payGranted : ByteArray := prog_1_method_39_code
def yX11_payGranted : MethodName := ⟨RX11, "payGranted", "(I)V"⟩
def RX12 : String := "TurnpikeTrustModel"
def TX12 : u_T := fun k => match k with
  | 0 => ("TurnpikeTrustModel", "thrown", "I", false)
  | 1 => ("TurnpikeTrustModel", "tape", "[B", true)
  | 2 => ("TurnpikeTrustModel", "taped", "I", false)
  | 3 => ("TurnpikeTrustModel", "size", "I", false)
  | 4 => ("TurnpikeTrustModel", "at", "I", false)
  | 5 => ("TurnpikeTrustModel", "fault", "I", false)
  | 6 => ("TurnpikeTrustModel", "place", "I", false)
  | 7 => ("TurnpikeTrustModel", "open", "I", false)
  | 8 => ("TurnpikeTrustModel", "clauses", "[I", true)
  | 9 => ("TurnpikeTrustModel", "since", "[I", true)
  | 10 => ("TurnpikeTrustModel", "sort", "[I", true)
  | 11 => ("TurnpikeTrustModel", "first", "[I", true)
  | 12 => ("TurnpikeTrustModel", "second", "[I", true)
  | 13 => ("TurnpikeTrustModel", "codeFrom", "[I", true)
  | 14 => ("TurnpikeTrustModel", "codeTo", "[I", true)
  | 15 => ("TurnpikeTrustModel", "code", "[I", false)
  | 16 => ("TurnpikeTrustModel", "codeNumber", "[I", false)
  | 17 => ("TurnpikeTrustModel", "codes", "I", false)
  | 18 => ("TurnpikeTrustModel", "acts", "I", false)
  | 19 => ("TurnpikeTrustModel", "kinds", "[I", true)
  | 20 => ("TurnpikeTrustModel", "wheels", "[I", true)
  | 21 => ("TurnpikeTrustModel", "beasts", "[I", true)
  | 22 => ("TurnpikeTrustModel", "bits", "[I", true)
  | 23 => ("TurnpikeTrustModel", "passedOn", "[I", true)
  | 24 => ("TurnpikeTrustModel", "paidOn", "[I", true)
  | 25 => ("TurnpikeTrustModel", "travellers", "I", false)
  | 26 => ("TurnpikeTrustModel", "prices", "[I", true)
  | 27 => ("TurnpikeTrustModel", "wears", "[J", true)
  | 28 => ("TurnpikeTrustModel", "stretches", "I", false)
  | 29 => ("TurnpikeTrustModel", "onStretch", "[I", true)
  | 30 => ("TurnpikeTrustModel", "passes", "[I", true)
  | 31 => ("TurnpikeTrustModel", "gates", "I", false)
  | 32 => ("TurnpikeTrustModel", "today", "I", false)
  | 33 => ("TurnpikeTrustModel", "rains", "I", false)
  | 34 => ("TurnpikeTrustModel", "pile", "[Z", true)
  | 35 => ("TurnpikeTrustModel", "by", "I", false)
  | 36 => ("TurnpikeTrustModel", "keptTimes", "[I", true)
  | 37 => ("TurnpikeTrustModel", "lastBy", "I", false)
  | 38 => ("TurnpikeTrustModel", "lineDay", "[I", false)
  | 39 => ("TurnpikeTrustModel", "lineKind", "[I", false)
  | 40 => ("TurnpikeTrustModel", "lineWho", "[I", false)
  | 41 => ("TurnpikeTrustModel", "lineSum", "[I", false)
  | 42 => ("TurnpikeTrustModel", "lines", "I", false)
  | 43 => ("TurnpikeTrustModel", "box", "J", false)
  | 44 => ("TurnpikeTrustModel", "money", "[J", true)
  | 45 => ("TurnpikeTrustModel", "farmers", "I", false)
  | 46 => ("TurnpikeTrustModel", "bids", "[I", true)
  | 47 => ("TurnpikeTrustModel", "bidFarmer", "[I", true)
  | 48 => ("TurnpikeTrustModel", "bidRent", "[I", true)
  | 49 => ("TurnpikeTrustModel", "bidSurety", "[I", true)
  | 50 => ("TurnpikeTrustModel", "leased", "[I", true)
  | 51 => ("TurnpikeTrustModel", "rent", "[I", true)
  | 52 => ("TurnpikeTrustModel", "surety", "[I", true)
  | 53 => ("TurnpikeTrustModel", "due", "[I", true)
  | 54 => ("TurnpikeTrustModel", "left", "[I", true)
  | 55 => ("TurnpikeTrustModel", "sums", "[I", true)
  | 56 => ("TurnpikeTrustModel", "rates", "[I", true)
  | 57 => ("TurnpikeTrustModel", "ranks", "[I", true)
  | 58 => ("TurnpikeTrustModel", "dues", "[J", true)
  | 59 => ("TurnpikeTrustModel", "gets", "[J", true)
  | 60 => ("TurnpikeTrustModel", "rests", "[J", true)
  | _ => ("TurnpikeTrustModel", "loans", "I", false)
def tyX12 : Nat → FieldType := fun k => match k with
  | 0 => .int
  | 1 => .array .byte
  | 2 => .int
  | 3 => .int
  | 4 => .int
  | 5 => .int
  | 6 => .int
  | 7 => .int
  | 8 => .array .int
  | 9 => .array .int
  | 10 => .array .int
  | 11 => .array .int
  | 12 => .array .int
  | 13 => .array .int
  | 14 => .array .int
  | 15 => .array .int
  | 16 => .array .int
  | 17 => .int
  | 18 => .int
  | 19 => .array .int
  | 20 => .array .int
  | 21 => .array .int
  | 22 => .array .int
  | 23 => .array .int
  | 24 => .array .int
  | 25 => .int
  | 26 => .array .int
  | 27 => .array .long
  | 28 => .int
  | 29 => .array .int
  | 30 => .array .int
  | 31 => .int
  | 32 => .int
  | 33 => .int
  | 34 => .array .boolean
  | 35 => .int
  | 36 => .array .int
  | 37 => .int
  | 38 => .array .int
  | 39 => .array .int
  | 40 => .array .int
  | 41 => .array .int
  | 42 => .int
  | 43 => .long
  | 44 => .array .long
  | 45 => .int
  | 46 => .array .int
  | 47 => .array .int
  | 48 => .array .int
  | 49 => .array .int
  | 50 => .array .int
  | 51 => .array .int
  | 52 => .array .int
  | 53 => .array .int
  | 54 => .array .int
  | 55 => .array .int
  | 56 => .array .int
  | 57 => .array .int
  | 58 => .array .long
  | 59 => .array .long
  | 60 => .array .long
  | _ => .int
abbrev wsX120 : List Cond := u_ws RX12 TX12 62
theorem nmX12 : ∀ a, a < 62 → ∀ b, b < 62 → a ≠ b → (TX12 a).2.1 ≠ (TX12 b).2.1 := by decide +kernel
theorem tyX12_ok : ∀ k, k < 62 → parseFieldDescriptor (TX12 k).2.2.1 = some (tyX12 k) := by decide +kernel
abbrev cX12_init : ByteArray := prog_14_method_1_code
def yX12_init : MethodName := ⟨RX12, "<init>", "()V"⟩
abbrev cX12_thrown : ByteArray := prog_14_method_2_code
def yX12_thrown : MethodName := ⟨RX12, "thrown", "()I"⟩
abbrev cX12_bad : ByteArray := prog_14_method_3_code
def yX12_bad : MethodName := ⟨RX12, "bad", "(ZI)Z"⟩
abbrev cX12_feed : ByteArray := prog_14_method_4_code
def yX12_feed : MethodName := ⟨RX12, "feed", "(IIIII)I"⟩
abbrev cX12_byteAt : ByteArray := prog_14_method_5_code
def yX12_byteAt : MethodName := ⟨RX12, "byteAt", "(I)I"⟩
abbrev cX12_blanks : ByteArray := prog_14_method_6_code
def yX12_blanks : MethodName := ⟨RX12, "blanks", "()V"⟩
abbrev cX12_isSmall : ByteArray := prog_14_method_7_code
def yX12_isSmall : MethodName := ⟨RX12, "isSmall", "(I)Z"⟩
abbrev cX12_isDigit : ByteArray := prog_14_method_8_code
def yX12_isDigit : MethodName := ⟨RX12, "isDigit", "(I)Z"⟩
abbrev cX12_wrong : ByteArray := prog_14_method_9_code
def yX12_wrong : MethodName := ⟨RX12, "wrong", "(II)Z"⟩
abbrev cX12_isWord : ByteArray := prog_14_method_10_code
def yX12_isWord : MethodName := ⟨RX12, "isWord", "(Ljava/lang/String;)Z"⟩
abbrev cX12_eat : ByteArray := prog_14_method_11_code
def yX12_eat : MethodName := ⟨RX12, "eat", "(Ljava/lang/String;)Z"⟩
abbrev cX12_isSign : ByteArray := prog_14_method_12_code
def yX12_isSign : MethodName := ⟨RX12, "isSign", "(I)Z"⟩
abbrev cX12_need : ByteArray := prog_14_method_13_code
def yX12_need : MethodName := ⟨RX12, "need", "(I)Z"⟩
abbrev cX12_number : ByteArray := prog_14_method_14_code
def yX12_number : MethodName := ⟨RX12, "number", "(Z)I"⟩
abbrev cX12_emits : ByteArray := prog_14_method_15_code
def yX12_emits : MethodName := ⟨RX12, "emits", "(II)V"⟩
abbrev cX12_longer : ByteArray := prog_14_method_16_code
def yX12_longer : MethodName := ⟨RX12, "longer", "([I)[I"⟩
abbrev cX12_condition : ByteArray := prog_14_method_17_code
def yX12_condition : MethodName := ⟨RX12, "condition", "()V"⟩
abbrev cX12_joined : ByteArray := prog_14_method_18_code
def yX12_joined : MethodName := ⟨RX12, "joined", "()V"⟩
abbrev cX12_opens : ByteArray := prog_14_method_19_code
def yX12_opens : MethodName := ⟨RX12, "opens", "()Z"⟩
abbrev cX12_one : ByteArray := prog_14_method_20_code
def yX12_one : MethodName := ⟨RX12, "one", "()V"⟩
abbrev cX12_relation : ByteArray := prog_14_method_21_code
def yX12_relation : MethodName := ⟨RX12, "relation", "(I)V"⟩
abbrev cX12_kind : ByteArray := prog_14_method_22_code
def yX12_kind : MethodName := ⟨RX12, "kind", "()V"⟩
abbrev cX12_kindName : ByteArray := prog_14_method_23_code
def yX12_kindName : MethodName := ⟨RX12, "kindName", "(I)Ljava/lang/String;"⟩
abbrev cX12_clause : ByteArray := prog_14_method_24_code
def yX12_clause : MethodName := ⟨RX12, "clause", "(I)V"⟩
abbrev cX12_act : ByteArray := prog_14_method_25_code
def yX12_act : MethodName := ⟨RX12, "act", "(II)I"⟩
abbrev cX12_fault : ByteArray := prog_14_method_26_code
def yX12_fault : MethodName := ⟨RX12, "fault", "()I"⟩
abbrev cX12_forceOf : ByteArray := prog_14_method_27_code
def yX12_forceOf : MethodName := ⟨RX12, "forceOf", "(I)I"⟩
abbrev cX12_force : ByteArray := prog_14_method_28_code
def yX12_force : MethodName := ⟨RX12, "force", "(I)I"⟩
abbrev cX12_stretch : ByteArray := prog_14_method_29_code
def yX12_stretch : MethodName := ⟨RX12, "stretch", "(I)I"⟩
abbrev cX12_gate : ByteArray := prog_14_method_30_code
def yX12_gate : MethodName := ⟨RX12, "gate", "(I)I"⟩
abbrev cX12_traveller : ByteArray := prog_14_method_31_code
def yX12_traveller : MethodName := ⟨RX12, "traveller", "(IIII)I"⟩
abbrev cX12_isSo : ByteArray := prog_14_method_32_code
def yX12_isSo : MethodName := ⟨RX12, "isSo", "(III)Z"⟩
abbrev cX12_holds : ByteArray := prog_14_method_33_code
def yX12_holds : MethodName := ⟨RX12, "holds", "(III)Z"⟩
abbrev cX12_single : ByteArray := prog_14_method_34_code
def yX12_single : MethodName := ⟨RX12, "single", "(IIII)Z"⟩
abbrev cX12_paidAnywhere : ByteArray := prog_14_method_35_code
def yX12_paidAnywhere : MethodName := ⟨RX12, "paidAnywhere", "(I)Z"⟩
abbrev cX12_toll : ByteArray := prog_14_method_36_code
def yX12_toll : MethodName := ⟨RX12, "toll", "(III)I"⟩
abbrev cX12_paid : ByteArray := prog_14_method_37_code
def yX12_paid : MethodName := ⟨RX12, "paid", "(IIIIII)I"⟩
abbrev cX12_isPass : ByteArray := prog_14_method_38_code
def yX12_isPass : MethodName := ⟨RX12, "isPass", "(II)Z"⟩
abbrev cX12_pass : ByteArray := prog_14_method_39_code
def yX12_pass : MethodName := ⟨RX12, "pass", "(II)I"⟩
abbrev cX12_clause_ : ByteArray := prog_14_method_40_code
def yX12_clause_ : MethodName := ⟨RX12, "clause", "()I"⟩
abbrev cX12_asked : ByteArray := prog_14_method_41_code
def yX12_asked : MethodName := ⟨RX12, "asked", "(III)I"⟩
abbrev cX12_line : ByteArray := prog_14_method_42_code
def yX12_line : MethodName := ⟨RX12, "line", "(IIJ)V"⟩
abbrev cX12_farmer : ByteArray := prog_14_method_43_code
def yX12_farmer : MethodName := ⟨RX12, "farmer", "(I)I"⟩
abbrev cX12_isSum : ByteArray := prog_14_method_44_code
def yX12_isSum : MethodName := ⟨RX12, "isSum", "(I)Z"⟩
abbrev cX12_bid : ByteArray := prog_14_method_45_code
def yX12_bid : MethodName := ⟨RX12, "bid", "(IIII)I"⟩
abbrev cX12_let : ByteArray := prog_14_method_46_code
def yX12_let : MethodName := ⟨RX12, "let", "(II)I"⟩
abbrev cX12_rentDue : ByteArray := prog_14_method_47_code
def yX12_rentDue : MethodName := ⟨RX12, "rentDue", "(I)V"⟩
abbrev cX12_gateTold : ByteArray := prog_14_method_48_code
def yX12_gateTold : MethodName := ⟨RX12, "gateTold", "(II)I"⟩
abbrev cX12_borrow : ByteArray := prog_14_method_49_code
def yX12_borrow : MethodName := ⟨RX12, "borrow", "(III)I"⟩
abbrev cX12_repay : ByteArray := prog_14_method_50_code
def yX12_repay : MethodName := ⟨RX12, "repay", "(II)I"⟩
abbrev cX12_loan : ByteArray := prog_14_method_51_code
def yX12_loan : MethodName := ⟨RX12, "loan", "(II)J"⟩
abbrev cX12_interest : ByteArray := prog_14_method_52_code
def yX12_interest : MethodName := ⟨RX12, "interest", "()V"⟩
abbrev cX12_rank : ByteArray := prog_14_method_53_code
def yX12_rank : MethodName := ⟨RX12, "rank", "(I)V"⟩
abbrev cX12_wait : ByteArray := prog_14_method_54_code
def yX12_wait : MethodName := ⟨RX12, "wait", "(I)I"⟩
abbrev cX12_rain : ByteArray := prog_14_method_55_code
def yX12_rain : MethodName := ⟨RX12, "rain", "(I)V"⟩
abbrev cX12_mend : ByteArray := prog_14_method_56_code
def yX12_mend : MethodName := ⟨RX12, "mend", "(I)I"⟩
abbrev cX12_takes : ByteArray := prog_14_method_57_code
def yX12_takes : MethodName := ⟨RX12, "takes", "(I)J"⟩
abbrev cX12_no : ByteArray := prog_14_method_58_code
def yX12_no : MethodName := ⟨RX12, "no", "(II)Z"⟩
abbrev cX12_money : ByteArray := prog_14_method_59_code
def yX12_money : MethodName := ⟨RX12, "money", "(I)J"⟩
abbrev cX12_wear : ByteArray := prog_14_method_60_code
def yX12_wear : MethodName := ⟨RX12, "wear", "(I)J"⟩
abbrev cX12_box : ByteArray := prog_14_method_61_code
def yX12_box : MethodName := ⟨RX12, "box", "(I)J"⟩
abbrev cX12_journal : ByteArray := prog_14_method_62_code
def yX12_journal : MethodName := ⟨RX12, "journal", "(II)J"⟩
abbrev cX12_count : ByteArray := prog_14_method_63_code
def yX12_count : MethodName := ⟨RX12, "count", "(I)I"⟩
def RJx145de : String := "java/io/Serializable"
def TJx145de : u_T := fun k => match k with
  | _ => ("", "", "", false)
def tyJx145de : Nat → FieldType := fun k => match k with
  | _ => .int
abbrev wsJx145de0 : List Cond := u_ws RJx145de TJx145de 0
theorem nmJx145de : ∀ a, a < 0 → ∀ b, b < 0 → a ≠ b → (TJx145de a).2.1 ≠ (TJx145de b).2.1 := by decide +kernel
theorem tyJx145de_ok : ∀ k, k < 0 → parseFieldDescriptor (TJx145de k).2.2.1 = some (tyJx145de k) := by decide +kernel
def RJx9f9b0 : String := "java/lang/CharSequence"
def TJx9f9b0 : u_T := fun k => match k with
  | _ => ("", "", "", false)
def tyJx9f9b0 : Nat → FieldType := fun k => match k with
  | _ => .int
abbrev wsJx9f9b00 : List Cond := u_ws RJx9f9b0 TJx9f9b0 0
theorem nmJx9f9b0 : ∀ a, a < 0 → ∀ b, b < 0 → a ≠ b → (TJx9f9b0 a).2.1 ≠ (TJx9f9b0 b).2.1 := by decide +kernel
theorem tyJx9f9b0_ok : ∀ k, k < 0 → parseFieldDescriptor (TJx9f9b0 k).2.2.1 = some (tyJx9f9b0 k) := by decide +kernel
def RJ11 : String := "java/lang/Character"
def TJ11 : u_T := fun k => match k with
  | _ => ("", "", "", false)
def tyJ11 : Nat → FieldType := fun k => match k with
  | _ => .int
abbrev wsJ110 : List Cond := u_ws RJ11 TJ11 0
theorem nmJ11 : ∀ a, a < 0 → ∀ b, b < 0 → a ≠ b → (TJ11 a).2.1 ≠ (TJ11 b).2.1 := by decide +kernel
theorem tyJ11_ok : ∀ k, k < 0 → parseFieldDescriptor (TJ11 k).2.2.1 = some (tyJ11 k) := by decide +kernel
abbrev cJ11_isValidCodePoint_9a6ad : ByteArray := prog_17_method_11_code
def yJ11_isValidCodePoint_9a6ad : MethodName := ⟨RJ11, "isValidCodePoint", "(I)Z"⟩
abbrev cJ11_highSurrogate_5068e : ByteArray := prog_17_method_28_code
def yJ11_highSurrogate_5068e : MethodName := ⟨RJ11, "highSurrogate", "(I)C"⟩
abbrev cJ11_lowSurrogate_5068e : ByteArray := prog_17_method_29_code
def yJ11_lowSurrogate_5068e : MethodName := ⟨RJ11, "lowSurrogate", "(I)C"⟩
def RJx8e188 : String := "java/lang/Cloneable"
def TJx8e188 : u_T := fun k => match k with
  | _ => ("", "", "", false)
def tyJx8e188 : Nat → FieldType := fun k => match k with
  | _ => .int
abbrev wsJx8e1880 : List Cond := u_ws RJx8e188 TJx8e188 0
theorem nmJx8e188 : ∀ a, a < 0 → ∀ b, b < 0 → a ≠ b → (TJx8e188 a).2.1 ≠ (TJx8e188 b).2.1 := by decide +kernel
theorem tyJx8e188_ok : ∀ k, k < 0 → parseFieldDescriptor (TJx8e188 k).2.2.1 = some (tyJx8e188 k) := by decide +kernel
def RJxb160c : String := "java/lang/Comparable"
def TJxb160c : u_T := fun k => match k with
  | _ => ("", "", "", false)
def tyJxb160c : Nat → FieldType := fun k => match k with
  | _ => .int
abbrev wsJxb160c0 : List Cond := u_ws RJxb160c TJxb160c 0
theorem nmJxb160c : ∀ a, a < 0 → ∀ b, b < 0 → a ≠ b → (TJxb160c a).2.1 ≠ (TJxb160c b).2.1 := by decide +kernel
theorem tyJxb160c_ok : ∀ k, k < 0 → parseFieldDescriptor (TJxb160c k).2.2.1 = some (tyJxb160c k) := by decide +kernel
def RJxab1ab : String := "java/lang/Iterable"
def TJxab1ab : u_T := fun k => match k with
  | _ => ("", "", "", false)
def tyJxab1ab : Nat → FieldType := fun k => match k with
  | _ => .int
abbrev wsJxab1ab0 : List Cond := u_ws RJxab1ab TJxab1ab 0
theorem nmJxab1ab : ∀ a, a < 0 → ∀ b, b < 0 → a ≠ b → (TJxab1ab a).2.1 ≠ (TJxab1ab b).2.1 := by decide +kernel
theorem tyJxab1ab_ok : ∀ k, k < 0 → parseFieldDescriptor (TJxab1ab k).2.2.1 = some (tyJxab1ab k) := by decide +kernel
def RJ9 : String := "java/lang/Math"
def TJ9 : u_T := fun k => match k with
  | _ => ("", "", "", false)
def tyJ9 : Nat → FieldType := fun k => match k with
  | _ => .int
abbrev wsJ90 : List Cond := u_ws RJ9 TJ9 0
theorem nmJ9 : ∀ a, a < 0 → ∀ b, b < 0 → a ≠ b → (TJ9 a).2.1 ≠ (TJ9 b).2.1 := by decide +kernel
theorem tyJ9_ok : ∀ k, k < 0 → parseFieldDescriptor (TJ9 k).2.2.1 = some (tyJ9 k) := by decide +kernel
abbrev cJ9_max_7cf53 : ByteArray := prog_25_method_65_code
def yJ9_max_7cf53 : MethodName := ⟨RJ9, "max", "(II)I"⟩
abbrev cJ9_min_7cf53 : ByteArray := prog_25_method_69_code
def yJ9_min_7cf53 : MethodName := ⟨RJ9, "min", "(II)I"⟩
abbrev cJ9_min_f86c9 : ByteArray := prog_25_method_70_code
def yJ9_min_f86c9 : MethodName := ⟨RJ9, "min", "(JJ)J"⟩
def RJ0 : String := "java/lang/String"
def TJ0 : u_T := fun k => match k with
  | _ => ("", "", "", false)
def tyJ0 : Nat → FieldType := fun k => match k with
  | _ => .int
abbrev wsJ00 : List Cond := u_ws RJ0 TJ0 0
theorem nmJ0 : ∀ a, a < 0 → ∀ b, b < 0 → a ≠ b → (TJ0 a).2.1 ≠ (TJ0 b).2.1 := by decide +kernel
theorem tyJ0_ok : ∀ k, k < 0 → parseFieldDescriptor (TJ0 k).2.2.1 = some (tyJ0 k) := by decide +kernel
abbrev cJ0_length_8abf5 : ByteArray := prog_27_method_54_code
def yJ0_length_8abf5 : MethodName := ⟨RJ0, "length", "()I"⟩
abbrev cJ0_charAt_5068e : ByteArray := prog_27_method_56_code
def yJ0_charAt_5068e : MethodName := ⟨RJ0, "charAt", "(I)C"⟩
abbrev cJ0_indexOf_0f7a4 : ByteArray := prog_27_method_79_code
def yJ0_indexOf_0f7a4 : MethodName := ⟨RJ0, "indexOf", "(I)I"⟩
abbrev cJ0_indexOf_7cf53 : ByteArray := prog_27_method_80_code
def yJ0_indexOf_7cf53 : MethodName := ⟨RJ0, "indexOf", "(II)I"⟩
abbrev cJ0_coder_7d493 : ByteArray := prog_27_method_152_code
def yJ0_coder_7d493 : MethodName := ⟨RJ0, "coder", "()B"⟩
abbrev cJ0_isLatin1_aae02 : ByteArray := prog_27_method_154_code
def yJ0_isLatin1_aae02 : MethodName := ⟨RJ0, "isLatin1", "()Z"⟩
abbrev cJ0_checkIndex_df160 : ByteArray := prog_27_method_155_code
def yJ0_checkIndex_df160 : MethodName := ⟨RJ0, "checkIndex", "(II)V"⟩
abbrev cJ0_checkBoundsBeginEnd_23922 : ByteArray := prog_27_method_158_code
def yJ0_checkBoundsBeginEnd_23922 : MethodName := ⟨RJ0, "checkBoundsBeginEnd", "(III)V"⟩
def RJ1 : String := "java/lang/StringLatin1"
def TJ1 : u_T := fun k => match k with
  | _ => ("", "", "", false)
def tyJ1 : Nat → FieldType := fun k => match k with
  | _ => .int
abbrev wsJ10 : List Cond := u_ws RJ1 TJ1 0
theorem nmJ1 : ∀ a, a < 0 → ∀ b, b < 0 → a ≠ b → (TJ1 a).2.1 ≠ (TJ1 b).2.1 := by decide +kernel
theorem tyJ1_ok : ∀ k, k < 0 → parseFieldDescriptor (TJ1 k).2.2.1 = some (tyJ1 k) := by decide +kernel
abbrev cJ1_charAt_3b067 : ByteArray := prog_28_method_2_code
def yJ1_charAt_3b067 : MethodName := ⟨RJ1, "charAt", "([BI)C"⟩
abbrev cJ1_canEncode_9a6ad : ByteArray := prog_28_method_4_code
def yJ1_canEncode_9a6ad : MethodName := ⟨RJ1, "canEncode", "(I)Z"⟩
abbrev cJ1_indexOf_4cfef : ByteArray := prog_28_method_22_code
def yJ1_indexOf_4cfef : MethodName := ⟨RJ1, "indexOf", "([BIII)I"⟩
abbrev cJ1_indexOfChar_4cfef : ByteArray := prog_28_method_23_code
def yJ1_indexOfChar_4cfef : MethodName := ⟨RJ1, "indexOfChar", "([BIII)I"⟩
def RJ2 : String := "java/lang/StringUTF16"
def TJ2 : u_T := fun k => match k with
  | _ => ("", "", "", false)
def tyJ2 : Nat → FieldType := fun k => match k with
  | _ => .int
abbrev wsJ20 : List Cond := u_ws RJ2 TJ2 0
theorem nmJ2 : ∀ a, a < 0 → ∀ b, b < 0 → a ≠ b → (TJ2 a).2.1 ≠ (TJ2 b).2.1 := by decide +kernel
theorem tyJ2_ok : ∀ k, k < 0 → parseFieldDescriptor (TJ2 k).2.2.1 = some (tyJ2 k) := by decide +kernel
abbrev cJ2_getChar_3b067 : ByteArray := prog_29_method_5_code
def yJ2_getChar_3b067 : MethodName := ⟨RJ2, "getChar", "([BI)C"⟩
abbrev cJ2_length_9d52b : ByteArray := prog_29_method_6_code
def yJ2_length_9d52b : MethodName := ⟨RJ2, "length", "([B)I"⟩
abbrev cJ2_indexOf_4cfef : ByteArray := prog_29_method_40_code
def yJ2_indexOf_4cfef : MethodName := ⟨RJ2, "indexOf", "([BIII)I"⟩
abbrev cJ2_indexOfChar_4cfef : ByteArray := prog_29_method_47_code
def yJ2_indexOfChar_4cfef : MethodName := ⟨RJ2, "indexOfChar", "([BIII)I"⟩
abbrev cJ2_indexOfCharUnsafe_4cfef : ByteArray := prog_29_method_48_code
def yJ2_indexOfCharUnsafe_4cfef : MethodName := ⟨RJ2, "indexOfCharUnsafe", "([BIII)I"⟩
abbrev cJ2_indexOfSupplementary_4cfef : ByteArray := prog_29_method_49_code
def yJ2_indexOfSupplementary_4cfef : MethodName := ⟨RJ2, "indexOfSupplementary", "([BIII)I"⟩
abbrev cJ2_charAt_3b067 : ByteArray := prog_29_method_83_code
def yJ2_charAt_3b067 : MethodName := ⟨RJ2, "charAt", "([BI)C"⟩
abbrev cJ2_checkIndex_2214a : ByteArray := prog_29_method_91_code
def yJ2_checkIndex_2214a : MethodName := ⟨RJ2, "checkIndex", "(I[B)V"⟩
abbrev cJ2_checkBoundsBeginEnd_d044e : ByteArray := prog_29_method_93_code
def yJ2_checkBoundsBeginEnd_d044e : MethodName := ⟨RJ2, "checkBoundsBeginEnd", "(II[B)V"⟩
def RJ10 : String := "java/lang/System"
def TJ10 : u_T := fun k => match k with
  | _ => ("", "", "", false)
def tyJ10 : Nat → FieldType := fun k => match k with
  | _ => .int
abbrev wsJ100 : List Cond := u_ws RJ10 TJ10 0
theorem nmJ10 : ∀ a, a < 0 → ∀ b, b < 0 → a ≠ b → (TJ10 a).2.1 ≠ (TJ10 b).2.1 := by decide +kernel
theorem tyJ10_ok : ∀ k, k < 0 → parseFieldDescriptor (TJ10 k).2.2.1 = some (tyJ10 k) := by decide +kernel
def RJxfd54e : String := "java/lang/constant/Constable"
def TJxfd54e : u_T := fun k => match k with
  | _ => ("", "", "", false)
def tyJxfd54e : Nat → FieldType := fun k => match k with
  | _ => .int
abbrev wsJxfd54e0 : List Cond := u_ws RJxfd54e TJxfd54e 0
theorem nmJxfd54e : ∀ a, a < 0 → ∀ b, b < 0 → a ≠ b → (TJxfd54e a).2.1 ≠ (TJxfd54e b).2.1 := by decide +kernel
theorem tyJxfd54e_ok : ∀ k, k < 0 → parseFieldDescriptor (TJxfd54e k).2.2.1 = some (tyJxfd54e k) := by decide +kernel
def RJx3cf43 : String := "java/lang/constant/ConstantDesc"
def TJx3cf43 : u_T := fun k => match k with
  | _ => ("", "", "", false)
def tyJx3cf43 : Nat → FieldType := fun k => match k with
  | _ => .int
abbrev wsJx3cf430 : List Cond := u_ws RJx3cf43 TJx3cf43 0
theorem nmJx3cf43 : ∀ a, a < 0 → ∀ b, b < 0 → a ≠ b → (TJx3cf43 a).2.1 ≠ (TJx3cf43 b).2.1 := by decide +kernel
theorem tyJx3cf43_ok : ∀ k, k < 0 → parseFieldDescriptor (TJx3cf43 k).2.2.1 = some (tyJx3cf43 k) := by decide +kernel
def RJxa1e45 : String := "java/util/AbstractCollection"
def TJxa1e45 : u_T := fun k => match k with
  | _ => ("", "", "", false)
def tyJxa1e45 : Nat → FieldType := fun k => match k with
  | _ => .int
abbrev wsJxa1e450 : List Cond := u_ws RJxa1e45 TJxa1e45 0
theorem nmJxa1e45 : ∀ a, a < 0 → ∀ b, b < 0 → a ≠ b → (TJxa1e45 a).2.1 ≠ (TJxa1e45 b).2.1 := by decide +kernel
theorem tyJxa1e45_ok : ∀ k, k < 0 → parseFieldDescriptor (TJxa1e45 k).2.2.1 = some (tyJxa1e45 k) := by decide +kernel
abbrev cJxa1e45_init_da8c8 : ByteArray := prog_34_method_1_code
def yJxa1e45_init_da8c8 : MethodName := ⟨RJxa1e45, "<init>", "()V"⟩
def RJxc12de : String := "java/util/AbstractList"
def TJxc12de : u_T := fun k => match k with
  | _ => ("", "", "", false)
def tyJxc12de : Nat → FieldType := fun k => match k with
  | _ => .int
abbrev wsJxc12de0 : List Cond := u_ws RJxc12de TJxc12de 0
theorem nmJxc12de : ∀ a, a < 0 → ∀ b, b < 0 → a ≠ b → (TJxc12de a).2.1 ≠ (TJxc12de b).2.1 := by decide +kernel
theorem tyJxc12de_ok : ∀ k, k < 0 → parseFieldDescriptor (TJxc12de k).2.2.1 = some (tyJxc12de k) := by decide +kernel
abbrev cJxc12de_init_da8c8 : ByteArray := prog_35_method_1_code
def yJxc12de_init_da8c8 : MethodName := ⟨RJxc12de, "<init>", "()V"⟩
def RJx4a65c : String := "java/util/ArrayList"
def TJx4a65c : u_T := fun k => match k with
  | 0 => ("java/util/AbstractList", "modCount", "I", false)
  | 1 => ("java/util/ArrayList", "elementData", "[Ljava/lang/Object;", false)
  | _ => ("java/util/ArrayList", "size", "I", false)
def tyJx4a65c : Nat → FieldType := fun k => match k with
  | 0 => .int
  | 1 => .array (.object "java/lang/Object")
  | _ => .int
abbrev wsJx4a65c0 : List Cond := u_ws RJx4a65c TJx4a65c 3
theorem nmJx4a65c : ∀ a, a < 3 → ∀ b, b < 3 → a ≠ b → (TJx4a65c a).2.1 ≠ (TJx4a65c b).2.1 := by decide +kernel
theorem tyJx4a65c_ok : ∀ k, k < 3 → parseFieldDescriptor (TJx4a65c k).2.2.1 = some (tyJx4a65c k) := by decide +kernel
abbrev cJx4a65c_init_da8c8 : ByteArray := prog_36_method_2_code
def yJx4a65c_init_da8c8 : MethodName := ⟨RJx4a65c, "<init>", "()V"⟩
abbrev cJx4a65c_grow_92f84 : ByteArray := prog_36_method_6_code
def yJx4a65c_grow_92f84 : MethodName := ⟨RJx4a65c, "grow", "(I)[Ljava/lang/Object;"⟩
abbrev cJx4a65c_grow_d5877 : ByteArray := prog_36_method_7_code
def yJx4a65c_grow_d5877 : MethodName := ⟨RJx4a65c, "grow", "()[Ljava/lang/Object;"⟩
abbrev cJx4a65c_size_8abf5 : ByteArray := prog_36_method_8_code
def yJx4a65c_size_8abf5 : MethodName := ⟨RJx4a65c, "size", "()I"⟩
abbrev cJx4a65c_elementData_915e3 : ByteArray := prog_36_method_18_code
def yJx4a65c_elementData_915e3 : MethodName := ⟨RJx4a65c, "elementData", "(I)Ljava/lang/Object;"⟩
abbrev cJx4a65c_get_915e3 : ByteArray := prog_36_method_20_code
def yJx4a65c_get_915e3 : MethodName := ⟨RJx4a65c, "get", "(I)Ljava/lang/Object;"⟩
abbrev cJx4a65c_add_72be8 : ByteArray := prog_36_method_24_code
def yJx4a65c_add_72be8 : MethodName := ⟨RJx4a65c, "add", "(Ljava/lang/Object;[Ljava/lang/Object;I)V"⟩
abbrev cJx4a65c_add_9ea2d : ByteArray := prog_36_method_25_code
def yJx4a65c_add_9ea2d : MethodName := ⟨RJx4a65c, "add", "(Ljava/lang/Object;)Z"⟩
abbrev cJx4a65c_clear_da8c8 : ByteArray := prog_36_method_40_code
def yJx4a65c_clear_da8c8 : MethodName := ⟨RJx4a65c, "clear", "()V"⟩
def RJ7 : String := "java/util/Arrays"
def TJ7 : u_T := fun k => match k with
  | _ => ("", "", "", false)
def tyJ7 : Nat → FieldType := fun k => match k with
  | _ => .int
abbrev wsJ70 : List Cond := u_ws RJ7 TJ7 0
theorem nmJ7 : ∀ a, a < 0 → ∀ b, b < 0 → a ≠ b → (TJ7 a).2.1 ≠ (TJ7 b).2.1 := by decide +kernel
theorem tyJ7_ok : ∀ k, k < 0 → parseFieldDescriptor (TJ7 k).2.2.1 = some (tyJ7 k) := by decide +kernel
abbrev cJ7_fill_53178 : ByteArray := prog_37_method_103_code
def yJ7_fill_53178 : MethodName := ⟨RJ7, "fill", "([II)V"⟩
abbrev cJ7_copyOf_1904c : ByteArray := prog_37_method_119_code
def yJ7_copyOf_1904c : MethodName := ⟨RJ7, "copyOf", "([Ljava/lang/Object;I)[Ljava/lang/Object;"⟩
abbrev cJ7_copyOf_6403c : ByteArray := prog_37_method_120_code
def yJ7_copyOf_6403c : MethodName := ⟨RJ7, "copyOf", "([Ljava/lang/Object;ILjava/lang/Class;)[Ljava/lang/Object;"⟩
abbrev cJ7_copyOf_59c91 : ByteArray := prog_37_method_123_code
def yJ7_copyOf_59c91 : MethodName := ⟨RJ7, "copyOf", "([II)[I"⟩
abbrev cJ7_copyOf_c38d5 : ByteArray := prog_37_method_124_code
def yJ7_copyOf_c38d5 : MethodName := ⟨RJ7, "copyOf", "([JI)[J"⟩
def RJx5ef63 : String := "java/util/Collection"
def TJx5ef63 : u_T := fun k => match k with
  | _ => ("", "", "", false)
def tyJx5ef63 : Nat → FieldType := fun k => match k with
  | _ => .int
abbrev wsJx5ef630 : List Cond := u_ws RJx5ef63 TJx5ef63 0
theorem nmJx5ef63 : ∀ a, a < 0 → ∀ b, b < 0 → a ≠ b → (TJx5ef63 a).2.1 ≠ (TJx5ef63 b).2.1 := by decide +kernel
theorem tyJx5ef63_ok : ∀ k, k < 0 → parseFieldDescriptor (TJx5ef63 k).2.2.1 = some (tyJx5ef63 k) := by decide +kernel
def RJxbd725 : String := "java/util/List"
def TJxbd725 : u_T := fun k => match k with
  | _ => ("", "", "", false)
def tyJxbd725 : Nat → FieldType := fun k => match k with
  | _ => .int
abbrev wsJxbd7250 : List Cond := u_ws RJxbd725 TJxbd725 0
theorem nmJxbd725 : ∀ a, a < 0 → ∀ b, b < 0 → a ≠ b → (TJxbd725 a).2.1 ≠ (TJxbd725 b).2.1 := by decide +kernel
theorem tyJxbd725_ok : ∀ k, k < 0 → parseFieldDescriptor (TJxbd725 k).2.2.1 = some (tyJxbd725 k) := by decide +kernel
def RJ15 : String := "java/util/Objects"
def TJ15 : u_T := fun k => match k with
  | _ => ("", "", "", false)
def tyJ15 : Nat → FieldType := fun k => match k with
  | _ => .int
abbrev wsJ150 : List Cond := u_ws RJ15 TJ15 0
theorem nmJ15 : ∀ a, a < 0 → ∀ b, b < 0 → a ≠ b → (TJ15 a).2.1 ≠ (TJ15 b).2.1 := by decide +kernel
theorem tyJ15_ok : ∀ k, k < 0 → parseFieldDescriptor (TJ15 k).2.2.1 = some (tyJ15 k) := by decide +kernel
abbrev cJ15_checkIndex_7cf53 : ByteArray := prog_40_method_17_code
def yJ15_checkIndex_7cf53 : MethodName := ⟨RJ15, "checkIndex", "(II)I"⟩
def RJxf0a74 : String := "java/util/RandomAccess"
def TJxf0a74 : u_T := fun k => match k with
  | _ => ("", "", "", false)
def tyJxf0a74 : Nat → FieldType := fun k => match k with
  | _ => .int
abbrev wsJxf0a740 : List Cond := u_ws RJxf0a74 TJxf0a74 0
theorem nmJxf0a74 : ∀ a, a < 0 → ∀ b, b < 0 → a ≠ b → (TJxf0a74 a).2.1 ≠ (TJxf0a74 b).2.1 := by decide +kernel
theorem tyJxf0a74_ok : ∀ k, k < 0 → parseFieldDescriptor (TJxf0a74 k).2.2.1 = some (tyJxf0a74 k) := by decide +kernel
def RJxa66e6 : String := "java/util/SequencedCollection"
def TJxa66e6 : u_T := fun k => match k with
  | _ => ("", "", "", false)
def tyJxa66e6 : Nat → FieldType := fun k => match k with
  | _ => .int
abbrev wsJxa66e60 : List Cond := u_ws RJxa66e6 TJxa66e6 0
theorem nmJxa66e6 : ∀ a, a < 0 → ∀ b, b < 0 → a ≠ b → (TJxa66e6 a).2.1 ≠ (TJxa66e6 b).2.1 := by decide +kernel
theorem tyJxa66e6_ok : ∀ k, k < 0 → parseFieldDescriptor (TJxa66e6 k).2.2.1 = some (tyJxa66e6 k) := by decide +kernel
def RJ8 : String := "jdk/internal/util/ArraysSupport"
def TJ8 : u_T := fun k => match k with
  | _ => ("", "", "", false)
def tyJ8 : Nat → FieldType := fun k => match k with
  | _ => .int
abbrev wsJ80 : List Cond := u_ws RJ8 TJ8 0
theorem nmJ8 : ∀ a, a < 0 → ∀ b, b < 0 → a ≠ b → (TJ8 a).2.1 ≠ (TJ8 b).2.1 := by decide +kernel
theorem tyJ8_ok : ∀ k, k < 0 → parseFieldDescriptor (TJ8 k).2.2.1 = some (tyJ8 k) := by decide +kernel
abbrev cJ8_newLength_cabcc : ByteArray := prog_43_method_27_code
def yJ8_newLength_cabcc : MethodName := ⟨RJ8, "newLength", "(III)I"⟩
abbrev cJ8_hugeLength_7cf53 : ByteArray := prog_43_method_28_code
def yJ8_hugeLength_7cf53 : MethodName := ⟨RJ8, "hugeLength", "(II)I"⟩
def RJ3 : String := "jdk/internal/util/Preconditions"
def TJ3 : u_T := fun k => match k with
  | _ => ("", "", "", false)
def tyJ3 : Nat → FieldType := fun k => match k with
  | _ => .int
abbrev wsJ30 : List Cond := u_ws RJ3 TJ3 0
theorem nmJ3 : ∀ a, a < 0 → ∀ b, b < 0 → a ≠ b → (TJ3 a).2.1 ≠ (TJ3 b).2.1 := by decide +kernel
theorem tyJ3_ok : ∀ k, k < 0 → parseFieldDescriptor (TJ3 k).2.2.1 = some (tyJ3 k) := by decide +kernel
abbrev cJ3_checkIndex_8e157 : ByteArray := prog_44_method_11_code
def yJ3_checkIndex_8e157 : MethodName := ⟨RJ3, "checkIndex", "(IILjava/util/function/BiFunction;)I"⟩
abbrev cJ3_checkFromToIndex_8c36e : ByteArray := prog_44_method_12_code
def yJ3_checkFromToIndex_8c36e : MethodName := ⟨RJ3, "checkFromToIndex", "(IIILjava/util/function/BiFunction;)I"⟩
def RL : String := "TurnpikeTrustLaw"
abbrev cL_act : ByteArray := method_3_code
def yL_act : MethodName := ⟨RL, "act", "(LTurnpikeTrust;II[J)I"⟩
abbrev cL_stretch : ByteArray := method_4_code
def yL_stretch : MethodName := ⟨RL, "stretch", "(LTurnpikeTrust;I[J)I"⟩
abbrev cL_gate : ByteArray := method_5_code
def yL_gate : MethodName := ⟨RL, "gate", "(LTurnpikeTrust;I[J)I"⟩
abbrev cL_traveller : ByteArray := method_6_code
def yL_traveller : MethodName := ⟨RL, "traveller", "(LTurnpikeTrust;IIII[J)I"⟩
abbrev cL_pass : ByteArray := method_7_code
def yL_pass : MethodName := ⟨RL, "pass", "(LTurnpikeTrust;II[J)I"⟩
abbrev cL_asked : ByteArray := method_8_code
def yL_asked : MethodName := ⟨RL, "asked", "(LTurnpikeTrust;III[J)I"⟩
abbrev cL_force : ByteArray := method_9_code
def yL_force : MethodName := ⟨RL, "force", "(LTurnpikeTrust;I[J)I"⟩
abbrev cL_wait : ByteArray := method_10_code
def yL_wait : MethodName := ⟨RL, "wait", "(LTurnpikeTrust;I[J)I"⟩
abbrev cL_rain : ByteArray := method_11_code
def yL_rain : MethodName := ⟨RL, "rain", "(LTurnpikeTrust;I)I"⟩
abbrev cL_mend : ByteArray := method_12_code
def yL_mend : MethodName := ⟨RL, "mend", "(LTurnpikeTrust;I[J)I"⟩
abbrev cL_farmer : ByteArray := method_13_code
def yL_farmer : MethodName := ⟨RL, "farmer", "(LTurnpikeTrust;I[J)I"⟩
abbrev cL_bid : ByteArray := method_14_code
def yL_bid : MethodName := ⟨RL, "bid", "(LTurnpikeTrust;IIII[J)I"⟩
abbrev cL_let : ByteArray := method_15_code
def yL_let : MethodName := ⟨RL, "let", "(LTurnpikeTrust;II[J)I"⟩
abbrev cL_gateTold : ByteArray := method_16_code
def yL_gateTold : MethodName := ⟨RL, "gateTold", "(LTurnpikeTrust;II[J)I"⟩
abbrev cL_borrow : ByteArray := method_17_code
def yL_borrow : MethodName := ⟨RL, "borrow", "(LTurnpikeTrust;III[J)I"⟩
abbrev cL_repay : ByteArray := method_18_code
def yL_repay : MethodName := ⟨RL, "repay", "(LTurnpikeTrust;II[J)I"⟩
abbrev cL_loan : ByteArray := method_19_code
def yL_loan : MethodName := ⟨RL, "loan", "(LTurnpikeTrust;II[J)I"⟩
abbrev cL_money : ByteArray := method_20_code
def yL_money : MethodName := ⟨RL, "money", "(LTurnpikeTrust;I[J)I"⟩
abbrev cL_wear : ByteArray := method_21_code
def yL_wear : MethodName := ⟨RL, "wear", "(LTurnpikeTrust;I[J)I"⟩
abbrev cL_box : ByteArray := method_22_code
def yL_box : MethodName := ⟨RL, "box", "(LTurnpikeTrust;I[J)I"⟩
abbrev cL_journal : ByteArray := method_23_code
def yL_journal : MethodName := ⟨RL, "journal", "(LTurnpikeTrust;II[J)I"⟩
abbrev cL_law : ByteArray := code
def yL_law : MethodName := ⟨RL, "law", "([I)Z"⟩
abbrev vwCl : List vw_C := [(RJx4a65c, TJx4a65c, 3), (RX0, TX0, 2), (RX1, TX1, 3), (RX2, TX2, 7), (RX3, TX3, 5), (RX4, TX4, 2), (RX5, TX5, 9), (RX6, TX6, 6), (RX7, TX7, 11), (RX8, TX8, 7), (RX9, TX9, 3), (RX10, TX10, 7), (RX11, TX11, 12), (RX12, TX12, 62)]
theorem dX0_init_0 : decode cX0_init 0 = .ok (.aload_n 0, 1) := by decide +kernel
theorem dX0_init_1 : decode cX0_init 1 = .ok (.invokespecial 1, 3) := by decide +kernel
theorem dX0_init_4 : decode cX0_init 4 = .ok (.aload_n 0, 1) := by decide +kernel
theorem dX0_init_5 : decode cX0_init 5 = .ok (.new 7, 3) := by decide +kernel
theorem dX0_init_8 : decode cX0_init 8 = .ok (.dup, 1) := by decide +kernel
theorem dX0_init_9 : decode cX0_init 9 = .ok (.invokespecial 9, 3) := by decide +kernel
theorem dX0_init_12 : decode cX0_init 12 = .ok (.putfield 10, 3) := by decide +kernel
theorem dX0_init_15 : decode cX0_init 15 = .ok (.aload_n 0, 1) := by decide +kernel
theorem dX0_init_16 : decode cX0_init 16 = .ok (.iload_n 1, 1) := by decide +kernel
theorem dX0_init_17 : decode cX0_init 17 = .ok (.putfield 16, 3) := by decide +kernel
theorem dX0_init_20 : decode cX0_init 20 = .ok (.return_, 1) := by decide +kernel
theorem dX1_init_0 : decode cX1_init 0 = .ok (.aload_n 0, 1) := by decide +kernel
theorem dX1_init_1 : decode cX1_init 1 = .ok (.invokespecial 1, 3) := by decide +kernel
theorem dX1_init_4 : decode cX1_init 4 = .ok (.aload_n 0, 1) := by decide +kernel
theorem dX1_init_5 : decode cX1_init 5 = .ok (.aload_n 1, 1) := by decide +kernel
theorem dX1_init_6 : decode cX1_init 6 = .ok (.putfield 7, 3) := by decide +kernel
theorem dX1_init_9 : decode cX1_init 9 = .ok (.aload_n 0, 1) := by decide +kernel
theorem dX1_init_10 : decode cX1_init 10 = .ok (.iload_n 2, 1) := by decide +kernel
theorem dX1_init_11 : decode cX1_init 11 = .ok (.putfield 13, 3) := by decide +kernel
theorem dX1_init_14 : decode cX1_init 14 = .ok (.aload_n 0, 1) := by decide +kernel
theorem dX1_init_15 : decode cX1_init 15 = .ok (.iload_n 3, 1) := by decide +kernel
theorem dX1_init_16 : decode cX1_init 16 = .ok (.putfield 17, 3) := by decide +kernel
theorem dX1_init_19 : decode cX1_init 19 = .ok (.return_, 1) := by decide +kernel
theorem dX1_isGood_0 : decode cX1_isGood 0 = .ok (.aload_n 0, 1) := by decide +kernel
theorem dX1_isGood_1 : decode cX1_isGood 1 = .ok (.getfield 17, 3) := by decide +kernel
theorem dX1_isGood_4 : decode cX1_isGood 4 = .ok (.aload_n 0, 1) := by decide +kernel
theorem dX1_isGood_5 : decode cX1_isGood 5 = .ok (.getfield 13, 3) := by decide +kernel
theorem dX1_isGood_8 : decode cX1_isGood 8 = .ok (.if_icmp .lt 29, 3) := by decide +kernel
theorem dX1_isGood_11 : decode cX1_isGood 11 = .ok (.aload_n 0, 1) := by decide +kernel
theorem dX1_isGood_12 : decode cX1_isGood 12 = .ok (.getfield 7, 3) := by decide +kernel
theorem dX1_isGood_15 : decode cX1_isGood 15 = .ok (.getfield 20, 3) := by decide +kernel
theorem dX1_isGood_18 : decode cX1_isGood 18 = .ok (.aload_n 0, 1) := by decide +kernel
theorem dX1_isGood_19 : decode cX1_isGood 19 = .ok (.getfield 13, 3) := by decide +kernel
theorem dX1_isGood_22 : decode cX1_isGood 22 = .ok (.i2l, 1) := by decide +kernel
theorem dX1_isGood_23 : decode cX1_isGood 23 = .ok (.aload_n 0, 1) := by decide +kernel
theorem dX1_isGood_24 : decode cX1_isGood 24 = .ok (.getfield 17, 3) := by decide +kernel
theorem dX1_isGood_27 : decode cX1_isGood 27 = .ok (.i2l, 1) := by decide +kernel
theorem dX1_isGood_28 : decode cX1_isGood 28 = .ok (.ladd, 1) := by decide +kernel
theorem dX1_isGood_29 : decode cX1_isGood 29 = .ok (.lcmp, 1) := by decide +kernel
theorem dX1_isGood_30 : decode cX1_isGood 30 = .ok (.ifCond .lt 7, 3) := by decide +kernel
theorem dX1_isGood_33 : decode cX1_isGood 33 = .ok (.iconst 1, 1) := by decide +kernel
theorem dX1_isGood_34 : decode cX1_isGood 34 = .ok (.goto 4, 3) := by decide +kernel
theorem dX1_isGood_37 : decode cX1_isGood 37 = .ok (.iconst 0, 1) := by decide +kernel
theorem dX1_isGood_38 : decode cX1_isGood 38 = .ok (.ireturn, 1) := by decide +kernel
theorem dX2_init_0 : decode cX2_init 0 = .ok (.aload_n 0, 1) := by decide +kernel
theorem dX2_init_1 : decode cX2_init 1 = .ok (.invokespecial 3, 3) := by decide +kernel
theorem dX2_init_4 : decode cX2_init 4 = .ok (.aload_n 0, 1) := by decide +kernel
theorem dX2_init_5 : decode cX2_init 5 = .ok (.lconst 0, 1) := by decide +kernel
theorem dX2_init_6 : decode cX2_init 6 = .ok (.putfield 9, 3) := by decide +kernel
theorem dX2_init_9 : decode cX2_init 9 = .ok (.aload_n 0, 1) := by decide +kernel
theorem dX2_init_10 : decode cX2_init 10 = .ok (.iconst 0, 1) := by decide +kernel
theorem dX2_init_11 : decode cX2_init 11 = .ok (.putfield 15, 3) := by decide +kernel
theorem dX2_init_14 : decode cX2_init 14 = .ok (.aload_n 0, 1) := by decide +kernel
theorem dX2_init_15 : decode cX2_init 15 = .ok (.bipush 64, 2) := by decide +kernel
theorem dX2_init_17 : decode cX2_init 17 = .ok (.newarray .int, 2) := by decide +kernel
theorem dX2_init_19 : decode cX2_init 19 = .ok (.putfield 19, 3) := by decide +kernel
theorem dX2_init_22 : decode cX2_init 22 = .ok (.aload_n 0, 1) := by decide +kernel
theorem dX2_init_23 : decode cX2_init 23 = .ok (.bipush 64, 2) := by decide +kernel
theorem dX2_init_25 : decode cX2_init 25 = .ok (.newarray .int, 2) := by decide +kernel
theorem dX2_init_27 : decode cX2_init 27 = .ok (.putfield 23, 3) := by decide +kernel
theorem dX2_init_30 : decode cX2_init 30 = .ok (.aload_n 0, 1) := by decide +kernel
theorem dX2_init_31 : decode cX2_init 31 = .ok (.bipush 64, 2) := by decide +kernel
theorem dX2_init_33 : decode cX2_init 33 = .ok (.newarray .int, 2) := by decide +kernel
theorem dX2_init_35 : decode cX2_init 35 = .ok (.putfield 26, 3) := by decide +kernel
theorem dX2_init_38 : decode cX2_init 38 = .ok (.aload_n 0, 1) := by decide +kernel
theorem dX2_init_39 : decode cX2_init 39 = .ok (.bipush 64, 2) := by decide +kernel
theorem dX2_init_41 : decode cX2_init 41 = .ok (.newarray .long, 2) := by decide +kernel
theorem dX2_init_43 : decode cX2_init 43 = .ok (.putfield 29, 3) := by decide +kernel
theorem dX2_init_46 : decode cX2_init 46 = .ok (.aload_n 0, 1) := by decide +kernel
theorem dX2_init_47 : decode cX2_init 47 = .ok (.bipush 64, 2) := by decide +kernel
theorem dX2_init_49 : decode cX2_init 49 = .ok (.newarray .long, 2) := by decide +kernel
theorem dX2_init_51 : decode cX2_init 51 = .ok (.putfield 33, 3) := by decide +kernel
theorem dX2_init_54 : decode cX2_init 54 = .ok (.return_, 1) := by decide +kernel
theorem dX2_change_0 : decode cX2_change 0 = .ok (.aload_n 0, 1) := by decide +kernel
theorem dX2_change_1 : decode cX2_change 1 = .ok (.dup, 1) := by decide +kernel
theorem dX2_change_2 : decode cX2_change 2 = .ok (.getfield 9, 3) := by decide +kernel
theorem dX2_change_5 : decode cX2_change 5 = .ok (.lload 4, 2) := by decide +kernel
theorem dX2_change_7 : decode cX2_change 7 = .ok (.ladd, 1) := by decide +kernel
theorem dX2_change_8 : decode cX2_change 8 = .ok (.putfield 9, 3) := by decide +kernel
theorem dX2_change_11 : decode cX2_change 11 = .ok (.aload_n 0, 1) := by decide +kernel
theorem dX2_change_12 : decode cX2_change 12 = .ok (.invokevirtual 36, 3) := by decide +kernel
theorem dX2_change_15 : decode cX2_change 15 = .ok (.aload_n 0, 1) := by decide +kernel
theorem dX2_change_16 : decode cX2_change 16 = .ok (.getfield 15, 3) := by decide +kernel
theorem dX2_change_19 : decode cX2_change 19 = .ok (.ifCond .lt 63, 3) := by decide +kernel
theorem dX2_change_22 : decode cX2_change 22 = .ok (.aload_n 0, 1) := by decide +kernel
theorem dX2_change_23 : decode cX2_change 23 = .ok (.getfield 15, 3) := by decide +kernel
theorem dX2_change_26 : decode cX2_change 26 = .ok (.aload_n 0, 1) := by decide +kernel
theorem dX2_change_27 : decode cX2_change 27 = .ok (.getfield 19, 3) := by decide +kernel
theorem dX2_change_30 : decode cX2_change 30 = .ok (.arraylength, 1) := by decide +kernel
theorem dX2_change_31 : decode cX2_change 31 = .ok (.if_icmp .ge 51, 3) := by decide +kernel
theorem dX2_change_34 : decode cX2_change 34 = .ok (.aload_n 0, 1) := by decide +kernel
theorem dX2_change_35 : decode cX2_change 35 = .ok (.getfield 15, 3) := by decide +kernel
theorem dX2_change_38 : decode cX2_change 38 = .ok (.aload_n 0, 1) := by decide +kernel
theorem dX2_change_39 : decode cX2_change 39 = .ok (.getfield 23, 3) := by decide +kernel
theorem dX2_change_42 : decode cX2_change 42 = .ok (.arraylength, 1) := by decide +kernel
theorem dX2_change_43 : decode cX2_change 43 = .ok (.if_icmp .ge 39, 3) := by decide +kernel
theorem dX2_change_46 : decode cX2_change 46 = .ok (.aload_n 0, 1) := by decide +kernel
theorem dX2_change_47 : decode cX2_change 47 = .ok (.getfield 15, 3) := by decide +kernel
theorem dX2_change_50 : decode cX2_change 50 = .ok (.aload_n 0, 1) := by decide +kernel
theorem dX2_change_51 : decode cX2_change 51 = .ok (.getfield 26, 3) := by decide +kernel
theorem dX2_change_54 : decode cX2_change 54 = .ok (.arraylength, 1) := by decide +kernel
theorem dX2_change_55 : decode cX2_change 55 = .ok (.if_icmp .ge 27, 3) := by decide +kernel
theorem dX2_change_58 : decode cX2_change 58 = .ok (.aload_n 0, 1) := by decide +kernel
theorem dX2_change_59 : decode cX2_change 59 = .ok (.getfield 15, 3) := by decide +kernel
theorem dX2_change_62 : decode cX2_change 62 = .ok (.aload_n 0, 1) := by decide +kernel
theorem dX2_change_63 : decode cX2_change 63 = .ok (.getfield 29, 3) := by decide +kernel
theorem dX2_change_66 : decode cX2_change 66 = .ok (.arraylength, 1) := by decide +kernel
theorem dX2_change_67 : decode cX2_change 67 = .ok (.if_icmp .ge 15, 3) := by decide +kernel
theorem dX2_change_70 : decode cX2_change 70 = .ok (.aload_n 0, 1) := by decide +kernel
theorem dX2_change_71 : decode cX2_change 71 = .ok (.getfield 15, 3) := by decide +kernel
theorem dX2_change_74 : decode cX2_change 74 = .ok (.aload_n 0, 1) := by decide +kernel
theorem dX2_change_75 : decode cX2_change 75 = .ok (.getfield 33, 3) := by decide +kernel
theorem dX2_change_78 : decode cX2_change 78 = .ok (.arraylength, 1) := by decide +kernel
theorem dX2_change_79 : decode cX2_change 79 = .ok (.if_icmp .lt 4, 3) := by decide +kernel
theorem dX2_change_82 : decode cX2_change 82 = .ok (.return_, 1) := by decide +kernel
theorem dX2_change_83 : decode cX2_change 83 = .ok (.aload_n 0, 1) := by decide +kernel
theorem dX2_change_84 : decode cX2_change 84 = .ok (.getfield 19, 3) := by decide +kernel
theorem dX2_change_87 : decode cX2_change 87 = .ok (.aload_n 0, 1) := by decide +kernel
theorem dX2_change_88 : decode cX2_change 88 = .ok (.getfield 15, 3) := by decide +kernel
theorem dX2_change_91 : decode cX2_change 91 = .ok (.iload_n 1, 1) := by decide +kernel
theorem dX2_change_92 : decode cX2_change 92 = .ok (.iastore, 1) := by decide +kernel
theorem dX2_change_93 : decode cX2_change 93 = .ok (.aload_n 0, 1) := by decide +kernel
theorem dX2_change_94 : decode cX2_change 94 = .ok (.getfield 23, 3) := by decide +kernel
theorem dX2_change_97 : decode cX2_change 97 = .ok (.aload_n 0, 1) := by decide +kernel
theorem dX2_change_98 : decode cX2_change 98 = .ok (.getfield 15, 3) := by decide +kernel
theorem dX2_change_101 : decode cX2_change 101 = .ok (.iload_n 2, 1) := by decide +kernel
theorem dX2_change_102 : decode cX2_change 102 = .ok (.iastore, 1) := by decide +kernel
theorem dX2_change_103 : decode cX2_change 103 = .ok (.aload_n 0, 1) := by decide +kernel
theorem dX2_change_104 : decode cX2_change 104 = .ok (.getfield 26, 3) := by decide +kernel
theorem dX2_change_107 : decode cX2_change 107 = .ok (.aload_n 0, 1) := by decide +kernel
theorem dX2_change_108 : decode cX2_change 108 = .ok (.getfield 15, 3) := by decide +kernel
theorem dX2_change_111 : decode cX2_change 111 = .ok (.iload_n 3, 1) := by decide +kernel
theorem dX2_change_112 : decode cX2_change 112 = .ok (.iastore, 1) := by decide +kernel
theorem dX2_change_113 : decode cX2_change 113 = .ok (.aload_n 0, 1) := by decide +kernel
theorem dX2_change_114 : decode cX2_change 114 = .ok (.getfield 29, 3) := by decide +kernel
theorem dX2_change_117 : decode cX2_change 117 = .ok (.aload_n 0, 1) := by decide +kernel
theorem dX2_change_118 : decode cX2_change 118 = .ok (.getfield 15, 3) := by decide +kernel
theorem dX2_change_121 : decode cX2_change 121 = .ok (.lload 4, 2) := by decide +kernel
theorem dX2_change_123 : decode cX2_change 123 = .ok (.lastore, 1) := by decide +kernel
theorem dX2_change_124 : decode cX2_change 124 = .ok (.aload_n 0, 1) := by decide +kernel
theorem dX2_change_125 : decode cX2_change 125 = .ok (.getfield 33, 3) := by decide +kernel
theorem dX2_change_128 : decode cX2_change 128 = .ok (.aload_n 0, 1) := by decide +kernel
theorem dX2_change_129 : decode cX2_change 129 = .ok (.getfield 15, 3) := by decide +kernel
theorem dX2_change_132 : decode cX2_change 132 = .ok (.aload_n 0, 1) := by decide +kernel
theorem dX2_change_133 : decode cX2_change 133 = .ok (.getfield 9, 3) := by decide +kernel
theorem dX2_change_136 : decode cX2_change 136 = .ok (.lastore, 1) := by decide +kernel
theorem dX2_change_137 : decode cX2_change 137 = .ok (.aload_n 0, 1) := by decide +kernel
theorem dX2_change_138 : decode cX2_change 138 = .ok (.dup, 1) := by decide +kernel
theorem dX2_change_139 : decode cX2_change 139 = .ok (.getfield 15, 3) := by decide +kernel
theorem dX2_change_142 : decode cX2_change 142 = .ok (.iconst 1, 1) := by decide +kernel
theorem dX2_change_143 : decode cX2_change 143 = .ok (.iadd, 1) := by decide +kernel
theorem dX2_change_144 : decode cX2_change 144 = .ok (.putfield 15, 3) := by decide +kernel
theorem dX2_change_147 : decode cX2_change 147 = .ok (.return_, 1) := by decide +kernel
theorem dX2_makeRoom_0 : decode cX2_makeRoom 0 = .ok (.aload_n 0, 1) := by decide +kernel
theorem dX2_makeRoom_1 : decode cX2_makeRoom 1 = .ok (.getfield 15, 3) := by decide +kernel
theorem dX2_makeRoom_4 : decode cX2_makeRoom 4 = .ok (.aload_n 0, 1) := by decide +kernel
theorem dX2_makeRoom_5 : decode cX2_makeRoom 5 = .ok (.getfield 19, 3) := by decide +kernel
theorem dX2_makeRoom_8 : decode cX2_makeRoom 8 = .ok (.arraylength, 1) := by decide +kernel
theorem dX2_makeRoom_9 : decode cX2_makeRoom 9 = .ok (.if_icmp .lt 13, 3) := by decide +kernel
theorem dX2_makeRoom_12 : decode cX2_makeRoom 12 = .ok (.aload_n 0, 1) := by decide +kernel
theorem dX2_makeRoom_13 : decode cX2_makeRoom 13 = .ok (.getfield 15, 3) := by decide +kernel
theorem dX2_makeRoom_16 : decode cX2_makeRoom 16 = .ok (.sipush 12000, 3) := by decide +kernel
theorem dX2_makeRoom_19 : decode cX2_makeRoom 19 = .ok (.if_icmp .lt 4, 3) := by decide +kernel
theorem dX2_makeRoom_22 : decode cX2_makeRoom 22 = .ok (.return_, 1) := by decide +kernel
theorem dX2_makeRoom_23 : decode cX2_makeRoom 23 = .ok (.iconst 2, 1) := by decide +kernel
theorem dX2_makeRoom_24 : decode cX2_makeRoom 24 = .ok (.aload_n 0, 1) := by decide +kernel
theorem dX2_makeRoom_25 : decode cX2_makeRoom 25 = .ok (.getfield 15, 3) := by decide +kernel
theorem dX2_makeRoom_28 : decode cX2_makeRoom 28 = .ok (.imul, 1) := by decide +kernel
theorem dX2_makeRoom_29 : decode cX2_makeRoom 29 = .ok (.sipush 12000, 3) := by decide +kernel
theorem dX2_makeRoom_32 : decode cX2_makeRoom 32 = .ok (.invokestatic 39, 3) := by decide +kernel
theorem dX2_makeRoom_35 : decode cX2_makeRoom 35 = .ok (.istore_n 1, 1) := by decide +kernel
theorem dX2_makeRoom_36 : decode cX2_makeRoom 36 = .ok (.aload_n 0, 1) := by decide +kernel
theorem dX2_makeRoom_37 : decode cX2_makeRoom 37 = .ok (.aload_n 0, 1) := by decide +kernel
theorem dX2_makeRoom_38 : decode cX2_makeRoom 38 = .ok (.getfield 19, 3) := by decide +kernel
theorem dX2_makeRoom_41 : decode cX2_makeRoom 41 = .ok (.iload_n 1, 1) := by decide +kernel
theorem dX2_makeRoom_42 : decode cX2_makeRoom 42 = .ok (.invokestatic 45, 3) := by decide +kernel
theorem dX2_makeRoom_45 : decode cX2_makeRoom 45 = .ok (.putfield 19, 3) := by decide +kernel
theorem dX2_makeRoom_48 : decode cX2_makeRoom 48 = .ok (.aload_n 0, 1) := by decide +kernel
theorem dX2_makeRoom_49 : decode cX2_makeRoom 49 = .ok (.aload_n 0, 1) := by decide +kernel
theorem dX2_makeRoom_50 : decode cX2_makeRoom 50 = .ok (.getfield 23, 3) := by decide +kernel
theorem dX2_makeRoom_53 : decode cX2_makeRoom 53 = .ok (.iload_n 1, 1) := by decide +kernel
theorem dX2_makeRoom_54 : decode cX2_makeRoom 54 = .ok (.invokestatic 45, 3) := by decide +kernel
theorem dX2_makeRoom_57 : decode cX2_makeRoom 57 = .ok (.putfield 23, 3) := by decide +kernel
theorem dX2_makeRoom_60 : decode cX2_makeRoom 60 = .ok (.aload_n 0, 1) := by decide +kernel
theorem dX2_makeRoom_61 : decode cX2_makeRoom 61 = .ok (.aload_n 0, 1) := by decide +kernel
theorem dX2_makeRoom_62 : decode cX2_makeRoom 62 = .ok (.getfield 26, 3) := by decide +kernel
theorem dX2_makeRoom_65 : decode cX2_makeRoom 65 = .ok (.iload_n 1, 1) := by decide +kernel
theorem dX2_makeRoom_66 : decode cX2_makeRoom 66 = .ok (.invokestatic 45, 3) := by decide +kernel
theorem dX2_makeRoom_69 : decode cX2_makeRoom 69 = .ok (.putfield 26, 3) := by decide +kernel
theorem dX2_makeRoom_72 : decode cX2_makeRoom 72 = .ok (.aload_n 0, 1) := by decide +kernel
theorem dX2_makeRoom_73 : decode cX2_makeRoom 73 = .ok (.aload_n 0, 1) := by decide +kernel
theorem dX2_makeRoom_74 : decode cX2_makeRoom 74 = .ok (.getfield 29, 3) := by decide +kernel
theorem dX2_makeRoom_77 : decode cX2_makeRoom 77 = .ok (.iload_n 1, 1) := by decide +kernel
theorem dX2_makeRoom_78 : decode cX2_makeRoom 78 = .ok (.invokestatic 51, 3) := by decide +kernel
theorem dX2_makeRoom_81 : decode cX2_makeRoom 81 = .ok (.putfield 29, 3) := by decide +kernel
theorem dX2_makeRoom_84 : decode cX2_makeRoom 84 = .ok (.aload_n 0, 1) := by decide +kernel
theorem dX2_makeRoom_85 : decode cX2_makeRoom 85 = .ok (.aload_n 0, 1) := by decide +kernel
theorem dX2_makeRoom_86 : decode cX2_makeRoom 86 = .ok (.getfield 33, 3) := by decide +kernel
theorem dX2_makeRoom_89 : decode cX2_makeRoom 89 = .ok (.iload_n 1, 1) := by decide +kernel
theorem dX2_makeRoom_90 : decode cX2_makeRoom 90 = .ok (.invokestatic 51, 3) := by decide +kernel
theorem dX2_makeRoom_93 : decode cX2_makeRoom 93 = .ok (.putfield 33, 3) := by decide +kernel
theorem dX2_makeRoom_96 : decode cX2_makeRoom 96 = .ok (.return_, 1) := by decide +kernel
theorem dX2_told_0 : decode cX2_told 0 = .ok (.iload_n 1, 1) := by decide +kernel
theorem dX2_told_1 : decode cX2_told 1 = .ok (.ifCond .lt 39, 3) := by decide +kernel
theorem dX2_told_4 : decode cX2_told 4 = .ok (.iload_n 1, 1) := by decide +kernel
theorem dX2_told_5 : decode cX2_told 5 = .ok (.aload_n 0, 1) := by decide +kernel
theorem dX2_told_6 : decode cX2_told 6 = .ok (.getfield 19, 3) := by decide +kernel
theorem dX2_told_9 : decode cX2_told 9 = .ok (.arraylength, 1) := by decide +kernel
theorem dX2_told_10 : decode cX2_told 10 = .ok (.if_icmp .ge 30, 3) := by decide +kernel
theorem dX2_told_13 : decode cX2_told 13 = .ok (.iload_n 1, 1) := by decide +kernel
theorem dX2_told_14 : decode cX2_told 14 = .ok (.aload_n 0, 1) := by decide +kernel
theorem dX2_told_15 : decode cX2_told 15 = .ok (.getfield 23, 3) := by decide +kernel
theorem dX2_told_18 : decode cX2_told 18 = .ok (.arraylength, 1) := by decide +kernel
theorem dX2_told_19 : decode cX2_told 19 = .ok (.if_icmp .ge 21, 3) := by decide +kernel
theorem dX2_told_22 : decode cX2_told 22 = .ok (.iload_n 1, 1) := by decide +kernel
theorem dX2_told_23 : decode cX2_told 23 = .ok (.aload_n 0, 1) := by decide +kernel
theorem dX2_told_24 : decode cX2_told 24 = .ok (.getfield 26, 3) := by decide +kernel
theorem dX2_told_27 : decode cX2_told 27 = .ok (.arraylength, 1) := by decide +kernel
theorem dX2_told_28 : decode cX2_told 28 = .ok (.if_icmp .ge 12, 3) := by decide +kernel
theorem dX2_told_31 : decode cX2_told 31 = .ok (.iload_n 1, 1) := by decide +kernel
theorem dX2_told_32 : decode cX2_told 32 = .ok (.aload_n 0, 1) := by decide +kernel
theorem dX2_told_33 : decode cX2_told 33 = .ok (.getfield 29, 3) := by decide +kernel
theorem dX2_told_36 : decode cX2_told 36 = .ok (.arraylength, 1) := by decide +kernel
theorem dX2_told_37 : decode cX2_told 37 = .ok (.if_icmp .lt 7, 3) := by decide +kernel
theorem dX2_told_40 : decode cX2_told 40 = .ok (.ldc2_w 54, 3) := by decide +kernel
theorem dX2_told_43 : decode cX2_told 43 = .ok (.lreturn, 1) := by decide +kernel
theorem dX2_told_44 : decode cX2_told 44 = .ok (.iload_n 2, 1) := by decide +kernel
theorem dX2_told_45 : decode cX2_told 45 = .ok (.tableswitch 51 0 2 #[27, 35, 43], 27) := by decide +kernel
theorem dX2_told_72 : decode cX2_told 72 = .ok (.aload_n 0, 1) := by decide +kernel
theorem dX2_told_73 : decode cX2_told 73 = .ok (.getfield 19, 3) := by decide +kernel
theorem dX2_told_76 : decode cX2_told 76 = .ok (.iload_n 1, 1) := by decide +kernel
theorem dX2_told_77 : decode cX2_told 77 = .ok (.iaload, 1) := by decide +kernel
theorem dX2_told_78 : decode cX2_told 78 = .ok (.i2l, 1) := by decide +kernel
theorem dX2_told_79 : decode cX2_told 79 = .ok (.lreturn, 1) := by decide +kernel
theorem dX2_told_80 : decode cX2_told 80 = .ok (.aload_n 0, 1) := by decide +kernel
theorem dX2_told_81 : decode cX2_told 81 = .ok (.getfield 23, 3) := by decide +kernel
theorem dX2_told_84 : decode cX2_told 84 = .ok (.iload_n 1, 1) := by decide +kernel
theorem dX2_told_85 : decode cX2_told 85 = .ok (.iaload, 1) := by decide +kernel
theorem dX2_told_86 : decode cX2_told 86 = .ok (.i2l, 1) := by decide +kernel
theorem dX2_told_87 : decode cX2_told 87 = .ok (.lreturn, 1) := by decide +kernel
theorem dX2_told_88 : decode cX2_told 88 = .ok (.aload_n 0, 1) := by decide +kernel
theorem dX2_told_89 : decode cX2_told 89 = .ok (.getfield 26, 3) := by decide +kernel
theorem dX2_told_92 : decode cX2_told 92 = .ok (.iload_n 1, 1) := by decide +kernel
theorem dX2_told_93 : decode cX2_told 93 = .ok (.iaload, 1) := by decide +kernel
theorem dX2_told_94 : decode cX2_told 94 = .ok (.i2l, 1) := by decide +kernel
theorem dX2_told_95 : decode cX2_told 95 = .ok (.lreturn, 1) := by decide +kernel
theorem dX2_told_96 : decode cX2_told 96 = .ok (.aload_n 0, 1) := by decide +kernel
theorem dX2_told_97 : decode cX2_told 97 = .ok (.getfield 29, 3) := by decide +kernel
theorem dX2_told_100 : decode cX2_told 100 = .ok (.iload_n 1, 1) := by decide +kernel
theorem dX2_told_101 : decode cX2_told 101 = .ok (.laload, 1) := by decide +kernel
theorem dX2_told_102 : decode cX2_told 102 = .ok (.lreturn, 1) := by decide +kernel
theorem dX2_heldBehind_0 : decode cX2_heldBehind 0 = .ok (.aload_n 0, 1) := by decide +kernel
theorem dX2_heldBehind_1 : decode cX2_heldBehind 1 = .ok (.getfield 15, 3) := by decide +kernel
theorem dX2_heldBehind_4 : decode cX2_heldBehind 4 = .ok (.aload_n 0, 1) := by decide +kernel
theorem dX2_heldBehind_5 : decode cX2_heldBehind 5 = .ok (.getfield 33, 3) := by decide +kernel
theorem dX2_heldBehind_8 : decode cX2_heldBehind 8 = .ok (.arraylength, 1) := by decide +kernel
theorem dX2_heldBehind_9 : decode cX2_heldBehind 9 = .ok (.invokestatic 39, 3) := by decide +kernel
theorem dX2_heldBehind_12 : decode cX2_heldBehind 12 = .ok (.iconst 1, 1) := by decide +kernel
theorem dX2_heldBehind_13 : decode cX2_heldBehind 13 = .ok (.isub, 1) := by decide +kernel
theorem dX2_heldBehind_14 : decode cX2_heldBehind 14 = .ok (.istore_n 2, 1) := by decide +kernel
theorem dX2_heldBehind_15 : decode cX2_heldBehind 15 = .ok (.iload_n 2, 1) := by decide +kernel
theorem dX2_heldBehind_16 : decode cX2_heldBehind 16 = .ok (.ifCond .lt 35, 3) := by decide +kernel
theorem dX2_heldBehind_19 : decode cX2_heldBehind 19 = .ok (.iload_n 2, 1) := by decide +kernel
theorem dX2_heldBehind_20 : decode cX2_heldBehind 20 = .ok (.aload_n 0, 1) := by decide +kernel
theorem dX2_heldBehind_21 : decode cX2_heldBehind 21 = .ok (.getfield 19, 3) := by decide +kernel
theorem dX2_heldBehind_24 : decode cX2_heldBehind 24 = .ok (.arraylength, 1) := by decide +kernel
theorem dX2_heldBehind_25 : decode cX2_heldBehind 25 = .ok (.if_icmp .ge 20, 3) := by decide +kernel
theorem dX2_heldBehind_28 : decode cX2_heldBehind 28 = .ok (.aload_n 0, 1) := by decide +kernel
theorem dX2_heldBehind_29 : decode cX2_heldBehind 29 = .ok (.getfield 19, 3) := by decide +kernel
theorem dX2_heldBehind_32 : decode cX2_heldBehind 32 = .ok (.iload_n 2, 1) := by decide +kernel
theorem dX2_heldBehind_33 : decode cX2_heldBehind 33 = .ok (.iaload, 1) := by decide +kernel
theorem dX2_heldBehind_34 : decode cX2_heldBehind 34 = .ok (.iload_n 1, 1) := by decide +kernel
theorem dX2_heldBehind_35 : decode cX2_heldBehind 35 = .ok (.if_icmp .gt 10, 3) := by decide +kernel
theorem dX2_heldBehind_38 : decode cX2_heldBehind 38 = .ok (.aload_n 0, 1) := by decide +kernel
theorem dX2_heldBehind_39 : decode cX2_heldBehind 39 = .ok (.getfield 33, 3) := by decide +kernel
theorem dX2_heldBehind_42 : decode cX2_heldBehind 42 = .ok (.iload_n 2, 1) := by decide +kernel
theorem dX2_heldBehind_43 : decode cX2_heldBehind 43 = .ok (.laload, 1) := by decide +kernel
theorem dX2_heldBehind_44 : decode cX2_heldBehind 44 = .ok (.lreturn, 1) := by decide +kernel
theorem dX2_heldBehind_45 : decode cX2_heldBehind 45 = .ok (.iinc 2 (-1), 3) := by decide +kernel
theorem dX2_heldBehind_48 : decode cX2_heldBehind 48 = .ok (.goto (-33), 3) := by decide +kernel
theorem dX2_heldBehind_51 : decode cX2_heldBehind 51 = .ok (.lconst 0, 1) := by decide +kernel
theorem dX2_heldBehind_52 : decode cX2_heldBehind 52 = .ok (.lreturn, 1) := by decide +kernel
theorem dX3_init_0 : decode cX3_init 0 = .ok (.aload_n 0, 1) := by decide +kernel
theorem dX3_init_1 : decode cX3_init 1 = .ok (.invokespecial 3, 3) := by decide +kernel
theorem dX3_init_4 : decode cX3_init 4 = .ok (.aload_n 0, 1) := by decide +kernel
theorem dX3_init_5 : decode cX3_init 5 = .ok (.iconst (-1), 1) := by decide +kernel
theorem dX3_init_6 : decode cX3_init 6 = .ok (.putfield 9, 3) := by decide +kernel
theorem dX3_init_9 : decode cX3_init 9 = .ok (.aload_n 0, 1) := by decide +kernel
theorem dX3_init_10 : decode cX3_init 10 = .ok (.iconst 0, 1) := by decide +kernel
theorem dX3_init_11 : decode cX3_init 11 = .ok (.putfield 15, 3) := by decide +kernel
theorem dX3_init_14 : decode cX3_init 14 = .ok (.aload_n 0, 1) := by decide +kernel
theorem dX3_init_15 : decode cX3_init 15 = .ok (.iconst 1, 1) := by decide +kernel
theorem dX3_init_16 : decode cX3_init 16 = .ok (.putfield 18, 3) := by decide +kernel
theorem dX3_init_19 : decode cX3_init 19 = .ok (.aload_n 0, 1) := by decide +kernel
theorem dX3_init_20 : decode cX3_init 20 = .ok (.iconst 0, 1) := by decide +kernel
theorem dX3_init_21 : decode cX3_init 21 = .ok (.newarray .int, 2) := by decide +kernel
theorem dX3_init_23 : decode cX3_init 23 = .ok (.putfield 21, 3) := by decide +kernel
theorem dX3_init_26 : decode cX3_init 26 = .ok (.aload_n 0, 1) := by decide +kernel
theorem dX3_init_27 : decode cX3_init 27 = .ok (.iload_n 1, 1) := by decide +kernel
theorem dX3_init_28 : decode cX3_init 28 = .ok (.putfield 25, 3) := by decide +kernel
theorem dX3_init_31 : decode cX3_init 31 = .ok (.return_, 1) := by decide +kernel
theorem dX3_holdsOf_0 : decode cX3_holdsOf 0 = .ok (.aload_n 0, 1) := by decide +kernel
theorem dX3_holdsOf_1 : decode cX3_holdsOf 1 = .ok (.getfield 21, 3) := by decide +kernel
theorem dX3_holdsOf_4 : decode cX3_holdsOf 4 = .ok (.arraylength, 1) := by decide +kernel
theorem dX3_holdsOf_5 : decode cX3_holdsOf 5 = .ok (.ifCond .ne 5, 3) := by decide +kernel
theorem dX3_holdsOf_8 : decode cX3_holdsOf 8 = .ok (.iconst 1, 1) := by decide +kernel
theorem dX3_holdsOf_9 : decode cX3_holdsOf 9 = .ok (.ireturn, 1) := by decide +kernel
theorem dX3_holdsOf_10 : decode cX3_holdsOf 10 = .ok (.lconst 0, 1) := by decide +kernel
theorem dX3_holdsOf_11 : decode cX3_holdsOf 11 = .ok (.lstore_n 2, 1) := by decide +kernel
theorem dX3_holdsOf_12 : decode cX3_holdsOf 12 = .ok (.iconst 0, 1) := by decide +kernel
theorem dX3_holdsOf_13 : decode cX3_holdsOf 13 = .ok (.istore 4, 2) := by decide +kernel
theorem dX3_holdsOf_15 : decode cX3_holdsOf 15 = .ok (.iload 4, 2) := by decide +kernel
theorem dX3_holdsOf_17 : decode cX3_holdsOf 17 = .ok (.iconst 2, 1) := by decide +kernel
theorem dX3_holdsOf_18 : decode cX3_holdsOf 18 = .ok (.iadd, 1) := by decide +kernel
theorem dX3_holdsOf_19 : decode cX3_holdsOf 19 = .ok (.aload_n 0, 1) := by decide +kernel
theorem dX3_holdsOf_20 : decode cX3_holdsOf 20 = .ok (.getfield 21, 3) := by decide +kernel
theorem dX3_holdsOf_23 : decode cX3_holdsOf 23 = .ok (.arraylength, 1) := by decide +kernel
theorem dX3_holdsOf_24 : decode cX3_holdsOf 24 = .ok (.if_icmp .ge 137, 3) := by decide +kernel
theorem dX3_holdsOf_27 : decode cX3_holdsOf 27 = .ok (.lload_n 2, 1) := by decide +kernel
theorem dX3_holdsOf_28 : decode cX3_holdsOf 28 = .ok (.lconst 1, 1) := by decide +kernel
theorem dX3_holdsOf_29 : decode cX3_holdsOf 29 = .ok (.land, 1) := by decide +kernel
theorem dX3_holdsOf_30 : decode cX3_holdsOf 30 = .ok (.lstore 5, 2) := by decide +kernel
theorem dX3_holdsOf_32 : decode cX3_holdsOf 32 = .ok (.aload_n 0, 1) := by decide +kernel
theorem dX3_holdsOf_33 : decode cX3_holdsOf 33 = .ok (.getfield 21, 3) := by decide +kernel
theorem dX3_holdsOf_36 : decode cX3_holdsOf 36 = .ok (.iload 4, 2) := by decide +kernel
theorem dX3_holdsOf_38 : decode cX3_holdsOf 38 = .ok (.iaload, 1) := by decide +kernel
theorem dX3_holdsOf_39 : decode cX3_holdsOf 39 = .ok (.sipush 266, 3) := by decide +kernel
theorem dX3_holdsOf_42 : decode cX3_holdsOf 42 = .ok (.if_icmp .ne 10, 3) := by decide +kernel
theorem dX3_holdsOf_45 : decode cX3_holdsOf 45 = .ok (.lload_n 2, 1) := by decide +kernel
theorem dX3_holdsOf_46 : decode cX3_holdsOf 46 = .ok (.lconst 1, 1) := by decide +kernel
theorem dX3_holdsOf_47 : decode cX3_holdsOf 47 = .ok (.lxor, 1) := by decide +kernel
theorem dX3_holdsOf_48 : decode cX3_holdsOf 48 = .ok (.lstore_n 2, 1) := by decide +kernel
theorem dX3_holdsOf_49 : decode cX3_holdsOf 49 = .ok (.goto 106, 3) := by decide +kernel
theorem dX3_holdsOf_52 : decode cX3_holdsOf 52 = .ok (.aload_n 0, 1) := by decide +kernel
theorem dX3_holdsOf_53 : decode cX3_holdsOf 53 = .ok (.getfield 21, 3) := by decide +kernel
theorem dX3_holdsOf_56 : decode cX3_holdsOf 56 = .ok (.iload 4, 2) := by decide +kernel
theorem dX3_holdsOf_58 : decode cX3_holdsOf 58 = .ok (.iaload, 1) := by decide +kernel
theorem dX3_holdsOf_59 : decode cX3_holdsOf 59 = .ok (.sipush 264, 3) := by decide +kernel
theorem dX3_holdsOf_62 : decode cX3_holdsOf 62 = .ok (.if_icmp .ne 13, 3) := by decide +kernel
theorem dX3_holdsOf_65 : decode cX3_holdsOf 65 = .ok (.lload_n 2, 1) := by decide +kernel
theorem dX3_holdsOf_66 : decode cX3_holdsOf 66 = .ok (.iconst 1, 1) := by decide +kernel
theorem dX3_holdsOf_67 : decode cX3_holdsOf 67 = .ok (.lshr, 1) := by decide +kernel
theorem dX3_holdsOf_68 : decode cX3_holdsOf 68 = .ok (.lload 5, 2) := by decide +kernel
theorem dX3_holdsOf_70 : decode cX3_holdsOf 70 = .ok (.lor, 1) := by decide +kernel
theorem dX3_holdsOf_71 : decode cX3_holdsOf 71 = .ok (.lstore_n 2, 1) := by decide +kernel
theorem dX3_holdsOf_72 : decode cX3_holdsOf 72 = .ok (.goto 83, 3) := by decide +kernel
theorem dX3_holdsOf_75 : decode cX3_holdsOf 75 = .ok (.aload_n 0, 1) := by decide +kernel
theorem dX3_holdsOf_76 : decode cX3_holdsOf 76 = .ok (.getfield 21, 3) := by decide +kernel
theorem dX3_holdsOf_79 : decode cX3_holdsOf 79 = .ok (.iload 4, 2) := by decide +kernel
theorem dX3_holdsOf_81 : decode cX3_holdsOf 81 = .ok (.iaload, 1) := by decide +kernel
theorem dX3_holdsOf_82 : decode cX3_holdsOf 82 = .ok (.sipush 265, 3) := by decide +kernel
theorem dX3_holdsOf_85 : decode cX3_holdsOf 85 = .ok (.if_icmp .ne 27, 3) := by decide +kernel
theorem dX3_holdsOf_88 : decode cX3_holdsOf 88 = .ok (.lload 5, 2) := by decide +kernel
theorem dX3_holdsOf_90 : decode cX3_holdsOf 90 = .ok (.lconst 1, 1) := by decide +kernel
theorem dX3_holdsOf_91 : decode cX3_holdsOf 91 = .ok (.lcmp, 1) := by decide +kernel
theorem dX3_holdsOf_92 : decode cX3_holdsOf 92 = .ok (.ifCond .ne 9, 3) := by decide +kernel
theorem dX3_holdsOf_95 : decode cX3_holdsOf 95 = .ok (.lload_n 2, 1) := by decide +kernel
theorem dX3_holdsOf_96 : decode cX3_holdsOf 96 = .ok (.iconst 1, 1) := by decide +kernel
theorem dX3_holdsOf_97 : decode cX3_holdsOf 97 = .ok (.lshr, 1) := by decide +kernel
theorem dX3_holdsOf_98 : decode cX3_holdsOf 98 = .ok (.goto 10, 3) := by decide +kernel
theorem dX3_holdsOf_101 : decode cX3_holdsOf 101 = .ok (.lload_n 2, 1) := by decide +kernel
theorem dX3_holdsOf_102 : decode cX3_holdsOf 102 = .ok (.iconst 1, 1) := by decide +kernel
theorem dX3_holdsOf_103 : decode cX3_holdsOf 103 = .ok (.lshr, 1) := by decide +kernel
theorem dX3_holdsOf_104 : decode cX3_holdsOf 104 = .ok (.ldc2_w 28, 3) := by decide +kernel
theorem dX3_holdsOf_107 : decode cX3_holdsOf 107 = .ok (.land, 1) := by decide +kernel
theorem dX3_holdsOf_108 : decode cX3_holdsOf 108 = .ok (.lstore_n 2, 1) := by decide +kernel
theorem dX3_holdsOf_109 : decode cX3_holdsOf 109 = .ok (.goto 46, 3) := by decide +kernel
theorem dX3_holdsOf_112 : decode cX3_holdsOf 112 = .ok (.lload_n 2, 1) := by decide +kernel
theorem dX3_holdsOf_113 : decode cX3_holdsOf 113 = .ok (.iconst 1, 1) := by decide +kernel
theorem dX3_holdsOf_114 : decode cX3_holdsOf 114 = .ok (.lshl, 1) := by decide +kernel
theorem dX3_holdsOf_115 : decode cX3_holdsOf 115 = .ok (.aload_n 1, 1) := by decide +kernel
theorem dX3_holdsOf_116 : decode cX3_holdsOf 116 = .ok (.aload_n 0, 1) := by decide +kernel
theorem dX3_holdsOf_117 : decode cX3_holdsOf 117 = .ok (.getfield 21, 3) := by decide +kernel
theorem dX3_holdsOf_120 : decode cX3_holdsOf 120 = .ok (.iload 4, 2) := by decide +kernel
theorem dX3_holdsOf_122 : decode cX3_holdsOf 122 = .ok (.iaload, 1) := by decide +kernel
theorem dX3_holdsOf_123 : decode cX3_holdsOf 123 = .ok (.aload_n 0, 1) := by decide +kernel
theorem dX3_holdsOf_124 : decode cX3_holdsOf 124 = .ok (.getfield 21, 3) := by decide +kernel
theorem dX3_holdsOf_127 : decode cX3_holdsOf 127 = .ok (.iload 4, 2) := by decide +kernel
theorem dX3_holdsOf_129 : decode cX3_holdsOf 129 = .ok (.iconst 1, 1) := by decide +kernel
theorem dX3_holdsOf_130 : decode cX3_holdsOf 130 = .ok (.iadd, 1) := by decide +kernel
theorem dX3_holdsOf_131 : decode cX3_holdsOf 131 = .ok (.iaload, 1) := by decide +kernel
theorem dX3_holdsOf_132 : decode cX3_holdsOf 132 = .ok (.aload_n 0, 1) := by decide +kernel
theorem dX3_holdsOf_133 : decode cX3_holdsOf 133 = .ok (.getfield 21, 3) := by decide +kernel
theorem dX3_holdsOf_136 : decode cX3_holdsOf 136 = .ok (.iload 4, 2) := by decide +kernel
theorem dX3_holdsOf_138 : decode cX3_holdsOf 138 = .ok (.iconst 2, 1) := by decide +kernel
theorem dX3_holdsOf_139 : decode cX3_holdsOf 139 = .ok (.iadd, 1) := by decide +kernel
theorem dX3_holdsOf_140 : decode cX3_holdsOf 140 = .ok (.iaload, 1) := by decide +kernel
theorem dX3_holdsOf_141 : decode cX3_holdsOf 141 = .ok (.invokestatic 30, 3) := by decide +kernel
theorem dX3_holdsOf_144 : decode cX3_holdsOf 144 = .ok (.ifCond .eq 7, 3) := by decide +kernel
theorem dX3_holdsOf_147 : decode cX3_holdsOf 147 = .ok (.iconst 1, 1) := by decide +kernel
theorem dX3_holdsOf_148 : decode cX3_holdsOf 148 = .ok (.goto 4, 3) := by decide +kernel
theorem dX3_holdsOf_151 : decode cX3_holdsOf 151 = .ok (.iconst 0, 1) := by decide +kernel
theorem dX3_holdsOf_152 : decode cX3_holdsOf 152 = .ok (.i2l, 1) := by decide +kernel
theorem dX3_holdsOf_153 : decode cX3_holdsOf 153 = .ok (.lor, 1) := by decide +kernel
theorem dX3_holdsOf_154 : decode cX3_holdsOf 154 = .ok (.lstore_n 2, 1) := by decide +kernel
theorem dX3_holdsOf_155 : decode cX3_holdsOf 155 = .ok (.iinc 4 3, 3) := by decide +kernel
theorem dX3_holdsOf_158 : decode cX3_holdsOf 158 = .ok (.goto (-143), 3) := by decide +kernel
theorem dX3_holdsOf_161 : decode cX3_holdsOf 161 = .ok (.lload_n 2, 1) := by decide +kernel
theorem dX3_holdsOf_162 : decode cX3_holdsOf 162 = .ok (.lconst 1, 1) := by decide +kernel
theorem dX3_holdsOf_163 : decode cX3_holdsOf 163 = .ok (.land, 1) := by decide +kernel
theorem dX3_holdsOf_164 : decode cX3_holdsOf 164 = .ok (.lconst 1, 1) := by decide +kernel
theorem dX3_holdsOf_165 : decode cX3_holdsOf 165 = .ok (.lcmp, 1) := by decide +kernel
theorem dX3_holdsOf_166 : decode cX3_holdsOf 166 = .ok (.ifCond .ne 7, 3) := by decide +kernel
theorem dX3_holdsOf_169 : decode cX3_holdsOf 169 = .ok (.iconst 1, 1) := by decide +kernel
theorem dX3_holdsOf_170 : decode cX3_holdsOf 170 = .ok (.goto 4, 3) := by decide +kernel
theorem dX3_holdsOf_173 : decode cX3_holdsOf 173 = .ok (.iconst 0, 1) := by decide +kernel
theorem dX3_holdsOf_174 : decode cX3_holdsOf 174 = .ok (.ireturn, 1) := by decide +kernel
theorem dX3_isTrue_0 : decode cX3_isTrue 0 = .ok (.iload_n 1, 1) := by decide +kernel
theorem dX3_isTrue_1 : decode cX3_isTrue 1 = .ok (.sipush 267, 3) := by decide +kernel
theorem dX3_isTrue_4 : decode cX3_isTrue 4 = .ok (.isub, 1) := by decide +kernel
theorem dX3_isTrue_5 : decode cX3_isTrue 5 = .ok (.istore 4, 2) := by decide +kernel
theorem dX3_isTrue_7 : decode cX3_isTrue 7 = .ok (.iload 4, 2) := by decide +kernel
theorem dX3_isTrue_9 : decode cX3_isTrue 9 = .ok (.ifCond .lt 17, 3) := by decide +kernel
theorem dX3_isTrue_12 : decode cX3_isTrue 12 = .ok (.iload 4, 2) := by decide +kernel
theorem dX3_isTrue_14 : decode cX3_isTrue 14 = .ok (.aload_n 0, 1) := by decide +kernel
theorem dX3_isTrue_15 : decode cX3_isTrue 15 = .ok (.arraylength, 1) := by decide +kernel
theorem dX3_isTrue_16 : decode cX3_isTrue 16 = .ok (.if_icmp .ge 10, 3) := by decide +kernel
theorem dX3_isTrue_19 : decode cX3_isTrue 19 = .ok (.aload_n 0, 1) := by decide +kernel
theorem dX3_isTrue_20 : decode cX3_isTrue 20 = .ok (.iload 4, 2) := by decide +kernel
theorem dX3_isTrue_22 : decode cX3_isTrue 22 = .ok (.iaload, 1) := by decide +kernel
theorem dX3_isTrue_23 : decode cX3_isTrue 23 = .ok (.goto 4, 3) := by decide +kernel
theorem dX3_isTrue_26 : decode cX3_isTrue 26 = .ok (.iconst 0, 1) := by decide +kernel
theorem dX3_isTrue_27 : decode cX3_isTrue 27 = .ok (.istore 5, 2) := by decide +kernel
theorem dX3_isTrue_29 : decode cX3_isTrue 29 = .ok (.iload_n 2, 1) := by decide +kernel
theorem dX3_isTrue_30 : decode cX3_isTrue 30 = .ok (.bipush 61, 2) := by decide +kernel
theorem dX3_isTrue_32 : decode cX3_isTrue 32 = .ok (.if_icmp .ne 15, 3) := by decide +kernel
theorem dX3_isTrue_35 : decode cX3_isTrue 35 = .ok (.iload 5, 2) := by decide +kernel
theorem dX3_isTrue_37 : decode cX3_isTrue 37 = .ok (.iload_n 3, 1) := by decide +kernel
theorem dX3_isTrue_38 : decode cX3_isTrue 38 = .ok (.if_icmp .ne 7, 3) := by decide +kernel
theorem dX3_isTrue_41 : decode cX3_isTrue 41 = .ok (.iconst 1, 1) := by decide +kernel
theorem dX3_isTrue_42 : decode cX3_isTrue 42 = .ok (.goto 4, 3) := by decide +kernel
theorem dX3_isTrue_45 : decode cX3_isTrue 45 = .ok (.iconst 0, 1) := by decide +kernel
theorem dX3_isTrue_46 : decode cX3_isTrue 46 = .ok (.ireturn, 1) := by decide +kernel
theorem dX3_isTrue_47 : decode cX3_isTrue 47 = .ok (.iload_n 2, 1) := by decide +kernel
theorem dX3_isTrue_48 : decode cX3_isTrue 48 = .ok (.bipush 60, 2) := by decide +kernel
theorem dX3_isTrue_50 : decode cX3_isTrue 50 = .ok (.if_icmp .ne 17, 3) := by decide +kernel
theorem dX3_isTrue_53 : decode cX3_isTrue 53 = .ok (.iload 5, 2) := by decide +kernel
theorem dX3_isTrue_55 : decode cX3_isTrue 55 = .ok (.iload_n 3, 1) := by decide +kernel
theorem dX3_isTrue_56 : decode cX3_isTrue 56 = .ok (.if_icmp .ge 7, 3) := by decide +kernel
theorem dX3_isTrue_59 : decode cX3_isTrue 59 = .ok (.iconst 1, 1) := by decide +kernel
theorem dX3_isTrue_60 : decode cX3_isTrue 60 = .ok (.goto 18, 3) := by decide +kernel
theorem dX3_isTrue_63 : decode cX3_isTrue 63 = .ok (.iconst 0, 1) := by decide +kernel
theorem dX3_isTrue_64 : decode cX3_isTrue 64 = .ok (.goto 14, 3) := by decide +kernel
theorem dX3_isTrue_67 : decode cX3_isTrue 67 = .ok (.iload 5, 2) := by decide +kernel
theorem dX3_isTrue_69 : decode cX3_isTrue 69 = .ok (.iload_n 3, 1) := by decide +kernel
theorem dX3_isTrue_70 : decode cX3_isTrue 70 = .ok (.if_icmp .le 7, 3) := by decide +kernel
theorem dX3_isTrue_73 : decode cX3_isTrue 73 = .ok (.iconst 1, 1) := by decide +kernel
theorem dX3_isTrue_74 : decode cX3_isTrue 74 = .ok (.goto 4, 3) := by decide +kernel
theorem dX3_isTrue_77 : decode cX3_isTrue 77 = .ok (.iconst 0, 1) := by decide +kernel
theorem dX3_isTrue_78 : decode cX3_isTrue 78 = .ok (.ireturn, 1) := by decide +kernel
theorem dX4_init_0 : decode cX4_init 0 = .ok (.aload_n 0, 1) := by decide +kernel
theorem dX4_init_1 : decode cX4_init 1 = .ok (.invokespecial 1, 3) := by decide +kernel
theorem dX4_init_4 : decode cX4_init 4 = .ok (.aload_n 0, 1) := by decide +kernel
theorem dX4_init_5 : decode cX4_init 5 = .ok (.iload_n 1, 1) := by decide +kernel
theorem dX4_init_6 : decode cX4_init 6 = .ok (.putfield 7, 3) := by decide +kernel
theorem dX4_init_9 : decode cX4_init 9 = .ok (.aload_n 0, 1) := by decide +kernel
theorem dX4_init_10 : decode cX4_init 10 = .ok (.iload_n 2, 1) := by decide +kernel
theorem dX4_init_11 : decode cX4_init 11 = .ok (.i2l, 1) := by decide +kernel
theorem dX4_init_12 : decode cX4_init 12 = .ok (.putfield 13, 3) := by decide +kernel
theorem dX4_init_15 : decode cX4_init 15 = .ok (.return_, 1) := by decide +kernel
theorem dX5_init_0 : decode cX5_init 0 = .ok (.aload_n 0, 1) := by decide +kernel
theorem dX5_init_1 : decode cX5_init 1 = .ok (.invokespecial 1, 3) := by decide +kernel
theorem dX5_init_4 : decode cX5_init 4 = .ok (.aload_n 0, 1) := by decide +kernel
theorem dX5_init_5 : decode cX5_init 5 = .ok (.new 7, 3) := by decide +kernel
theorem dX5_init_8 : decode cX5_init 8 = .ok (.dup, 1) := by decide +kernel
theorem dX5_init_9 : decode cX5_init 9 = .ok (.invokespecial 9, 3) := by decide +kernel
theorem dX5_init_12 : decode cX5_init 12 = .ok (.putfield 10, 3) := by decide +kernel
theorem dX5_init_15 : decode cX5_init 15 = .ok (.aload_n 0, 1) := by decide +kernel
theorem dX5_init_16 : decode cX5_init 16 = .ok (.iconst 0, 1) := by decide +kernel
theorem dX5_init_17 : decode cX5_init 17 = .ok (.putfield 16, 3) := by decide +kernel
theorem dX5_init_20 : decode cX5_init 20 = .ok (.aload_n 0, 1) := by decide +kernel
theorem dX5_init_21 : decode cX5_init 21 = .ok (.aconst_null, 1) := by decide +kernel
theorem dX5_init_22 : decode cX5_init 22 = .ok (.putfield 20, 3) := by decide +kernel
theorem dX5_init_25 : decode cX5_init 25 = .ok (.aload_n 0, 1) := by decide +kernel
theorem dX5_init_26 : decode cX5_init 26 = .ok (.iconst 0, 1) := by decide +kernel
theorem dX5_init_27 : decode cX5_init 27 = .ok (.putfield 24, 3) := by decide +kernel
theorem dX5_init_30 : decode cX5_init 30 = .ok (.aload_n 0, 1) := by decide +kernel
theorem dX5_init_31 : decode cX5_init 31 = .ok (.iconst 0, 1) := by decide +kernel
theorem dX5_init_32 : decode cX5_init 32 = .ok (.putfield 27, 3) := by decide +kernel
theorem dX5_init_35 : decode cX5_init 35 = .ok (.aload_n 0, 1) := by decide +kernel
theorem dX5_init_36 : decode cX5_init 36 = .ok (.iconst 0, 1) := by decide +kernel
theorem dX5_init_37 : decode cX5_init 37 = .ok (.putfield 30, 3) := by decide +kernel
theorem dX5_init_40 : decode cX5_init 40 = .ok (.aload_n 0, 1) := by decide +kernel
theorem dX5_init_41 : decode cX5_init 41 = .ok (.iconst 0, 1) := by decide +kernel
theorem dX5_init_42 : decode cX5_init 42 = .ok (.putfield 33, 3) := by decide +kernel
theorem dX5_init_45 : decode cX5_init 45 = .ok (.aload_n 0, 1) := by decide +kernel
theorem dX5_init_46 : decode cX5_init 46 = .ok (.iload_n 1, 1) := by decide +kernel
theorem dX5_init_47 : decode cX5_init 47 = .ok (.putfield 36, 3) := by decide +kernel
theorem dX5_init_50 : decode cX5_init 50 = .ok (.aload_n 0, 1) := by decide +kernel
theorem dX5_init_51 : decode cX5_init 51 = .ok (.aload_n 2, 1) := by decide +kernel
theorem dX5_init_52 : decode cX5_init 52 = .ok (.putfield 39, 3) := by decide +kernel
theorem dX5_init_55 : decode cX5_init 55 = .ok (.return_, 1) := by decide +kernel
theorem dX5_bestBid_0 : decode cX5_bestBid 0 = .ok (.aconst_null, 1) := by decide +kernel
theorem dX5_bestBid_1 : decode cX5_bestBid 1 = .ok (.astore_n 1, 1) := by decide +kernel
theorem dX5_bestBid_2 : decode cX5_bestBid 2 = .ok (.iconst 0, 1) := by decide +kernel
theorem dX5_bestBid_3 : decode cX5_bestBid 3 = .ok (.istore_n 2, 1) := by decide +kernel
theorem dX5_bestBid_4 : decode cX5_bestBid 4 = .ok (.iload_n 2, 1) := by decide +kernel
theorem dX5_bestBid_5 : decode cX5_bestBid 5 = .ok (.aload_n 0, 1) := by decide +kernel
theorem dX5_bestBid_6 : decode cX5_bestBid 6 = .ok (.getfield 10, 3) := by decide +kernel
theorem dX5_bestBid_9 : decode cX5_bestBid 9 = .ok (.invokevirtual 43, 3) := by decide +kernel
theorem dX5_bestBid_12 : decode cX5_bestBid 12 = .ok (.if_icmp .ge 45, 3) := by decide +kernel
theorem dX5_bestBid_15 : decode cX5_bestBid 15 = .ok (.aload_n 0, 1) := by decide +kernel
theorem dX5_bestBid_16 : decode cX5_bestBid 16 = .ok (.getfield 10, 3) := by decide +kernel
theorem dX5_bestBid_19 : decode cX5_bestBid 19 = .ok (.iload_n 2, 1) := by decide +kernel
theorem dX5_bestBid_20 : decode cX5_bestBid 20 = .ok (.invokevirtual 47, 3) := by decide +kernel
theorem dX5_bestBid_23 : decode cX5_bestBid 23 = .ok (.checkcast 51, 3) := by decide +kernel
theorem dX5_bestBid_26 : decode cX5_bestBid 26 = .ok (.astore_n 3, 1) := by decide +kernel
theorem dX5_bestBid_27 : decode cX5_bestBid 27 = .ok (.aload_n 3, 1) := by decide +kernel
theorem dX5_bestBid_28 : decode cX5_bestBid 28 = .ok (.invokevirtual 53, 3) := by decide +kernel
theorem dX5_bestBid_31 : decode cX5_bestBid 31 = .ok (.ifCond .eq 20, 3) := by decide +kernel
theorem dX5_bestBid_34 : decode cX5_bestBid 34 = .ok (.aload_n 1, 1) := by decide +kernel
theorem dX5_bestBid_35 : decode cX5_bestBid 35 = .ok (.ifnull 14, 3) := by decide +kernel
theorem dX5_bestBid_38 : decode cX5_bestBid 38 = .ok (.aload_n 3, 1) := by decide +kernel
theorem dX5_bestBid_39 : decode cX5_bestBid 39 = .ok (.getfield 57, 3) := by decide +kernel
theorem dX5_bestBid_42 : decode cX5_bestBid 42 = .ok (.aload_n 1, 1) := by decide +kernel
theorem dX5_bestBid_43 : decode cX5_bestBid 43 = .ok (.getfield 57, 3) := by decide +kernel
theorem dX5_bestBid_46 : decode cX5_bestBid 46 = .ok (.if_icmp .le 5, 3) := by decide +kernel
theorem dX5_bestBid_49 : decode cX5_bestBid 49 = .ok (.aload_n 3, 1) := by decide +kernel
theorem dX5_bestBid_50 : decode cX5_bestBid 50 = .ok (.astore_n 1, 1) := by decide +kernel
theorem dX5_bestBid_51 : decode cX5_bestBid 51 = .ok (.iinc 2 1, 3) := by decide +kernel
theorem dX5_bestBid_54 : decode cX5_bestBid 54 = .ok (.goto (-50), 3) := by decide +kernel
theorem dX5_bestBid_57 : decode cX5_bestBid 57 = .ok (.aload_n 1, 1) := by decide +kernel
theorem dX5_bestBid_58 : decode cX5_bestBid 58 = .ok (.areturn, 1) := by decide +kernel
theorem dX5_beginLease_0 : decode cX5_beginLease 0 = .ok (.aload_n 0, 1) := by decide +kernel
theorem dX5_beginLease_1 : decode cX5_beginLease 1 = .ok (.aload_n 1, 1) := by decide +kernel
theorem dX5_beginLease_2 : decode cX5_beginLease 2 = .ok (.getfield 58, 3) := by decide +kernel
theorem dX5_beginLease_5 : decode cX5_beginLease 5 = .ok (.putfield 20, 3) := by decide +kernel
theorem dX5_beginLease_8 : decode cX5_beginLease 8 = .ok (.aload_n 0, 1) := by decide +kernel
theorem dX5_beginLease_9 : decode cX5_beginLease 9 = .ok (.getfield 20, 3) := by decide +kernel
theorem dX5_beginLease_12 : decode cX5_beginLease 12 = .ok (.dup, 1) := by decide +kernel
theorem dX5_beginLease_13 : decode cX5_beginLease 13 = .ok (.getfield 61, 3) := by decide +kernel
theorem dX5_beginLease_16 : decode cX5_beginLease 16 = .ok (.aload_n 1, 1) := by decide +kernel
theorem dX5_beginLease_17 : decode cX5_beginLease 17 = .ok (.getfield 67, 3) := by decide +kernel
theorem dX5_beginLease_20 : decode cX5_beginLease 20 = .ok (.i2l, 1) := by decide +kernel
theorem dX5_beginLease_21 : decode cX5_beginLease 21 = .ok (.lsub, 1) := by decide +kernel
theorem dX5_beginLease_22 : decode cX5_beginLease 22 = .ok (.putfield 61, 3) := by decide +kernel
theorem dX5_beginLease_25 : decode cX5_beginLease 25 = .ok (.aload_n 0, 1) := by decide +kernel
theorem dX5_beginLease_26 : decode cX5_beginLease 26 = .ok (.aload_n 1, 1) := by decide +kernel
theorem dX5_beginLease_27 : decode cX5_beginLease 27 = .ok (.getfield 57, 3) := by decide +kernel
theorem dX5_beginLease_30 : decode cX5_beginLease 30 = .ok (.putfield 24, 3) := by decide +kernel
theorem dX5_beginLease_33 : decode cX5_beginLease 33 = .ok (.aload_n 0, 1) := by decide +kernel
theorem dX5_beginLease_34 : decode cX5_beginLease 34 = .ok (.aload_n 1, 1) := by decide +kernel
theorem dX5_beginLease_35 : decode cX5_beginLease 35 = .ok (.getfield 67, 3) := by decide +kernel
theorem dX5_beginLease_38 : decode cX5_beginLease 38 = .ok (.putfield 27, 3) := by decide +kernel
theorem dX5_beginLease_41 : decode cX5_beginLease 41 = .ok (.aload_n 0, 1) := by decide +kernel
theorem dX5_beginLease_42 : decode cX5_beginLease 42 = .ok (.iload_n 3, 1) := by decide +kernel
theorem dX5_beginLease_43 : decode cX5_beginLease 43 = .ok (.putfield 30, 3) := by decide +kernel
theorem dX5_beginLease_46 : decode cX5_beginLease 46 = .ok (.aload_n 0, 1) := by decide +kernel
theorem dX5_beginLease_47 : decode cX5_beginLease 47 = .ok (.iload_n 2, 1) := by decide +kernel
theorem dX5_beginLease_48 : decode cX5_beginLease 48 = .ok (.putfield 33, 3) := by decide +kernel
theorem dX5_beginLease_51 : decode cX5_beginLease 51 = .ok (.aload_n 0, 1) := by decide +kernel
theorem dX5_beginLease_52 : decode cX5_beginLease 52 = .ok (.getfield 10, 3) := by decide +kernel
theorem dX5_beginLease_55 : decode cX5_beginLease 55 = .ok (.invokevirtual 68, 3) := by decide +kernel
theorem dX5_beginLease_58 : decode cX5_beginLease 58 = .ok (.return_, 1) := by decide +kernel
theorem dX5_endLease_0 : decode cX5_endLease 0 = .ok (.aload_n 0, 1) := by decide +kernel
theorem dX5_endLease_1 : decode cX5_endLease 1 = .ok (.aconst_null, 1) := by decide +kernel
theorem dX5_endLease_2 : decode cX5_endLease 2 = .ok (.putfield 20, 3) := by decide +kernel
theorem dX5_endLease_5 : decode cX5_endLease 5 = .ok (.aload_n 0, 1) := by decide +kernel
theorem dX5_endLease_6 : decode cX5_endLease 6 = .ok (.iconst 0, 1) := by decide +kernel
theorem dX5_endLease_7 : decode cX5_endLease 7 = .ok (.putfield 24, 3) := by decide +kernel
theorem dX5_endLease_10 : decode cX5_endLease 10 = .ok (.aload_n 0, 1) := by decide +kernel
theorem dX5_endLease_11 : decode cX5_endLease 11 = .ok (.iconst 0, 1) := by decide +kernel
theorem dX5_endLease_12 : decode cX5_endLease 12 = .ok (.putfield 27, 3) := by decide +kernel
theorem dX5_endLease_15 : decode cX5_endLease 15 = .ok (.aload_n 0, 1) := by decide +kernel
theorem dX5_endLease_16 : decode cX5_endLease 16 = .ok (.iconst 0, 1) := by decide +kernel
theorem dX5_endLease_17 : decode cX5_endLease 17 = .ok (.putfield 30, 3) := by decide +kernel
theorem dX5_endLease_20 : decode cX5_endLease 20 = .ok (.aload_n 0, 1) := by decide +kernel
theorem dX5_endLease_21 : decode cX5_endLease 21 = .ok (.iconst 0, 1) := by decide +kernel
theorem dX5_endLease_22 : decode cX5_endLease 22 = .ok (.putfield 33, 3) := by decide +kernel
theorem dX5_endLease_25 : decode cX5_endLease 25 = .ok (.return_, 1) := by decide +kernel
theorem dX6_init_0 : decode cX6_init 0 = .ok (.aload_n 0, 1) := by decide +kernel
theorem dX6_init_1 : decode cX6_init 1 = .ok (.invokespecial 1, 3) := by decide +kernel
theorem dX6_init_4 : decode cX6_init 4 = .ok (.aload_n 0, 1) := by decide +kernel
theorem dX6_init_5 : decode cX6_init 5 = .ok (.lconst 0, 1) := by decide +kernel
theorem dX6_init_6 : decode cX6_init 6 = .ok (.putfield 7, 3) := by decide +kernel
theorem dX6_init_9 : decode cX6_init 9 = .ok (.aload_n 0, 1) := by decide +kernel
theorem dX6_init_10 : decode cX6_init 10 = .ok (.lconst 0, 1) := by decide +kernel
theorem dX6_init_11 : decode cX6_init 11 = .ok (.putfield 13, 3) := by decide +kernel
theorem dX6_init_14 : decode cX6_init 14 = .ok (.aload_n 0, 1) := by decide +kernel
theorem dX6_init_15 : decode cX6_init 15 = .ok (.lconst 0, 1) := by decide +kernel
theorem dX6_init_16 : decode cX6_init 16 = .ok (.putfield 16, 3) := by decide +kernel
theorem dX6_init_19 : decode cX6_init 19 = .ok (.aload_n 0, 1) := by decide +kernel
theorem dX6_init_20 : decode cX6_init 20 = .ok (.iload_n 1, 1) := by decide +kernel
theorem dX6_init_21 : decode cX6_init 21 = .ok (.putfield 19, 3) := by decide +kernel
theorem dX6_init_24 : decode cX6_init 24 = .ok (.aload_n 0, 1) := by decide +kernel
theorem dX6_init_25 : decode cX6_init 25 = .ok (.iload_n 2, 1) := by decide +kernel
theorem dX6_init_26 : decode cX6_init 26 = .ok (.putfield 23, 3) := by decide +kernel
theorem dX6_init_29 : decode cX6_init 29 = .ok (.aload_n 0, 1) := by decide +kernel
theorem dX6_init_30 : decode cX6_init 30 = .ok (.iload_n 3, 1) := by decide +kernel
theorem dX6_init_31 : decode cX6_init 31 = .ok (.putfield 26, 3) := by decide +kernel
theorem dX6_init_34 : decode cX6_init 34 = .ok (.return_, 1) := by decide +kernel
theorem dX6_growDue_0 : decode cX6_growDue 0 = .ok (.aload_n 0, 1) := by decide +kernel
theorem dX6_growDue_1 : decode cX6_growDue 1 = .ok (.dup, 1) := by decide +kernel
theorem dX6_growDue_2 : decode cX6_growDue 2 = .ok (.getfield 7, 3) := by decide +kernel
theorem dX6_growDue_5 : decode cX6_growDue 5 = .ok (.aload_n 0, 1) := by decide +kernel
theorem dX6_growDue_6 : decode cX6_growDue 6 = .ok (.getfield 19, 3) := by decide +kernel
theorem dX6_growDue_9 : decode cX6_growDue 9 = .ok (.i2l, 1) := by decide +kernel
theorem dX6_growDue_10 : decode cX6_growDue 10 = .ok (.aload_n 0, 1) := by decide +kernel
theorem dX6_growDue_11 : decode cX6_growDue 11 = .ok (.getfield 23, 3) := by decide +kernel
theorem dX6_growDue_14 : decode cX6_growDue 14 = .ok (.i2l, 1) := by decide +kernel
theorem dX6_growDue_15 : decode cX6_growDue 15 = .ok (.lmul, 1) := by decide +kernel
theorem dX6_growDue_16 : decode cX6_growDue 16 = .ok (.ldc2_w 29, 3) := by decide +kernel
theorem dX6_growDue_19 : decode cX6_growDue 19 = .ok (.ldiv, 1) := by decide +kernel
theorem dX6_growDue_20 : decode cX6_growDue 20 = .ok (.ladd, 1) := by decide +kernel
theorem dX6_growDue_21 : decode cX6_growDue 21 = .ok (.putfield 7, 3) := by decide +kernel
theorem dX6_growDue_24 : decode cX6_growDue 24 = .ok (.return_, 1) := by decide +kernel
theorem dX6_grantPart_0 : decode cX6_grantPart 0 = .ok (.lload_n 3, 1) := by decide +kernel
theorem dX6_grantPart_1 : decode cX6_grantPart 1 = .ok (.lconst 0, 1) := by decide +kernel
theorem dX6_grantPart_2 : decode cX6_grantPart 2 = .ok (.lcmp, 1) := by decide +kernel
theorem dX6_grantPart_3 : decode cX6_grantPart 3 = .ok (.ifCond .le 27, 3) := by decide +kernel
theorem dX6_grantPart_6 : decode cX6_grantPart 6 = .ok (.aload_n 0, 1) := by decide +kernel
theorem dX6_grantPart_7 : decode cX6_grantPart 7 = .ok (.aload_n 0, 1) := by decide +kernel
theorem dX6_grantPart_8 : decode cX6_grantPart 8 = .ok (.getfield 7, 3) := by decide +kernel
theorem dX6_grantPart_11 : decode cX6_grantPart 11 = .ok (.lload_n 1, 1) := by decide +kernel
theorem dX6_grantPart_12 : decode cX6_grantPart 12 = .ok (.lmul, 1) := by decide +kernel
theorem dX6_grantPart_13 : decode cX6_grantPart 13 = .ok (.lload_n 3, 1) := by decide +kernel
theorem dX6_grantPart_14 : decode cX6_grantPart 14 = .ok (.ldiv, 1) := by decide +kernel
theorem dX6_grantPart_15 : decode cX6_grantPart 15 = .ok (.putfield 13, 3) := by decide +kernel
theorem dX6_grantPart_18 : decode cX6_grantPart 18 = .ok (.aload_n 0, 1) := by decide +kernel
theorem dX6_grantPart_19 : decode cX6_grantPart 19 = .ok (.aload_n 0, 1) := by decide +kernel
theorem dX6_grantPart_20 : decode cX6_grantPart 20 = .ok (.getfield 7, 3) := by decide +kernel
theorem dX6_grantPart_23 : decode cX6_grantPart 23 = .ok (.lload_n 1, 1) := by decide +kernel
theorem dX6_grantPart_24 : decode cX6_grantPart 24 = .ok (.lmul, 1) := by decide +kernel
theorem dX6_grantPart_25 : decode cX6_grantPart 25 = .ok (.lload_n 3, 1) := by decide +kernel
theorem dX6_grantPart_26 : decode cX6_grantPart 26 = .ok (.lrem, 1) := by decide +kernel
theorem dX6_grantPart_27 : decode cX6_grantPart 27 = .ok (.putfield 16, 3) := by decide +kernel
theorem dX6_grantPart_30 : decode cX6_grantPart 30 = .ok (.return_, 1) := by decide +kernel
theorem dX7_init_0 : decode cX7_init 0 = .ok (.aload_n 0, 1) := by decide +kernel
theorem dX7_init_1 : decode cX7_init 1 = .ok (.invokespecial 3, 3) := by decide +kernel
theorem dX7_init_4 : decode cX7_init 4 = .ok (.aload_n 0, 1) := by decide +kernel
theorem dX7_init_5 : decode cX7_init 5 = .ok (.sipush 2000, 3) := by decide +kernel
theorem dX7_init_8 : decode cX7_init 8 = .ok (.newarray .byte, 2) := by decide +kernel
theorem dX7_init_10 : decode cX7_init 10 = .ok (.putfield 11, 3) := by decide +kernel
theorem dX7_init_13 : decode cX7_init 13 = .ok (.aload_n 0, 1) := by decide +kernel
theorem dX7_init_14 : decode cX7_init 14 = .ok (.iconst 0, 1) := by decide +kernel
theorem dX7_init_15 : decode cX7_init 15 = .ok (.putfield 15, 3) := by decide +kernel
theorem dX7_init_18 : decode cX7_init 18 = .ok (.aload_n 0, 1) := by decide +kernel
theorem dX7_init_19 : decode cX7_init 19 = .ok (.iconst 0, 1) := by decide +kernel
theorem dX7_init_20 : decode cX7_init 20 = .ok (.putfield 19, 3) := by decide +kernel
theorem dX7_init_23 : decode cX7_init 23 = .ok (.aload_n 0, 1) := by decide +kernel
theorem dX7_init_24 : decode cX7_init 24 = .ok (.iconst (-1), 1) := by decide +kernel
theorem dX7_init_25 : decode cX7_init 25 = .ok (.putfield 22, 3) := by decide +kernel
theorem dX7_init_28 : decode cX7_init 28 = .ok (.aload_n 0, 1) := by decide +kernel
theorem dX7_init_29 : decode cX7_init 29 = .ok (.iconst 0, 1) := by decide +kernel
theorem dX7_init_30 : decode cX7_init 30 = .ok (.putfield 25, 3) := by decide +kernel
theorem dX7_init_33 : decode cX7_init 33 = .ok (.aload_n 0, 1) := by decide +kernel
theorem dX7_init_34 : decode cX7_init 34 = .ok (.iconst 0, 1) := by decide +kernel
theorem dX7_init_35 : decode cX7_init 35 = .ok (.putfield 28, 3) := by decide +kernel
theorem dX7_init_38 : decode cX7_init 38 = .ok (.aload_n 0, 1) := by decide +kernel
theorem dX7_init_39 : decode cX7_init 39 = .ok (.iconst (-1), 1) := by decide +kernel
theorem dX7_init_40 : decode cX7_init 40 = .ok (.putfield 31, 3) := by decide +kernel
theorem dX7_init_43 : decode cX7_init 43 = .ok (.aload_n 0, 1) := by decide +kernel
theorem dX7_init_44 : decode cX7_init 44 = .ok (.iconst 0, 1) := by decide +kernel
theorem dX7_init_45 : decode cX7_init 45 = .ok (.putfield 34, 3) := by decide +kernel
theorem dX7_init_48 : decode cX7_init 48 = .ok (.aload_n 0, 1) := by decide +kernel
theorem dX7_init_49 : decode cX7_init 49 = .ok (.iconst 0, 1) := by decide +kernel
theorem dX7_init_50 : decode cX7_init 50 = .ok (.putfield 37, 3) := by decide +kernel
theorem dX7_init_53 : decode cX7_init 53 = .ok (.aload_n 0, 1) := by decide +kernel
theorem dX7_init_54 : decode cX7_init 54 = .ok (.sipush 2000, 3) := by decide +kernel
theorem dX7_init_57 : decode cX7_init 57 = .ok (.newarray .int, 2) := by decide +kernel
theorem dX7_init_59 : decode cX7_init 59 = .ok (.putfield 40, 3) := by decide +kernel
theorem dX7_init_62 : decode cX7_init 62 = .ok (.aload_n 0, 1) := by decide +kernel
theorem dX7_init_63 : decode cX7_init 63 = .ok (.iconst 0, 1) := by decide +kernel
theorem dX7_init_64 : decode cX7_init 64 = .ok (.putfield 44, 3) := by decide +kernel
theorem dX7_init_67 : decode cX7_init 67 = .ok (.return_, 1) := by decide +kernel
theorem dX7_append_0 : decode cX7_append 0 = .ok (.bipush 24, 2) := by decide +kernel
theorem dX7_append_2 : decode cX7_append 2 = .ok (.istore_n 2, 1) := by decide +kernel
theorem dX7_append_3 : decode cX7_append 3 = .ok (.iload_n 2, 1) := by decide +kernel
theorem dX7_append_4 : decode cX7_append 4 = .ok (.ifCond .lt 51, 3) := by decide +kernel
theorem dX7_append_7 : decode cX7_append 7 = .ok (.aload_n 0, 1) := by decide +kernel
theorem dX7_append_8 : decode cX7_append 8 = .ok (.getfield 15, 3) := by decide +kernel
theorem dX7_append_11 : decode cX7_append 11 = .ok (.ifCond .lt 38, 3) := by decide +kernel
theorem dX7_append_14 : decode cX7_append 14 = .ok (.aload_n 0, 1) := by decide +kernel
theorem dX7_append_15 : decode cX7_append 15 = .ok (.getfield 15, 3) := by decide +kernel
theorem dX7_append_18 : decode cX7_append 18 = .ok (.aload_n 0, 1) := by decide +kernel
theorem dX7_append_19 : decode cX7_append 19 = .ok (.getfield 11, 3) := by decide +kernel
theorem dX7_append_22 : decode cX7_append 22 = .ok (.arraylength, 1) := by decide +kernel
theorem dX7_append_23 : decode cX7_append 23 = .ok (.if_icmp .ge 26, 3) := by decide +kernel
theorem dX7_append_26 : decode cX7_append 26 = .ok (.aload_n 0, 1) := by decide +kernel
theorem dX7_append_27 : decode cX7_append 27 = .ok (.getfield 11, 3) := by decide +kernel
theorem dX7_append_30 : decode cX7_append 30 = .ok (.aload_n 0, 1) := by decide +kernel
theorem dX7_append_31 : decode cX7_append 31 = .ok (.getfield 15, 3) := by decide +kernel
theorem dX7_append_34 : decode cX7_append 34 = .ok (.iload_n 1, 1) := by decide +kernel
theorem dX7_append_35 : decode cX7_append 35 = .ok (.iload_n 2, 1) := by decide +kernel
theorem dX7_append_36 : decode cX7_append 36 = .ok (.ishr, 1) := by decide +kernel
theorem dX7_append_37 : decode cX7_append 37 = .ok (.i2b, 1) := by decide +kernel
theorem dX7_append_38 : decode cX7_append 38 = .ok (.bastore, 1) := by decide +kernel
theorem dX7_append_39 : decode cX7_append 39 = .ok (.aload_n 0, 1) := by decide +kernel
theorem dX7_append_40 : decode cX7_append 40 = .ok (.dup, 1) := by decide +kernel
theorem dX7_append_41 : decode cX7_append 41 = .ok (.getfield 15, 3) := by decide +kernel
theorem dX7_append_44 : decode cX7_append 44 = .ok (.iconst 1, 1) := by decide +kernel
theorem dX7_append_45 : decode cX7_append 45 = .ok (.iadd, 1) := by decide +kernel
theorem dX7_append_46 : decode cX7_append 46 = .ok (.putfield 15, 3) := by decide +kernel
theorem dX7_append_49 : decode cX7_append 49 = .ok (.iinc 2 (-8), 3) := by decide +kernel
theorem dX7_append_52 : decode cX7_append 52 = .ok (.goto (-49), 3) := by decide +kernel
theorem dX7_append_55 : decode cX7_append 55 = .ok (.return_, 1) := by decide +kernel
theorem dX7_readAct_0 : decode cX7_readAct 0 = .ok (.aload_n 0, 1) := by decide +kernel
theorem dX7_readAct_1 : decode cX7_readAct 1 = .ok (.iload_n 2, 1) := by decide +kernel
theorem dX7_readAct_2 : decode cX7_readAct 2 = .ok (.putfield 25, 3) := by decide +kernel
theorem dX7_readAct_5 : decode cX7_readAct 5 = .ok (.aload_n 0, 1) := by decide +kernel
theorem dX7_readAct_6 : decode cX7_readAct 6 = .ok (.iconst 0, 1) := by decide +kernel
theorem dX7_readAct_7 : decode cX7_readAct 7 = .ok (.putfield 28, 3) := by decide +kernel
theorem dX7_readAct_10 : decode cX7_readAct 10 = .ok (.aload_n 0, 1) := by decide +kernel
theorem dX7_readAct_11 : decode cX7_readAct 11 = .ok (.iconst 0, 1) := by decide +kernel
theorem dX7_readAct_12 : decode cX7_readAct 12 = .ok (.putfield 19, 3) := by decide +kernel
theorem dX7_readAct_15 : decode cX7_readAct 15 = .ok (.aload_n 0, 1) := by decide +kernel
theorem dX7_readAct_16 : decode cX7_readAct 16 = .ok (.iconst (-1), 1) := by decide +kernel
theorem dX7_readAct_17 : decode cX7_readAct 17 = .ok (.putfield 22, 3) := by decide +kernel
theorem dX7_readAct_20 : decode cX7_readAct 20 = .ok (.aload_n 0, 1) := by decide +kernel
theorem dX7_readAct_21 : decode cX7_readAct 21 = .ok (.invokevirtual 47, 3) := by decide +kernel
theorem dX7_readAct_24 : decode cX7_readAct 24 = .ok (.iconst 0, 1) := by decide +kernel
theorem dX7_readAct_25 : decode cX7_readAct 25 = .ok (.istore_n 3, 1) := by decide +kernel
theorem dX7_readAct_26 : decode cX7_readAct 26 = .ok (.iload_n 3, 1) := by decide +kernel
theorem dX7_readAct_27 : decode cX7_readAct 27 = .ok (.sipush 2000, 3) := by decide +kernel
theorem dX7_readAct_30 : decode cX7_readAct 30 = .ok (.if_icmp .ge 27, 3) := by decide +kernel
theorem dX7_readAct_33 : decode cX7_readAct 33 = .ok (.aload_n 0, 1) := by decide +kernel
theorem dX7_readAct_34 : decode cX7_readAct 34 = .ok (.getfield 31, 3) := by decide +kernel
theorem dX7_readAct_37 : decode cX7_readAct 37 = .ok (.iconst (-1), 1) := by decide +kernel
theorem dX7_readAct_38 : decode cX7_readAct 38 = .ok (.if_icmp .eq 19, 3) := by decide +kernel
theorem dX7_readAct_41 : decode cX7_readAct 41 = .ok (.aload_n 0, 1) := by decide +kernel
theorem dX7_readAct_42 : decode cX7_readAct 42 = .ok (.aload_n 1, 1) := by decide +kernel
theorem dX7_readAct_43 : decode cX7_readAct 43 = .ok (.invokevirtual 50, 3) := by decide +kernel
theorem dX7_readAct_46 : decode cX7_readAct 46 = .ok (.ifCond .ne 5, 3) := by decide +kernel
theorem dX7_readAct_49 : decode cX7_readAct 49 = .ok (.iconst 0, 1) := by decide +kernel
theorem dX7_readAct_50 : decode cX7_readAct 50 = .ok (.ireturn, 1) := by decide +kernel
theorem dX7_readAct_51 : decode cX7_readAct 51 = .ok (.iinc 3 1, 3) := by decide +kernel
theorem dX7_readAct_54 : decode cX7_readAct 54 = .ok (.goto (-28), 3) := by decide +kernel
theorem dX7_readAct_57 : decode cX7_readAct 57 = .ok (.iconst 1, 1) := by decide +kernel
theorem dX7_readAct_58 : decode cX7_readAct 58 = .ok (.ireturn, 1) := by decide +kernel
theorem dX7_refuse_0 : decode cX7_refuse 0 = .ok (.aload_n 0, 1) := by decide +kernel
theorem dX7_refuse_1 : decode cX7_refuse 1 = .ok (.iload_n 1, 1) := by decide +kernel
theorem dX7_refuse_2 : decode cX7_refuse 2 = .ok (.putfield 19, 3) := by decide +kernel
theorem dX7_refuse_5 : decode cX7_refuse 5 = .ok (.aload_n 0, 1) := by decide +kernel
theorem dX7_refuse_6 : decode cX7_refuse 6 = .ok (.aload_n 0, 1) := by decide +kernel
theorem dX7_refuse_7 : decode cX7_refuse 7 = .ok (.getfield 34, 3) := by decide +kernel
theorem dX7_refuse_10 : decode cX7_refuse 10 = .ok (.putfield 22, 3) := by decide +kernel
theorem dX7_refuse_13 : decode cX7_refuse 13 = .ok (.iconst 0, 1) := by decide +kernel
theorem dX7_refuse_14 : decode cX7_refuse 14 = .ok (.ireturn, 1) := by decide +kernel
theorem dX7_readClause_0 : decode cX7_readClause 0 = .ok (.aload_n 0, 1) := by decide +kernel
theorem dX7_readClause_1 : decode cX7_readClause 1 = .ok (.getfield 31, 3) := by decide +kernel
theorem dX7_readClause_4 : decode cX7_readClause 4 = .ok (.sipush 256, 3) := by decide +kernel
theorem dX7_readClause_7 : decode cX7_readClause 7 = .ok (.if_icmp .lt 13, 3) := by decide +kernel
theorem dX7_readClause_10 : decode cX7_readClause 10 = .ok (.aload_n 0, 1) := by decide +kernel
theorem dX7_readClause_11 : decode cX7_readClause 11 = .ok (.getfield 31, 3) := by decide +kernel
theorem dX7_readClause_14 : decode cX7_readClause 14 = .ok (.sipush 259, 3) := by decide +kernel
theorem dX7_readClause_17 : decode cX7_readClause 17 = .ok (.if_icmp .le 9, 3) := by decide +kernel
theorem dX7_readClause_20 : decode cX7_readClause 20 = .ok (.aload_n 0, 1) := by decide +kernel
theorem dX7_readClause_21 : decode cX7_readClause 21 = .ok (.iconst 1, 1) := by decide +kernel
theorem dX7_readClause_22 : decode cX7_readClause 22 = .ok (.invokevirtual 54, 3) := by decide +kernel
theorem dX7_readClause_25 : decode cX7_readClause 25 = .ok (.ireturn, 1) := by decide +kernel
theorem dX7_readClause_26 : decode cX7_readClause 26 = .ok (.aload_n 1, 1) := by decide +kernel
theorem dX7_readClause_27 : decode cX7_readClause 27 = .ok (.getfield 58, 3) := by decide +kernel
theorem dX7_readClause_30 : decode cX7_readClause 30 = .ok (.invokevirtual 64, 3) := by decide +kernel
theorem dX7_readClause_33 : decode cX7_readClause 33 = .ok (.bipush 40, 2) := by decide +kernel
theorem dX7_readClause_35 : decode cX7_readClause 35 = .ok (.if_icmp .lt 9, 3) := by decide +kernel
theorem dX7_readClause_38 : decode cX7_readClause 38 = .ok (.aload_n 0, 1) := by decide +kernel
theorem dX7_readClause_39 : decode cX7_readClause 39 = .ok (.iconst 3, 1) := by decide +kernel
theorem dX7_readClause_40 : decode cX7_readClause 40 = .ok (.invokevirtual 54, 3) := by decide +kernel
theorem dX7_readClause_43 : decode cX7_readClause 43 = .ok (.ireturn, 1) := by decide +kernel
theorem dX7_readClause_44 : decode cX7_readClause 44 = .ok (.new 70, 3) := by decide +kernel
theorem dX7_readClause_47 : decode cX7_readClause 47 = .ok (.dup, 1) := by decide +kernel
theorem dX7_readClause_48 : decode cX7_readClause 48 = .ok (.aload_n 0, 1) := by decide +kernel
theorem dX7_readClause_49 : decode cX7_readClause 49 = .ok (.getfield 31, 3) := by decide +kernel
theorem dX7_readClause_52 : decode cX7_readClause 52 = .ok (.invokespecial 72, 3) := by decide +kernel
theorem dX7_readClause_55 : decode cX7_readClause 55 = .ok (.astore_n 2, 1) := by decide +kernel
theorem dX7_readClause_56 : decode cX7_readClause 56 = .ok (.aload_n 0, 1) := by decide +kernel
theorem dX7_readClause_57 : decode cX7_readClause 57 = .ok (.invokevirtual 47, 3) := by decide +kernel
theorem dX7_readClause_60 : decode cX7_readClause 60 = .ok (.aload_n 0, 1) := by decide +kernel
theorem dX7_readClause_61 : decode cX7_readClause 61 = .ok (.iconst 0, 1) := by decide +kernel
theorem dX7_readClause_62 : decode cX7_readClause 62 = .ok (.putfield 44, 3) := by decide +kernel
theorem dX7_readClause_65 : decode cX7_readClause 65 = .ok (.aload_n 0, 1) := by decide +kernel
theorem dX7_readClause_66 : decode cX7_readClause 66 = .ok (.aload_n 2, 1) := by decide +kernel
theorem dX7_readClause_67 : decode cX7_readClause 67 = .ok (.invokevirtual 75, 3) := by decide +kernel
theorem dX7_readClause_70 : decode cX7_readClause 70 = .ok (.ifCond .eq 19, 3) := by decide +kernel
theorem dX7_readClause_73 : decode cX7_readClause 73 = .ok (.aload_n 0, 1) := by decide +kernel
theorem dX7_readClause_74 : decode cX7_readClause 74 = .ok (.invokevirtual 79, 3) := by decide +kernel
theorem dX7_readClause_77 : decode cX7_readClause 77 = .ok (.ifCond .eq 12, 3) := by decide +kernel
theorem dX7_readClause_80 : decode cX7_readClause 80 = .ok (.aload_n 0, 1) := by decide +kernel
theorem dX7_readClause_81 : decode cX7_readClause 81 = .ok (.bipush 59, 2) := by decide +kernel
theorem dX7_readClause_83 : decode cX7_readClause 83 = .ok (.invokevirtual 83, 3) := by decide +kernel
theorem dX7_readClause_86 : decode cX7_readClause 86 = .ok (.ifCond .ne 5, 3) := by decide +kernel
theorem dX7_readClause_89 : decode cX7_readClause 89 = .ok (.iconst 0, 1) := by decide +kernel
theorem dX7_readClause_90 : decode cX7_readClause 90 = .ok (.ireturn, 1) := by decide +kernel
theorem dX7_readClause_91 : decode cX7_readClause 91 = .ok (.aload_n 2, 1) := by decide +kernel
theorem dX7_readClause_92 : decode cX7_readClause 92 = .ok (.aload_n 0, 1) := by decide +kernel
theorem dX7_readClause_93 : decode cX7_readClause 93 = .ok (.getfield 40, 3) := by decide +kernel
theorem dX7_readClause_96 : decode cX7_readClause 96 = .ok (.aload_n 0, 1) := by decide +kernel
theorem dX7_readClause_97 : decode cX7_readClause 97 = .ok (.getfield 44, 3) := by decide +kernel
theorem dX7_readClause_100 : decode cX7_readClause 100 = .ok (.iconst 0, 1) := by decide +kernel
theorem dX7_readClause_101 : decode cX7_readClause 101 = .ok (.invokestatic 86, 3) := by decide +kernel
theorem dX7_readClause_104 : decode cX7_readClause 104 = .ok (.invokestatic 92, 3) := by decide +kernel
theorem dX7_readClause_107 : decode cX7_readClause 107 = .ok (.putfield 98, 3) := by decide +kernel
theorem dX7_readClause_110 : decode cX7_readClause 110 = .ok (.aload_n 1, 1) := by decide +kernel
theorem dX7_readClause_111 : decode cX7_readClause 111 = .ok (.getfield 58, 3) := by decide +kernel
theorem dX7_readClause_114 : decode cX7_readClause 114 = .ok (.aload_n 2, 1) := by decide +kernel
theorem dX7_readClause_115 : decode cX7_readClause 115 = .ok (.invokevirtual 99, 3) := by decide +kernel
theorem dX7_readClause_118 : decode cX7_readClause 118 = .ok (.pop, 1) := by decide +kernel
theorem dX7_readClause_119 : decode cX7_readClause 119 = .ok (.iconst 1, 1) := by decide +kernel
theorem dX7_readClause_120 : decode cX7_readClause 120 = .ok (.ireturn, 1) := by decide +kernel
theorem dX7_readWhat_0 : decode cX7_readWhat 0 = .ok (.aload_n 1, 1) := by decide +kernel
theorem dX7_readWhat_1 : decode cX7_readWhat 1 = .ok (.getfield 103, 3) := by decide +kernel
theorem dX7_readWhat_4 : decode cX7_readWhat 4 = .ok (.tableswitch 53 257 259 #[28, 34, 40], 28) := by decide +kernel
theorem dX7_readWhat_32 : decode cX7_readWhat 32 = .ok (.aload_n 0, 1) := by decide +kernel
theorem dX7_readWhat_33 : decode cX7_readWhat 33 = .ok (.aload_n 1, 1) := by decide +kernel
theorem dX7_readWhat_34 : decode cX7_readWhat 34 = .ok (.invokevirtual 106, 3) := by decide +kernel
theorem dX7_readWhat_37 : decode cX7_readWhat 37 = .ok (.ireturn, 1) := by decide +kernel
theorem dX7_readWhat_38 : decode cX7_readWhat 38 = .ok (.aload_n 0, 1) := by decide +kernel
theorem dX7_readWhat_39 : decode cX7_readWhat 39 = .ok (.aload_n 1, 1) := by decide +kernel
theorem dX7_readWhat_40 : decode cX7_readWhat 40 = .ok (.invokevirtual 109, 3) := by decide +kernel
theorem dX7_readWhat_43 : decode cX7_readWhat 43 = .ok (.ireturn, 1) := by decide +kernel
theorem dX7_readWhat_44 : decode cX7_readWhat 44 = .ok (.aload_n 0, 1) := by decide +kernel
theorem dX7_readWhat_45 : decode cX7_readWhat 45 = .ok (.aload_n 1, 1) := by decide +kernel
theorem dX7_readWhat_46 : decode cX7_readWhat 46 = .ok (.sipush 263, 3) := by decide +kernel
theorem dX7_readWhat_49 : decode cX7_readWhat 49 = .ok (.sipush 263, 3) := by decide +kernel
theorem dX7_readWhat_52 : decode cX7_readWhat 52 = .ok (.invokevirtual 112, 3) := by decide +kernel
theorem dX7_readWhat_55 : decode cX7_readWhat 55 = .ok (.iconst 1, 1) := by decide +kernel
theorem dX7_readWhat_56 : decode cX7_readWhat 56 = .ok (.ireturn, 1) := by decide +kernel
theorem dX7_readWhat_57 : decode cX7_readWhat 57 = .ok (.iconst 1, 1) := by decide +kernel
theorem dX7_readWhat_58 : decode cX7_readWhat 58 = .ok (.ireturn, 1) := by decide +kernel
theorem dX7_readToll_0 : decode cX7_readToll 0 = .ok (.aload_n 0, 1) := by decide +kernel
theorem dX7_readToll_1 : decode cX7_readToll 1 = .ok (.iconst 0, 1) := by decide +kernel
theorem dX7_readToll_2 : decode cX7_readToll 2 = .ok (.invokevirtual 116, 3) := by decide +kernel
theorem dX7_readToll_5 : decode cX7_readToll 5 = .ok (.ifCond .ne 5, 3) := by decide +kernel
theorem dX7_readToll_8 : decode cX7_readToll 8 = .ok (.iconst 0, 1) := by decide +kernel
theorem dX7_readToll_9 : decode cX7_readToll 9 = .ok (.ireturn, 1) := by decide +kernel
theorem dX7_readToll_10 : decode cX7_readToll 10 = .ok (.aload_n 1, 1) := by decide +kernel
theorem dX7_readToll_11 : decode cX7_readToll 11 = .ok (.aload_n 0, 1) := by decide +kernel
theorem dX7_readToll_12 : decode cX7_readToll 12 = .ok (.getfield 37, 3) := by decide +kernel
theorem dX7_readToll_15 : decode cX7_readToll 15 = .ok (.putfield 119, 3) := by decide +kernel
theorem dX7_readToll_18 : decode cX7_readToll 18 = .ok (.aload_n 0, 1) := by decide +kernel
theorem dX7_readToll_19 : decode cX7_readToll 19 = .ok (.invokevirtual 47, 3) := by decide +kernel
theorem dX7_readToll_22 : decode cX7_readToll 22 = .ok (.aload_n 0, 1) := by decide +kernel
theorem dX7_readToll_23 : decode cX7_readToll 23 = .ok (.aload_n 1, 1) := by decide +kernel
theorem dX7_readToll_24 : decode cX7_readToll 24 = .ok (.sipush 261, 3) := by decide +kernel
theorem dX7_readToll_27 : decode cX7_readToll 27 = .ok (.sipush 262, 3) := by decide +kernel
theorem dX7_readToll_30 : decode cX7_readToll 30 = .ok (.invokevirtual 112, 3) := by decide +kernel
theorem dX7_readToll_33 : decode cX7_readToll 33 = .ok (.iconst 1, 1) := by decide +kernel
theorem dX7_readToll_34 : decode cX7_readToll 34 = .ok (.ireturn, 1) := by decide +kernel
theorem dX7_readTimes_0 : decode cX7_readTimes 0 = .ok (.aload_n 0, 1) := by decide +kernel
theorem dX7_readTimes_1 : decode cX7_readTimes 1 = .ok (.iconst 0, 1) := by decide +kernel
theorem dX7_readTimes_2 : decode cX7_readTimes 2 = .ok (.invokevirtual 116, 3) := by decide +kernel
theorem dX7_readTimes_5 : decode cX7_readTimes 5 = .ok (.ifCond .ne 5, 3) := by decide +kernel
theorem dX7_readTimes_8 : decode cX7_readTimes 8 = .ok (.iconst 0, 1) := by decide +kernel
theorem dX7_readTimes_9 : decode cX7_readTimes 9 = .ok (.ireturn, 1) := by decide +kernel
theorem dX7_readTimes_10 : decode cX7_readTimes 10 = .ok (.aload_n 1, 1) := by decide +kernel
theorem dX7_readTimes_11 : decode cX7_readTimes 11 = .ok (.aload_n 0, 1) := by decide +kernel
theorem dX7_readTimes_12 : decode cX7_readTimes 12 = .ok (.getfield 37, 3) := by decide +kernel
theorem dX7_readTimes_15 : decode cX7_readTimes 15 = .ok (.putfield 119, 3) := by decide +kernel
theorem dX7_readTimes_18 : decode cX7_readTimes 18 = .ok (.aload_n 0, 1) := by decide +kernel
theorem dX7_readTimes_19 : decode cX7_readTimes 19 = .ok (.invokevirtual 47, 3) := by decide +kernel
theorem dX7_readTimes_22 : decode cX7_readTimes 22 = .ok (.aload_n 0, 1) := by decide +kernel
theorem dX7_readTimes_23 : decode cX7_readTimes 23 = .ok (.bipush 47, 2) := by decide +kernel
theorem dX7_readTimes_25 : decode cX7_readTimes 25 = .ok (.invokevirtual 83, 3) := by decide +kernel
theorem dX7_readTimes_28 : decode cX7_readTimes 28 = .ok (.ifCond .eq 11, 3) := by decide +kernel
theorem dX7_readTimes_31 : decode cX7_readTimes 31 = .ok (.aload_n 0, 1) := by decide +kernel
theorem dX7_readTimes_32 : decode cX7_readTimes 32 = .ok (.iconst 1, 1) := by decide +kernel
theorem dX7_readTimes_33 : decode cX7_readTimes 33 = .ok (.invokevirtual 116, 3) := by decide +kernel
theorem dX7_readTimes_36 : decode cX7_readTimes 36 = .ok (.ifCond .ne 5, 3) := by decide +kernel
theorem dX7_readTimes_39 : decode cX7_readTimes 39 = .ok (.iconst 0, 1) := by decide +kernel
theorem dX7_readTimes_40 : decode cX7_readTimes 40 = .ok (.ireturn, 1) := by decide +kernel
theorem dX7_readTimes_41 : decode cX7_readTimes 41 = .ok (.aload_n 1, 1) := by decide +kernel
theorem dX7_readTimes_42 : decode cX7_readTimes 42 = .ok (.aload_n 0, 1) := by decide +kernel
theorem dX7_readTimes_43 : decode cX7_readTimes 43 = .ok (.getfield 37, 3) := by decide +kernel
theorem dX7_readTimes_46 : decode cX7_readTimes 46 = .ok (.putfield 122, 3) := by decide +kernel
theorem dX7_readTimes_49 : decode cX7_readTimes 49 = .ok (.aload_n 0, 1) := by decide +kernel
theorem dX7_readTimes_50 : decode cX7_readTimes 50 = .ok (.invokevirtual 47, 3) := by decide +kernel
theorem dX7_readTimes_53 : decode cX7_readTimes 53 = .ok (.iconst 1, 1) := by decide +kernel
theorem dX7_readTimes_54 : decode cX7_readTimes 54 = .ok (.ireturn, 1) := by decide +kernel
theorem dX7_readManner_0 : decode cX7_readManner 0 = .ok (.aload_n 0, 1) := by decide +kernel
theorem dX7_readManner_1 : decode cX7_readManner 1 = .ok (.getfield 31, 3) := by decide +kernel
theorem dX7_readManner_4 : decode cX7_readManner 4 = .ok (.iload_n 2, 1) := by decide +kernel
theorem dX7_readManner_5 : decode cX7_readManner 5 = .ok (.if_icmp .eq 11, 3) := by decide +kernel
theorem dX7_readManner_8 : decode cX7_readManner 8 = .ok (.aload_n 0, 1) := by decide +kernel
theorem dX7_readManner_9 : decode cX7_readManner 9 = .ok (.getfield 31, 3) := by decide +kernel
theorem dX7_readManner_12 : decode cX7_readManner 12 = .ok (.iload_n 3, 1) := by decide +kernel
theorem dX7_readManner_13 : decode cX7_readManner 13 = .ok (.if_icmp .ne 15, 3) := by decide +kernel
theorem dX7_readManner_16 : decode cX7_readManner 16 = .ok (.aload_n 1, 1) := by decide +kernel
theorem dX7_readManner_17 : decode cX7_readManner 17 = .ok (.aload_n 0, 1) := by decide +kernel
theorem dX7_readManner_18 : decode cX7_readManner 18 = .ok (.getfield 31, 3) := by decide +kernel
theorem dX7_readManner_21 : decode cX7_readManner 21 = .ok (.putfield 125, 3) := by decide +kernel
theorem dX7_readManner_24 : decode cX7_readManner 24 = .ok (.aload_n 0, 1) := by decide +kernel
theorem dX7_readManner_25 : decode cX7_readManner 25 = .ok (.invokevirtual 47, 3) := by decide +kernel
theorem dX7_readManner_28 : decode cX7_readManner 28 = .ok (.return_, 1) := by decide +kernel
theorem dX7_readNumber_0 : decode cX7_readNumber 0 = .ok (.aload_n 0, 1) := by decide +kernel
theorem dX7_readNumber_1 : decode cX7_readNumber 1 = .ok (.getfield 31, 3) := by decide +kernel
theorem dX7_readNumber_4 : decode cX7_readNumber 4 = .ok (.iconst 1, 1) := by decide +kernel
theorem dX7_readNumber_5 : decode cX7_readNumber 5 = .ok (.if_icmp .eq 9, 3) := by decide +kernel
theorem dX7_readNumber_8 : decode cX7_readNumber 8 = .ok (.aload_n 0, 1) := by decide +kernel
theorem dX7_readNumber_9 : decode cX7_readNumber 9 = .ok (.iconst 1, 1) := by decide +kernel
theorem dX7_readNumber_10 : decode cX7_readNumber 10 = .ok (.invokevirtual 54, 3) := by decide +kernel
theorem dX7_readNumber_13 : decode cX7_readNumber 13 = .ok (.ireturn, 1) := by decide +kernel
theorem dX7_readNumber_14 : decode cX7_readNumber 14 = .ok (.aload_n 0, 1) := by decide +kernel
theorem dX7_readNumber_15 : decode cX7_readNumber 15 = .ok (.getfield 37, 3) := by decide +kernel
theorem dX7_readNumber_18 : decode cX7_readNumber 18 = .ok (.iload_n 1, 1) := by decide +kernel
theorem dX7_readNumber_19 : decode cX7_readNumber 19 = .ok (.if_icmp .lt 12, 3) := by decide +kernel
theorem dX7_readNumber_22 : decode cX7_readNumber 22 = .ok (.aload_n 0, 1) := by decide +kernel
theorem dX7_readNumber_23 : decode cX7_readNumber 23 = .ok (.getfield 37, 3) := by decide +kernel
theorem dX7_readNumber_26 : decode cX7_readNumber 26 = .ok (.ldc 128, 2) := by decide +kernel
theorem dX7_readNumber_28 : decode cX7_readNumber 28 = .ok (.if_icmp .le 9, 3) := by decide +kernel
theorem dX7_readNumber_31 : decode cX7_readNumber 31 = .ok (.aload_n 0, 1) := by decide +kernel
theorem dX7_readNumber_32 : decode cX7_readNumber 32 = .ok (.iconst 2, 1) := by decide +kernel
theorem dX7_readNumber_33 : decode cX7_readNumber 33 = .ok (.invokevirtual 54, 3) := by decide +kernel
theorem dX7_readNumber_36 : decode cX7_readNumber 36 = .ok (.ireturn, 1) := by decide +kernel
theorem dX7_readNumber_37 : decode cX7_readNumber 37 = .ok (.iconst 1, 1) := by decide +kernel
theorem dX7_readNumber_38 : decode cX7_readNumber 38 = .ok (.ireturn, 1) := by decide +kernel
theorem dX7_readSign_0 : decode cX7_readSign 0 = .ok (.aload_n 0, 1) := by decide +kernel
theorem dX7_readSign_1 : decode cX7_readSign 1 = .ok (.getfield 31, 3) := by decide +kernel
theorem dX7_readSign_4 : decode cX7_readSign 4 = .ok (.iload_n 1, 1) := by decide +kernel
theorem dX7_readSign_5 : decode cX7_readSign 5 = .ok (.if_icmp .eq 9, 3) := by decide +kernel
theorem dX7_readSign_8 : decode cX7_readSign 8 = .ok (.aload_n 0, 1) := by decide +kernel
theorem dX7_readSign_9 : decode cX7_readSign 9 = .ok (.iconst 1, 1) := by decide +kernel
theorem dX7_readSign_10 : decode cX7_readSign 10 = .ok (.invokevirtual 54, 3) := by decide +kernel
theorem dX7_readSign_13 : decode cX7_readSign 13 = .ok (.ireturn, 1) := by decide +kernel
theorem dX7_readSign_14 : decode cX7_readSign 14 = .ok (.aload_n 0, 1) := by decide +kernel
theorem dX7_readSign_15 : decode cX7_readSign 15 = .ok (.invokevirtual 47, 3) := by decide +kernel
theorem dX7_readSign_18 : decode cX7_readSign 18 = .ok (.iconst 1, 1) := by decide +kernel
theorem dX7_readSign_19 : decode cX7_readSign 19 = .ok (.ireturn, 1) := by decide +kernel
theorem dX7_readIf_0 : decode cX7_readIf 0 = .ok (.aload_n 0, 1) := by decide +kernel
theorem dX7_readIf_1 : decode cX7_readIf 1 = .ok (.getfield 31, 3) := by decide +kernel
theorem dX7_readIf_4 : decode cX7_readIf 4 = .ok (.sipush 260, 3) := by decide +kernel
theorem dX7_readIf_7 : decode cX7_readIf 7 = .ok (.if_icmp .eq 5, 3) := by decide +kernel
theorem dX7_readIf_10 : decode cX7_readIf 10 = .ok (.iconst 1, 1) := by decide +kernel
theorem dX7_readIf_11 : decode cX7_readIf 11 = .ok (.ireturn, 1) := by decide +kernel
theorem dX7_readIf_12 : decode cX7_readIf 12 = .ok (.aload_n 0, 1) := by decide +kernel
theorem dX7_readIf_13 : decode cX7_readIf 13 = .ok (.invokevirtual 47, 3) := by decide +kernel
theorem dX7_readIf_16 : decode cX7_readIf 16 = .ok (.aload_n 0, 1) := by decide +kernel
theorem dX7_readIf_17 : decode cX7_readIf 17 = .ok (.iconst 0, 1) := by decide +kernel
theorem dX7_readIf_18 : decode cX7_readIf 18 = .ok (.invokevirtual 129, 3) := by decide +kernel
theorem dX7_readIf_21 : decode cX7_readIf 21 = .ok (.ireturn, 1) := by decide +kernel
theorem dX7_readAny_0 : decode cX7_readAny 0 = .ok (.aload_n 0, 1) := by decide +kernel
theorem dX7_readAny_1 : decode cX7_readAny 1 = .ok (.iload_n 1, 1) := by decide +kernel
theorem dX7_readAny_2 : decode cX7_readAny 2 = .ok (.invokevirtual 132, 3) := by decide +kernel
theorem dX7_readAny_5 : decode cX7_readAny 5 = .ok (.ifCond .ne 5, 3) := by decide +kernel
theorem dX7_readAny_8 : decode cX7_readAny 8 = .ok (.iconst 0, 1) := by decide +kernel
theorem dX7_readAny_9 : decode cX7_readAny 9 = .ok (.ireturn, 1) := by decide +kernel
theorem dX7_readAny_10 : decode cX7_readAny 10 = .ok (.iconst 0, 1) := by decide +kernel
theorem dX7_readAny_11 : decode cX7_readAny 11 = .ok (.istore_n 2, 1) := by decide +kernel
theorem dX7_readAny_12 : decode cX7_readAny 12 = .ok (.iload_n 2, 1) := by decide +kernel
theorem dX7_readAny_13 : decode cX7_readAny 13 = .ok (.sipush 2000, 3) := by decide +kernel
theorem dX7_readAny_16 : decode cX7_readAny 16 = .ok (.if_icmp .ge 42, 3) := by decide +kernel
theorem dX7_readAny_19 : decode cX7_readAny 19 = .ok (.aload_n 0, 1) := by decide +kernel
theorem dX7_readAny_20 : decode cX7_readAny 20 = .ok (.getfield 31, 3) := by decide +kernel
theorem dX7_readAny_23 : decode cX7_readAny 23 = .ok (.sipush 264, 3) := by decide +kernel
theorem dX7_readAny_26 : decode cX7_readAny 26 = .ok (.if_icmp .ne 32, 3) := by decide +kernel
theorem dX7_readAny_29 : decode cX7_readAny 29 = .ok (.aload_n 0, 1) := by decide +kernel
theorem dX7_readAny_30 : decode cX7_readAny 30 = .ok (.invokevirtual 47, 3) := by decide +kernel
theorem dX7_readAny_33 : decode cX7_readAny 33 = .ok (.aload_n 0, 1) := by decide +kernel
theorem dX7_readAny_34 : decode cX7_readAny 34 = .ok (.iload_n 1, 1) := by decide +kernel
theorem dX7_readAny_35 : decode cX7_readAny 35 = .ok (.invokevirtual 132, 3) := by decide +kernel
theorem dX7_readAny_38 : decode cX7_readAny 38 = .ok (.ifCond .ne 5, 3) := by decide +kernel
theorem dX7_readAny_41 : decode cX7_readAny 41 = .ok (.iconst 0, 1) := by decide +kernel
theorem dX7_readAny_42 : decode cX7_readAny 42 = .ok (.ireturn, 1) := by decide +kernel
theorem dX7_readAny_43 : decode cX7_readAny 43 = .ok (.aload_n 0, 1) := by decide +kernel
theorem dX7_readAny_44 : decode cX7_readAny 44 = .ok (.sipush 264, 3) := by decide +kernel
theorem dX7_readAny_47 : decode cX7_readAny 47 = .ok (.iconst 0, 1) := by decide +kernel
theorem dX7_readAny_48 : decode cX7_readAny 48 = .ok (.iconst 0, 1) := by decide +kernel
theorem dX7_readAny_49 : decode cX7_readAny 49 = .ok (.invokevirtual 135, 3) := by decide +kernel
theorem dX7_readAny_52 : decode cX7_readAny 52 = .ok (.iinc 2 1, 3) := by decide +kernel
theorem dX7_readAny_55 : decode cX7_readAny 55 = .ok (.goto (-43), 3) := by decide +kernel
theorem dX7_readAny_58 : decode cX7_readAny 58 = .ok (.iconst 1, 1) := by decide +kernel
theorem dX7_readAny_59 : decode cX7_readAny 59 = .ok (.ireturn, 1) := by decide +kernel
theorem dX7_readBoth_0 : decode cX7_readBoth 0 = .ok (.aload_n 0, 1) := by decide +kernel
theorem dX7_readBoth_1 : decode cX7_readBoth 1 = .ok (.iload_n 1, 1) := by decide +kernel
theorem dX7_readBoth_2 : decode cX7_readBoth 2 = .ok (.invokevirtual 139, 3) := by decide +kernel
theorem dX7_readBoth_5 : decode cX7_readBoth 5 = .ok (.ifCond .ne 5, 3) := by decide +kernel
theorem dX7_readBoth_8 : decode cX7_readBoth 8 = .ok (.iconst 0, 1) := by decide +kernel
theorem dX7_readBoth_9 : decode cX7_readBoth 9 = .ok (.ireturn, 1) := by decide +kernel
theorem dX7_readBoth_10 : decode cX7_readBoth 10 = .ok (.iconst 0, 1) := by decide +kernel
theorem dX7_readBoth_11 : decode cX7_readBoth 11 = .ok (.istore_n 2, 1) := by decide +kernel
theorem dX7_readBoth_12 : decode cX7_readBoth 12 = .ok (.iload_n 2, 1) := by decide +kernel
theorem dX7_readBoth_13 : decode cX7_readBoth 13 = .ok (.sipush 2000, 3) := by decide +kernel
theorem dX7_readBoth_16 : decode cX7_readBoth 16 = .ok (.if_icmp .ge 42, 3) := by decide +kernel
theorem dX7_readBoth_19 : decode cX7_readBoth 19 = .ok (.aload_n 0, 1) := by decide +kernel
theorem dX7_readBoth_20 : decode cX7_readBoth 20 = .ok (.getfield 31, 3) := by decide +kernel
theorem dX7_readBoth_23 : decode cX7_readBoth 23 = .ok (.sipush 265, 3) := by decide +kernel
theorem dX7_readBoth_26 : decode cX7_readBoth 26 = .ok (.if_icmp .ne 32, 3) := by decide +kernel
theorem dX7_readBoth_29 : decode cX7_readBoth 29 = .ok (.aload_n 0, 1) := by decide +kernel
theorem dX7_readBoth_30 : decode cX7_readBoth 30 = .ok (.invokevirtual 47, 3) := by decide +kernel
theorem dX7_readBoth_33 : decode cX7_readBoth 33 = .ok (.aload_n 0, 1) := by decide +kernel
theorem dX7_readBoth_34 : decode cX7_readBoth 34 = .ok (.iload_n 1, 1) := by decide +kernel
theorem dX7_readBoth_35 : decode cX7_readBoth 35 = .ok (.invokevirtual 139, 3) := by decide +kernel
theorem dX7_readBoth_38 : decode cX7_readBoth 38 = .ok (.ifCond .ne 5, 3) := by decide +kernel
theorem dX7_readBoth_41 : decode cX7_readBoth 41 = .ok (.iconst 0, 1) := by decide +kernel
theorem dX7_readBoth_42 : decode cX7_readBoth 42 = .ok (.ireturn, 1) := by decide +kernel
theorem dX7_readBoth_43 : decode cX7_readBoth 43 = .ok (.aload_n 0, 1) := by decide +kernel
theorem dX7_readBoth_44 : decode cX7_readBoth 44 = .ok (.sipush 265, 3) := by decide +kernel
theorem dX7_readBoth_47 : decode cX7_readBoth 47 = .ok (.iconst 0, 1) := by decide +kernel
theorem dX7_readBoth_48 : decode cX7_readBoth 48 = .ok (.iconst 0, 1) := by decide +kernel
theorem dX7_readBoth_49 : decode cX7_readBoth 49 = .ok (.invokevirtual 135, 3) := by decide +kernel
theorem dX7_readBoth_52 : decode cX7_readBoth 52 = .ok (.iinc 2 1, 3) := by decide +kernel
theorem dX7_readBoth_55 : decode cX7_readBoth 55 = .ok (.goto (-43), 3) := by decide +kernel
theorem dX7_readBoth_58 : decode cX7_readBoth 58 = .ok (.iconst 1, 1) := by decide +kernel
theorem dX7_readBoth_59 : decode cX7_readBoth 59 = .ok (.ireturn, 1) := by decide +kernel
theorem dX7_readOne_0 : decode cX7_readOne 0 = .ok (.aload_n 0, 1) := by decide +kernel
theorem dX7_readOne_1 : decode cX7_readOne 1 = .ok (.getfield 31, 3) := by decide +kernel
theorem dX7_readOne_4 : decode cX7_readOne 4 = .ok (.sipush 266, 3) := by decide +kernel
theorem dX7_readOne_7 : decode cX7_readOne 7 = .ok (.if_icmp .eq 12, 3) := by decide +kernel
theorem dX7_readOne_10 : decode cX7_readOne 10 = .ok (.aload_n 0, 1) := by decide +kernel
theorem dX7_readOne_11 : decode cX7_readOne 11 = .ok (.getfield 31, 3) := by decide +kernel
theorem dX7_readOne_14 : decode cX7_readOne 14 = .ok (.bipush 40, 2) := by decide +kernel
theorem dX7_readOne_16 : decode cX7_readOne 16 = .ok (.if_icmp .ne 25, 3) := by decide +kernel
theorem dX7_readOne_19 : decode cX7_readOne 19 = .ok (.iload_n 1, 1) := by decide +kernel
theorem dX7_readOne_20 : decode cX7_readOne 20 = .ok (.bipush 10, 2) := by decide +kernel
theorem dX7_readOne_22 : decode cX7_readOne 22 = .ok (.if_icmp .ge 13, 3) := by decide +kernel
theorem dX7_readOne_25 : decode cX7_readOne 25 = .ok (.aload_n 0, 1) := by decide +kernel
theorem dX7_readOne_26 : decode cX7_readOne 26 = .ok (.iload_n 1, 1) := by decide +kernel
theorem dX7_readOne_27 : decode cX7_readOne 27 = .ok (.iconst 1, 1) := by decide +kernel
theorem dX7_readOne_28 : decode cX7_readOne 28 = .ok (.iadd, 1) := by decide +kernel
theorem dX7_readOne_29 : decode cX7_readOne 29 = .ok (.invokevirtual 142, 3) := by decide +kernel
theorem dX7_readOne_32 : decode cX7_readOne 32 = .ok (.goto 8, 3) := by decide +kernel
theorem dX7_readOne_35 : decode cX7_readOne 35 = .ok (.aload_n 0, 1) := by decide +kernel
theorem dX7_readOne_36 : decode cX7_readOne 36 = .ok (.iconst 3, 1) := by decide +kernel
theorem dX7_readOne_37 : decode cX7_readOne 37 = .ok (.invokevirtual 54, 3) := by decide +kernel
theorem dX7_readOne_40 : decode cX7_readOne 40 = .ok (.ireturn, 1) := by decide +kernel
theorem dX7_readOne_41 : decode cX7_readOne 41 = .ok (.aload_n 0, 1) := by decide +kernel
theorem dX7_readOne_42 : decode cX7_readOne 42 = .ok (.getfield 31, 3) := by decide +kernel
theorem dX7_readOne_45 : decode cX7_readOne 45 = .ok (.istore_n 2, 1) := by decide +kernel
theorem dX7_readOne_46 : decode cX7_readOne 46 = .ok (.iload_n 2, 1) := by decide +kernel
theorem dX7_readOne_47 : decode cX7_readOne 47 = .ok (.sipush 267, 3) := by decide +kernel
theorem dX7_readOne_50 : decode cX7_readOne 50 = .ok (.if_icmp .lt 10, 3) := by decide +kernel
theorem dX7_readOne_53 : decode cX7_readOne 53 = .ok (.iload_n 2, 1) := by decide +kernel
theorem dX7_readOne_54 : decode cX7_readOne 54 = .ok (.sipush 276, 3) := by decide +kernel
theorem dX7_readOne_57 : decode cX7_readOne 57 = .ok (.if_icmp .le 9, 3) := by decide +kernel
theorem dX7_readOne_60 : decode cX7_readOne 60 = .ok (.aload_n 0, 1) := by decide +kernel
theorem dX7_readOne_61 : decode cX7_readOne 61 = .ok (.iconst 1, 1) := by decide +kernel
theorem dX7_readOne_62 : decode cX7_readOne 62 = .ok (.invokevirtual 54, 3) := by decide +kernel
theorem dX7_readOne_65 : decode cX7_readOne 65 = .ok (.ireturn, 1) := by decide +kernel
theorem dX7_readOne_66 : decode cX7_readOne 66 = .ok (.aload_n 0, 1) := by decide +kernel
theorem dX7_readOne_67 : decode cX7_readOne 67 = .ok (.invokevirtual 47, 3) := by decide +kernel
theorem dX7_readOne_70 : decode cX7_readOne 70 = .ok (.iload_n 2, 1) := by decide +kernel
theorem dX7_readOne_71 : decode cX7_readOne 71 = .ok (.sipush 271, 3) := by decide +kernel
theorem dX7_readOne_74 : decode cX7_readOne 74 = .ok (.if_icmp .gt 13, 3) := by decide +kernel
theorem dX7_readOne_77 : decode cX7_readOne 77 = .ok (.aload_n 0, 1) := by decide +kernel
theorem dX7_readOne_78 : decode cX7_readOne 78 = .ok (.iload_n 2, 1) := by decide +kernel
theorem dX7_readOne_79 : decode cX7_readOne 79 = .ok (.bipush 61, 2) := by decide +kernel
theorem dX7_readOne_81 : decode cX7_readOne 81 = .ok (.iconst 1, 1) := by decide +kernel
theorem dX7_readOne_82 : decode cX7_readOne 82 = .ok (.invokevirtual 135, 3) := by decide +kernel
theorem dX7_readOne_85 : decode cX7_readOne 85 = .ok (.iconst 1, 1) := by decide +kernel
theorem dX7_readOne_86 : decode cX7_readOne 86 = .ok (.ireturn, 1) := by decide +kernel
theorem dX7_readOne_87 : decode cX7_readOne 87 = .ok (.iload_n 2, 1) := by decide +kernel
theorem dX7_readOne_88 : decode cX7_readOne 88 = .ok (.sipush 276, 3) := by decide +kernel
theorem dX7_readOne_91 : decode cX7_readOne 91 = .ok (.if_icmp .ne 10, 3) := by decide +kernel
theorem dX7_readOne_94 : decode cX7_readOne 94 = .ok (.aload_n 0, 1) := by decide +kernel
theorem dX7_readOne_95 : decode cX7_readOne 95 = .ok (.invokevirtual 145, 3) := by decide +kernel
theorem dX7_readOne_98 : decode cX7_readOne 98 = .ok (.goto 8, 3) := by decide +kernel
theorem dX7_readOne_101 : decode cX7_readOne 101 = .ok (.aload_n 0, 1) := by decide +kernel
theorem dX7_readOne_102 : decode cX7_readOne 102 = .ok (.iload_n 2, 1) := by decide +kernel
theorem dX7_readOne_103 : decode cX7_readOne 103 = .ok (.invokevirtual 148, 3) := by decide +kernel
theorem dX7_readOne_106 : decode cX7_readOne 106 = .ok (.ireturn, 1) := by decide +kernel
theorem dX7_readNested_0 : decode cX7_readNested 0 = .ok (.aload_n 0, 1) := by decide +kernel
theorem dX7_readNested_1 : decode cX7_readNested 1 = .ok (.getfield 31, 3) := by decide +kernel
theorem dX7_readNested_4 : decode cX7_readNested 4 = .ok (.sipush 266, 3) := by decide +kernel
theorem dX7_readNested_7 : decode cX7_readNested 7 = .ok (.if_icmp .ne 7, 3) := by decide +kernel
theorem dX7_readNested_10 : decode cX7_readNested 10 = .ok (.iconst 1, 1) := by decide +kernel
theorem dX7_readNested_11 : decode cX7_readNested 11 = .ok (.goto 4, 3) := by decide +kernel
theorem dX7_readNested_14 : decode cX7_readNested 14 = .ok (.iconst 0, 1) := by decide +kernel
theorem dX7_readNested_15 : decode cX7_readNested 15 = .ok (.istore_n 2, 1) := by decide +kernel
theorem dX7_readNested_16 : decode cX7_readNested 16 = .ok (.aload_n 0, 1) := by decide +kernel
theorem dX7_readNested_17 : decode cX7_readNested 17 = .ok (.invokevirtual 47, 3) := by decide +kernel
theorem dX7_readNested_20 : decode cX7_readNested 20 = .ok (.iload_n 2, 1) := by decide +kernel
theorem dX7_readNested_21 : decode cX7_readNested 21 = .ok (.ifCond .ne 26, 3) := by decide +kernel
theorem dX7_readNested_24 : decode cX7_readNested 24 = .ok (.aload_n 0, 1) := by decide +kernel
theorem dX7_readNested_25 : decode cX7_readNested 25 = .ok (.iload_n 1, 1) := by decide +kernel
theorem dX7_readNested_26 : decode cX7_readNested 26 = .ok (.invokevirtual 129, 3) := by decide +kernel
theorem dX7_readNested_29 : decode cX7_readNested 29 = .ok (.ifCond .eq 16, 3) := by decide +kernel
theorem dX7_readNested_32 : decode cX7_readNested 32 = .ok (.aload_n 0, 1) := by decide +kernel
theorem dX7_readNested_33 : decode cX7_readNested 33 = .ok (.bipush 41, 2) := by decide +kernel
theorem dX7_readNested_35 : decode cX7_readNested 35 = .ok (.invokevirtual 83, 3) := by decide +kernel
theorem dX7_readNested_38 : decode cX7_readNested 38 = .ok (.ifCond .eq 7, 3) := by decide +kernel
theorem dX7_readNested_41 : decode cX7_readNested 41 = .ok (.iconst 1, 1) := by decide +kernel
theorem dX7_readNested_42 : decode cX7_readNested 42 = .ok (.goto 4, 3) := by decide +kernel
theorem dX7_readNested_45 : decode cX7_readNested 45 = .ok (.iconst 0, 1) := by decide +kernel
theorem dX7_readNested_46 : decode cX7_readNested 46 = .ok (.ireturn, 1) := by decide +kernel
theorem dX7_readNested_47 : decode cX7_readNested 47 = .ok (.aload_n 0, 1) := by decide +kernel
theorem dX7_readNested_48 : decode cX7_readNested 48 = .ok (.iload_n 1, 1) := by decide +kernel
theorem dX7_readNested_49 : decode cX7_readNested 49 = .ok (.invokevirtual 139, 3) := by decide +kernel
theorem dX7_readNested_52 : decode cX7_readNested 52 = .ok (.ifCond .ne 5, 3) := by decide +kernel
theorem dX7_readNested_55 : decode cX7_readNested 55 = .ok (.iconst 0, 1) := by decide +kernel
theorem dX7_readNested_56 : decode cX7_readNested 56 = .ok (.ireturn, 1) := by decide +kernel
theorem dX7_readNested_57 : decode cX7_readNested 57 = .ok (.aload_n 0, 1) := by decide +kernel
theorem dX7_readNested_58 : decode cX7_readNested 58 = .ok (.sipush 266, 3) := by decide +kernel
theorem dX7_readNested_61 : decode cX7_readNested 61 = .ok (.iconst 0, 1) := by decide +kernel
theorem dX7_readNested_62 : decode cX7_readNested 62 = .ok (.iconst 0, 1) := by decide +kernel
theorem dX7_readNested_63 : decode cX7_readNested 63 = .ok (.invokevirtual 135, 3) := by decide +kernel
theorem dX7_readNested_66 : decode cX7_readNested 66 = .ok (.iconst 1, 1) := by decide +kernel
theorem dX7_readNested_67 : decode cX7_readNested 67 = .ok (.ireturn, 1) := by decide +kernel
theorem dX7_readKind_0 : decode cX7_readKind 0 = .ok (.aload_n 0, 1) := by decide +kernel
theorem dX7_readKind_1 : decode cX7_readKind 1 = .ok (.bipush 61, 2) := by decide +kernel
theorem dX7_readKind_3 : decode cX7_readKind 3 = .ok (.invokevirtual 83, 3) := by decide +kernel
theorem dX7_readKind_6 : decode cX7_readKind 6 = .ok (.ifCond .ne 5, 3) := by decide +kernel
theorem dX7_readKind_9 : decode cX7_readKind 9 = .ok (.iconst 0, 1) := by decide +kernel
theorem dX7_readKind_10 : decode cX7_readKind 10 = .ok (.ireturn, 1) := by decide +kernel
theorem dX7_readKind_11 : decode cX7_readKind 11 = .ok (.aload_n 0, 1) := by decide +kernel
theorem dX7_readKind_12 : decode cX7_readKind 12 = .ok (.getfield 31, 3) := by decide +kernel
theorem dX7_readKind_15 : decode cX7_readKind 15 = .ok (.sipush 277, 3) := by decide +kernel
theorem dX7_readKind_18 : decode cX7_readKind 18 = .ok (.if_icmp .lt 13, 3) := by decide +kernel
theorem dX7_readKind_21 : decode cX7_readKind 21 = .ok (.aload_n 0, 1) := by decide +kernel
theorem dX7_readKind_22 : decode cX7_readKind 22 = .ok (.getfield 31, 3) := by decide +kernel
theorem dX7_readKind_25 : decode cX7_readKind 25 = .ok (.sipush 283, 3) := by decide +kernel
theorem dX7_readKind_28 : decode cX7_readKind 28 = .ok (.if_icmp .le 9, 3) := by decide +kernel
theorem dX7_readKind_31 : decode cX7_readKind 31 = .ok (.aload_n 0, 1) := by decide +kernel
theorem dX7_readKind_32 : decode cX7_readKind 32 = .ok (.iconst 1, 1) := by decide +kernel
theorem dX7_readKind_33 : decode cX7_readKind 33 = .ok (.invokevirtual 54, 3) := by decide +kernel
theorem dX7_readKind_36 : decode cX7_readKind 36 = .ok (.ireturn, 1) := by decide +kernel
theorem dX7_readKind_37 : decode cX7_readKind 37 = .ok (.aload_n 0, 1) := by decide +kernel
theorem dX7_readKind_38 : decode cX7_readKind 38 = .ok (.sipush 276, 3) := by decide +kernel
theorem dX7_readKind_41 : decode cX7_readKind 41 = .ok (.bipush 61, 2) := by decide +kernel
theorem dX7_readKind_43 : decode cX7_readKind 43 = .ok (.aload_n 0, 1) := by decide +kernel
theorem dX7_readKind_44 : decode cX7_readKind 44 = .ok (.getfield 31, 3) := by decide +kernel
theorem dX7_readKind_47 : decode cX7_readKind 47 = .ok (.sipush 277, 3) := by decide +kernel
theorem dX7_readKind_50 : decode cX7_readKind 50 = .ok (.isub, 1) := by decide +kernel
theorem dX7_readKind_51 : decode cX7_readKind 51 = .ok (.invokevirtual 135, 3) := by decide +kernel
theorem dX7_readKind_54 : decode cX7_readKind 54 = .ok (.aload_n 0, 1) := by decide +kernel
theorem dX7_readKind_55 : decode cX7_readKind 55 = .ok (.invokevirtual 47, 3) := by decide +kernel
theorem dX7_readKind_58 : decode cX7_readKind 58 = .ok (.iconst 1, 1) := by decide +kernel
theorem dX7_readKind_59 : decode cX7_readKind 59 = .ok (.ireturn, 1) := by decide +kernel
theorem dX7_readComparison_0 : decode cX7_readComparison 0 = .ok (.aload_n 0, 1) := by decide +kernel
theorem dX7_readComparison_1 : decode cX7_readComparison 1 = .ok (.getfield 31, 3) := by decide +kernel
theorem dX7_readComparison_4 : decode cX7_readComparison 4 = .ok (.istore_n 2, 1) := by decide +kernel
theorem dX7_readComparison_5 : decode cX7_readComparison 5 = .ok (.iload_n 2, 1) := by decide +kernel
theorem dX7_readComparison_6 : decode cX7_readComparison 6 = .ok (.bipush 61, 2) := by decide +kernel
theorem dX7_readComparison_8 : decode cX7_readComparison 8 = .ok (.if_icmp .eq 21, 3) := by decide +kernel
theorem dX7_readComparison_11 : decode cX7_readComparison 11 = .ok (.iload_n 2, 1) := by decide +kernel
theorem dX7_readComparison_12 : decode cX7_readComparison 12 = .ok (.bipush 60, 2) := by decide +kernel
theorem dX7_readComparison_14 : decode cX7_readComparison 14 = .ok (.if_icmp .eq 15, 3) := by decide +kernel
theorem dX7_readComparison_17 : decode cX7_readComparison 17 = .ok (.iload_n 2, 1) := by decide +kernel
theorem dX7_readComparison_18 : decode cX7_readComparison 18 = .ok (.bipush 62, 2) := by decide +kernel
theorem dX7_readComparison_20 : decode cX7_readComparison 20 = .ok (.if_icmp .eq 9, 3) := by decide +kernel
theorem dX7_readComparison_23 : decode cX7_readComparison 23 = .ok (.aload_n 0, 1) := by decide +kernel
theorem dX7_readComparison_24 : decode cX7_readComparison 24 = .ok (.iconst 1, 1) := by decide +kernel
theorem dX7_readComparison_25 : decode cX7_readComparison 25 = .ok (.invokevirtual 54, 3) := by decide +kernel
theorem dX7_readComparison_28 : decode cX7_readComparison 28 = .ok (.ireturn, 1) := by decide +kernel
theorem dX7_readComparison_29 : decode cX7_readComparison 29 = .ok (.aload_n 0, 1) := by decide +kernel
theorem dX7_readComparison_30 : decode cX7_readComparison 30 = .ok (.invokevirtual 47, 3) := by decide +kernel
theorem dX7_readComparison_33 : decode cX7_readComparison 33 = .ok (.aload_n 0, 1) := by decide +kernel
theorem dX7_readComparison_34 : decode cX7_readComparison 34 = .ok (.iconst 0, 1) := by decide +kernel
theorem dX7_readComparison_35 : decode cX7_readComparison 35 = .ok (.invokevirtual 116, 3) := by decide +kernel
theorem dX7_readComparison_38 : decode cX7_readComparison 38 = .ok (.ifCond .ne 5, 3) := by decide +kernel
theorem dX7_readComparison_41 : decode cX7_readComparison 41 = .ok (.iconst 0, 1) := by decide +kernel
theorem dX7_readComparison_42 : decode cX7_readComparison 42 = .ok (.ireturn, 1) := by decide +kernel
theorem dX7_readComparison_43 : decode cX7_readComparison 43 = .ok (.aload_n 0, 1) := by decide +kernel
theorem dX7_readComparison_44 : decode cX7_readComparison 44 = .ok (.iload_n 1, 1) := by decide +kernel
theorem dX7_readComparison_45 : decode cX7_readComparison 45 = .ok (.iload_n 2, 1) := by decide +kernel
theorem dX7_readComparison_46 : decode cX7_readComparison 46 = .ok (.aload_n 0, 1) := by decide +kernel
theorem dX7_readComparison_47 : decode cX7_readComparison 47 = .ok (.getfield 37, 3) := by decide +kernel
theorem dX7_readComparison_50 : decode cX7_readComparison 50 = .ok (.invokevirtual 135, 3) := by decide +kernel
theorem dX7_readComparison_53 : decode cX7_readComparison 53 = .ok (.aload_n 0, 1) := by decide +kernel
theorem dX7_readComparison_54 : decode cX7_readComparison 54 = .ok (.invokevirtual 47, 3) := by decide +kernel
theorem dX7_readComparison_57 : decode cX7_readComparison 57 = .ok (.iconst 1, 1) := by decide +kernel
theorem dX7_readComparison_58 : decode cX7_readComparison 58 = .ok (.ireturn, 1) := by decide +kernel
theorem dX7_addStep_0 : decode cX7_addStep 0 = .ok (.aload_n 0, 1) := by decide +kernel
theorem dX7_addStep_1 : decode cX7_addStep 1 = .ok (.getfield 44, 3) := by decide +kernel
theorem dX7_addStep_4 : decode cX7_addStep 4 = .ok (.ifCond .lt 61, 3) := by decide +kernel
theorem dX7_addStep_7 : decode cX7_addStep 7 = .ok (.aload_n 0, 1) := by decide +kernel
theorem dX7_addStep_8 : decode cX7_addStep 8 = .ok (.getfield 44, 3) := by decide +kernel
theorem dX7_addStep_11 : decode cX7_addStep 11 = .ok (.iconst 2, 1) := by decide +kernel
theorem dX7_addStep_12 : decode cX7_addStep 12 = .ok (.iadd, 1) := by decide +kernel
theorem dX7_addStep_13 : decode cX7_addStep 13 = .ok (.aload_n 0, 1) := by decide +kernel
theorem dX7_addStep_14 : decode cX7_addStep 14 = .ok (.getfield 40, 3) := by decide +kernel
theorem dX7_addStep_17 : decode cX7_addStep 17 = .ok (.arraylength, 1) := by decide +kernel
theorem dX7_addStep_18 : decode cX7_addStep 18 = .ok (.if_icmp .ge 47, 3) := by decide +kernel
theorem dX7_addStep_21 : decode cX7_addStep 21 = .ok (.aload_n 0, 1) := by decide +kernel
theorem dX7_addStep_22 : decode cX7_addStep 22 = .ok (.getfield 40, 3) := by decide +kernel
theorem dX7_addStep_25 : decode cX7_addStep 25 = .ok (.aload_n 0, 1) := by decide +kernel
theorem dX7_addStep_26 : decode cX7_addStep 26 = .ok (.getfield 44, 3) := by decide +kernel
theorem dX7_addStep_29 : decode cX7_addStep 29 = .ok (.iload_n 1, 1) := by decide +kernel
theorem dX7_addStep_30 : decode cX7_addStep 30 = .ok (.iastore, 1) := by decide +kernel
theorem dX7_addStep_31 : decode cX7_addStep 31 = .ok (.aload_n 0, 1) := by decide +kernel
theorem dX7_addStep_32 : decode cX7_addStep 32 = .ok (.getfield 40, 3) := by decide +kernel
theorem dX7_addStep_35 : decode cX7_addStep 35 = .ok (.aload_n 0, 1) := by decide +kernel
theorem dX7_addStep_36 : decode cX7_addStep 36 = .ok (.getfield 44, 3) := by decide +kernel
theorem dX7_addStep_39 : decode cX7_addStep 39 = .ok (.iconst 1, 1) := by decide +kernel
theorem dX7_addStep_40 : decode cX7_addStep 40 = .ok (.iadd, 1) := by decide +kernel
theorem dX7_addStep_41 : decode cX7_addStep 41 = .ok (.iload_n 2, 1) := by decide +kernel
theorem dX7_addStep_42 : decode cX7_addStep 42 = .ok (.iastore, 1) := by decide +kernel
theorem dX7_addStep_43 : decode cX7_addStep 43 = .ok (.aload_n 0, 1) := by decide +kernel
theorem dX7_addStep_44 : decode cX7_addStep 44 = .ok (.getfield 40, 3) := by decide +kernel
theorem dX7_addStep_47 : decode cX7_addStep 47 = .ok (.aload_n 0, 1) := by decide +kernel
theorem dX7_addStep_48 : decode cX7_addStep 48 = .ok (.getfield 44, 3) := by decide +kernel
theorem dX7_addStep_51 : decode cX7_addStep 51 = .ok (.iconst 2, 1) := by decide +kernel
theorem dX7_addStep_52 : decode cX7_addStep 52 = .ok (.iadd, 1) := by decide +kernel
theorem dX7_addStep_53 : decode cX7_addStep 53 = .ok (.iload_n 3, 1) := by decide +kernel
theorem dX7_addStep_54 : decode cX7_addStep 54 = .ok (.iastore, 1) := by decide +kernel
theorem dX7_addStep_55 : decode cX7_addStep 55 = .ok (.aload_n 0, 1) := by decide +kernel
theorem dX7_addStep_56 : decode cX7_addStep 56 = .ok (.dup, 1) := by decide +kernel
theorem dX7_addStep_57 : decode cX7_addStep 57 = .ok (.getfield 44, 3) := by decide +kernel
theorem dX7_addStep_60 : decode cX7_addStep 60 = .ok (.iconst 3, 1) := by decide +kernel
theorem dX7_addStep_61 : decode cX7_addStep 61 = .ok (.iadd, 1) := by decide +kernel
theorem dX7_addStep_62 : decode cX7_addStep 62 = .ok (.putfield 44, 3) := by decide +kernel
theorem dX7_addStep_65 : decode cX7_addStep 65 = .ok (.return_, 1) := by decide +kernel
theorem dX7_advance_0 : decode cX7_advance 0 = .ok (.aload_n 0, 1) := by decide +kernel
theorem dX7_advance_1 : decode cX7_advance 1 = .ok (.getfield 28, 3) := by decide +kernel
theorem dX7_advance_4 : decode cX7_advance 4 = .ok (.aload_n 0, 1) := by decide +kernel
theorem dX7_advance_5 : decode cX7_advance 5 = .ok (.getfield 25, 3) := by decide +kernel
theorem dX7_advance_8 : decode cX7_advance 8 = .ok (.if_icmp .ge 30, 3) := by decide +kernel
theorem dX7_advance_11 : decode cX7_advance 11 = .ok (.aload_n 0, 1) := by decide +kernel
theorem dX7_advance_12 : decode cX7_advance 12 = .ok (.aload_n 0, 1) := by decide +kernel
theorem dX7_advance_13 : decode cX7_advance 13 = .ok (.getfield 28, 3) := by decide +kernel
theorem dX7_advance_16 : decode cX7_advance 16 = .ok (.invokevirtual 151, 3) := by decide +kernel
theorem dX7_advance_19 : decode cX7_advance 19 = .ok (.invokestatic 155, 3) := by decide +kernel
theorem dX7_advance_22 : decode cX7_advance 22 = .ok (.ifCond .eq 16, 3) := by decide +kernel
theorem dX7_advance_25 : decode cX7_advance 25 = .ok (.aload_n 0, 1) := by decide +kernel
theorem dX7_advance_26 : decode cX7_advance 26 = .ok (.dup, 1) := by decide +kernel
theorem dX7_advance_27 : decode cX7_advance 27 = .ok (.getfield 28, 3) := by decide +kernel
theorem dX7_advance_30 : decode cX7_advance 30 = .ok (.iconst 1, 1) := by decide +kernel
theorem dX7_advance_31 : decode cX7_advance 31 = .ok (.iadd, 1) := by decide +kernel
theorem dX7_advance_32 : decode cX7_advance 32 = .ok (.putfield 28, 3) := by decide +kernel
theorem dX7_advance_35 : decode cX7_advance 35 = .ok (.goto (-35), 3) := by decide +kernel
theorem dX7_advance_38 : decode cX7_advance 38 = .ok (.aload_n 0, 1) := by decide +kernel
theorem dX7_advance_39 : decode cX7_advance 39 = .ok (.aload_n 0, 1) := by decide +kernel
theorem dX7_advance_40 : decode cX7_advance 40 = .ok (.getfield 28, 3) := by decide +kernel
theorem dX7_advance_43 : decode cX7_advance 43 = .ok (.putfield 34, 3) := by decide +kernel
theorem dX7_advance_46 : decode cX7_advance 46 = .ok (.aload_n 0, 1) := by decide +kernel
theorem dX7_advance_47 : decode cX7_advance 47 = .ok (.aload_n 0, 1) := by decide +kernel
theorem dX7_advance_48 : decode cX7_advance 48 = .ok (.getfield 28, 3) := by decide +kernel
theorem dX7_advance_51 : decode cX7_advance 51 = .ok (.invokevirtual 151, 3) := by decide +kernel
theorem dX7_advance_54 : decode cX7_advance 54 = .ok (.istore_n 1, 1) := by decide +kernel
theorem dX7_advance_55 : decode cX7_advance 55 = .ok (.iload_n 1, 1) := by decide +kernel
theorem dX7_advance_56 : decode cX7_advance 56 = .ok (.ifCond .ge 11, 3) := by decide +kernel
theorem dX7_advance_59 : decode cX7_advance 59 = .ok (.aload_n 0, 1) := by decide +kernel
theorem dX7_advance_60 : decode cX7_advance 60 = .ok (.iconst (-1), 1) := by decide +kernel
theorem dX7_advance_61 : decode cX7_advance 61 = .ok (.putfield 31, 3) := by decide +kernel
theorem dX7_advance_64 : decode cX7_advance 64 = .ok (.goto 182, 3) := by decide +kernel
theorem dX7_advance_67 : decode cX7_advance 67 = .ok (.iload_n 1, 1) := by decide +kernel
theorem dX7_advance_68 : decode cX7_advance 68 = .ok (.invokestatic 158, 3) := by decide +kernel
theorem dX7_advance_71 : decode cX7_advance 71 = .ok (.ifCond .eq 60, 3) := by decide +kernel
theorem dX7_advance_74 : decode cX7_advance 74 = .ok (.aload_n 0, 1) := by decide +kernel
theorem dX7_advance_75 : decode cX7_advance 75 = .ok (.getfield 28, 3) := by decide +kernel
theorem dX7_advance_78 : decode cX7_advance 78 = .ok (.aload_n 0, 1) := by decide +kernel
theorem dX7_advance_79 : decode cX7_advance 79 = .ok (.getfield 25, 3) := by decide +kernel
theorem dX7_advance_82 : decode cX7_advance 82 = .ok (.if_icmp .ge 30, 3) := by decide +kernel
theorem dX7_advance_85 : decode cX7_advance 85 = .ok (.aload_n 0, 1) := by decide +kernel
theorem dX7_advance_86 : decode cX7_advance 86 = .ok (.aload_n 0, 1) := by decide +kernel
theorem dX7_advance_87 : decode cX7_advance 87 = .ok (.getfield 28, 3) := by decide +kernel
theorem dX7_advance_90 : decode cX7_advance 90 = .ok (.invokevirtual 151, 3) := by decide +kernel
theorem dX7_advance_93 : decode cX7_advance 93 = .ok (.invokestatic 158, 3) := by decide +kernel
theorem dX7_advance_96 : decode cX7_advance 96 = .ok (.ifCond .eq 16, 3) := by decide +kernel
theorem dX7_advance_99 : decode cX7_advance 99 = .ok (.aload_n 0, 1) := by decide +kernel
theorem dX7_advance_100 : decode cX7_advance 100 = .ok (.dup, 1) := by decide +kernel
theorem dX7_advance_101 : decode cX7_advance 101 = .ok (.getfield 28, 3) := by decide +kernel
theorem dX7_advance_104 : decode cX7_advance 104 = .ok (.iconst 1, 1) := by decide +kernel
theorem dX7_advance_105 : decode cX7_advance 105 = .ok (.iadd, 1) := by decide +kernel
theorem dX7_advance_106 : decode cX7_advance 106 = .ok (.putfield 28, 3) := by decide +kernel
theorem dX7_advance_109 : decode cX7_advance 109 = .ok (.goto (-35), 3) := by decide +kernel
theorem dX7_advance_112 : decode cX7_advance 112 = .ok (.aload_n 0, 1) := by decide +kernel
theorem dX7_advance_113 : decode cX7_advance 113 = .ok (.aload_n 0, 1) := by decide +kernel
theorem dX7_advance_114 : decode cX7_advance 114 = .ok (.aload_n 0, 1) := by decide +kernel
theorem dX7_advance_115 : decode cX7_advance 115 = .ok (.getfield 34, 3) := by decide +kernel
theorem dX7_advance_118 : decode cX7_advance 118 = .ok (.aload_n 0, 1) := by decide +kernel
theorem dX7_advance_119 : decode cX7_advance 119 = .ok (.getfield 28, 3) := by decide +kernel
theorem dX7_advance_122 : decode cX7_advance 122 = .ok (.invokevirtual 161, 3) := by decide +kernel
theorem dX7_advance_125 : decode cX7_advance 125 = .ok (.putfield 31, 3) := by decide +kernel
theorem dX7_advance_128 : decode cX7_advance 128 = .ok (.goto 118, 3) := by decide +kernel
theorem dX7_advance_131 : decode cX7_advance 131 = .ok (.iload_n 1, 1) := by decide +kernel
theorem dX7_advance_132 : decode cX7_advance 132 = .ok (.invokestatic 164, 3) := by decide +kernel
theorem dX7_advance_135 : decode cX7_advance 135 = .ok (.ifCond .eq 82, 3) := by decide +kernel
theorem dX7_advance_138 : decode cX7_advance 138 = .ok (.aload_n 0, 1) := by decide +kernel
theorem dX7_advance_139 : decode cX7_advance 139 = .ok (.iconst 0, 1) := by decide +kernel
theorem dX7_advance_140 : decode cX7_advance 140 = .ok (.putfield 37, 3) := by decide +kernel
theorem dX7_advance_143 : decode cX7_advance 143 = .ok (.aload_n 0, 1) := by decide +kernel
theorem dX7_advance_144 : decode cX7_advance 144 = .ok (.getfield 28, 3) := by decide +kernel
theorem dX7_advance_147 : decode cX7_advance 147 = .ok (.aload_n 0, 1) := by decide +kernel
theorem dX7_advance_148 : decode cX7_advance 148 = .ok (.getfield 25, 3) := by decide +kernel
theorem dX7_advance_151 : decode cX7_advance 151 = .ok (.if_icmp .ge 58, 3) := by decide +kernel
theorem dX7_advance_154 : decode cX7_advance 154 = .ok (.aload_n 0, 1) := by decide +kernel
theorem dX7_advance_155 : decode cX7_advance 155 = .ok (.aload_n 0, 1) := by decide +kernel
theorem dX7_advance_156 : decode cX7_advance 156 = .ok (.getfield 28, 3) := by decide +kernel
theorem dX7_advance_159 : decode cX7_advance 159 = .ok (.invokevirtual 151, 3) := by decide +kernel
theorem dX7_advance_162 : decode cX7_advance 162 = .ok (.invokestatic 164, 3) := by decide +kernel
theorem dX7_advance_165 : decode cX7_advance 165 = .ok (.ifCond .eq 44, 3) := by decide +kernel
theorem dX7_advance_168 : decode cX7_advance 168 = .ok (.aload_n 0, 1) := by decide +kernel
theorem dX7_advance_169 : decode cX7_advance 169 = .ok (.aload_n 0, 1) := by decide +kernel
theorem dX7_advance_170 : decode cX7_advance 170 = .ok (.getfield 37, 3) := by decide +kernel
theorem dX7_advance_173 : decode cX7_advance 173 = .ok (.bipush 10, 2) := by decide +kernel
theorem dX7_advance_175 : decode cX7_advance 175 = .ok (.imul, 1) := by decide +kernel
theorem dX7_advance_176 : decode cX7_advance 176 = .ok (.aload_n 0, 1) := by decide +kernel
theorem dX7_advance_177 : decode cX7_advance 177 = .ok (.aload_n 0, 1) := by decide +kernel
theorem dX7_advance_178 : decode cX7_advance 178 = .ok (.getfield 28, 3) := by decide +kernel
theorem dX7_advance_181 : decode cX7_advance 181 = .ok (.invokevirtual 151, 3) := by decide +kernel
theorem dX7_advance_184 : decode cX7_advance 184 = .ok (.iadd, 1) := by decide +kernel
theorem dX7_advance_185 : decode cX7_advance 185 = .ok (.bipush 48, 2) := by decide +kernel
theorem dX7_advance_187 : decode cX7_advance 187 = .ok (.isub, 1) := by decide +kernel
theorem dX7_advance_188 : decode cX7_advance 188 = .ok (.ldc 167, 2) := by decide +kernel
theorem dX7_advance_190 : decode cX7_advance 190 = .ok (.invokestatic 168, 3) := by decide +kernel
theorem dX7_advance_193 : decode cX7_advance 193 = .ok (.putfield 37, 3) := by decide +kernel
theorem dX7_advance_196 : decode cX7_advance 196 = .ok (.aload_n 0, 1) := by decide +kernel
theorem dX7_advance_197 : decode cX7_advance 197 = .ok (.dup, 1) := by decide +kernel
theorem dX7_advance_198 : decode cX7_advance 198 = .ok (.getfield 28, 3) := by decide +kernel
theorem dX7_advance_201 : decode cX7_advance 201 = .ok (.iconst 1, 1) := by decide +kernel
theorem dX7_advance_202 : decode cX7_advance 202 = .ok (.iadd, 1) := by decide +kernel
theorem dX7_advance_203 : decode cX7_advance 203 = .ok (.putfield 28, 3) := by decide +kernel
theorem dX7_advance_206 : decode cX7_advance 206 = .ok (.goto (-63), 3) := by decide +kernel
theorem dX7_advance_209 : decode cX7_advance 209 = .ok (.aload_n 0, 1) := by decide +kernel
theorem dX7_advance_210 : decode cX7_advance 210 = .ok (.iconst 1, 1) := by decide +kernel
theorem dX7_advance_211 : decode cX7_advance 211 = .ok (.putfield 31, 3) := by decide +kernel
theorem dX7_advance_214 : decode cX7_advance 214 = .ok (.goto 32, 3) := by decide +kernel
theorem dX7_advance_217 : decode cX7_advance 217 = .ok (.aload_n 0, 1) := by decide +kernel
theorem dX7_advance_218 : decode cX7_advance 218 = .ok (.ldc 171, 2) := by decide +kernel
theorem dX7_advance_220 : decode cX7_advance 220 = .ok (.iload_n 1, 1) := by decide +kernel
theorem dX7_advance_221 : decode cX7_advance 221 = .ok (.i2c, 1) := by decide +kernel
theorem dX7_advance_222 : decode cX7_advance 222 = .ok (.invokevirtual 173, 3) := by decide +kernel
theorem dX7_advance_225 : decode cX7_advance 225 = .ok (.ifCond .lt 7, 3) := by decide +kernel
theorem dX7_advance_228 : decode cX7_advance 228 = .ok (.iload_n 1, 1) := by decide +kernel
theorem dX7_advance_229 : decode cX7_advance 229 = .ok (.goto 4, 3) := by decide +kernel
theorem dX7_advance_232 : decode cX7_advance 232 = .ok (.iconst 2, 1) := by decide +kernel
theorem dX7_advance_233 : decode cX7_advance 233 = .ok (.putfield 31, 3) := by decide +kernel
theorem dX7_advance_236 : decode cX7_advance 236 = .ok (.aload_n 0, 1) := by decide +kernel
theorem dX7_advance_237 : decode cX7_advance 237 = .ok (.dup, 1) := by decide +kernel
theorem dX7_advance_238 : decode cX7_advance 238 = .ok (.getfield 28, 3) := by decide +kernel
theorem dX7_advance_241 : decode cX7_advance 241 = .ok (.iconst 1, 1) := by decide +kernel
theorem dX7_advance_242 : decode cX7_advance 242 = .ok (.iadd, 1) := by decide +kernel
theorem dX7_advance_243 : decode cX7_advance 243 = .ok (.putfield 28, 3) := by decide +kernel
theorem dX7_advance_246 : decode cX7_advance 246 = .ok (.return_, 1) := by decide +kernel
theorem dX7_wordNumber_0 : decode cX7_wordNumber 0 = .ok (.sipush 256, 3) := by decide +kernel
theorem dX7_wordNumber_3 : decode cX7_wordNumber 3 = .ok (.istore_n 3, 1) := by decide +kernel
theorem dX7_wordNumber_4 : decode cX7_wordNumber 4 = .ok (.iload_n 1, 1) := by decide +kernel
theorem dX7_wordNumber_5 : decode cX7_wordNumber 5 = .ok (.istore 4, 2) := by decide +kernel
theorem dX7_wordNumber_7 : decode cX7_wordNumber 7 = .ok (.iconst 1, 1) := by decide +kernel
theorem dX7_wordNumber_8 : decode cX7_wordNumber 8 = .ok (.istore 5, 2) := by decide +kernel
theorem dX7_wordNumber_10 : decode cX7_wordNumber 10 = .ok (.iconst 0, 1) := by decide +kernel
theorem dX7_wordNumber_11 : decode cX7_wordNumber 11 = .ok (.istore 6, 2) := by decide +kernel
theorem dX7_wordNumber_13 : decode cX7_wordNumber 13 = .ok (.iload 6, 2) := by decide +kernel
theorem dX7_wordNumber_15 : decode cX7_wordNumber 15 = .ok (.ldc 178, 2) := by decide +kernel
theorem dX7_wordNumber_17 : decode cX7_wordNumber 17 = .ok (.invokevirtual 180, 3) := by decide +kernel
theorem dX7_wordNumber_20 : decode cX7_wordNumber 20 = .ok (.if_icmp .ge 82, 3) := by decide +kernel
theorem dX7_wordNumber_23 : decode cX7_wordNumber 23 = .ok (.ldc 178, 2) := by decide +kernel
theorem dX7_wordNumber_25 : decode cX7_wordNumber 25 = .ok (.iload 6, 2) := by decide +kernel
theorem dX7_wordNumber_27 : decode cX7_wordNumber 27 = .ok (.invokevirtual 182, 3) := by decide +kernel
theorem dX7_wordNumber_30 : decode cX7_wordNumber 30 = .ok (.istore 7, 2) := by decide +kernel
theorem dX7_wordNumber_32 : decode cX7_wordNumber 32 = .ok (.iload 7, 2) := by decide +kernel
theorem dX7_wordNumber_34 : decode cX7_wordNumber 34 = .ok (.bipush 32, 2) := by decide +kernel
theorem dX7_wordNumber_36 : decode cX7_wordNumber 36 = .ok (.if_icmp .eq 38, 3) := by decide +kernel
theorem dX7_wordNumber_39 : decode cX7_wordNumber 39 = .ok (.iload 5, 2) := by decide +kernel
theorem dX7_wordNumber_41 : decode cX7_wordNumber 41 = .ok (.ifCond .eq 24, 3) := by decide +kernel
theorem dX7_wordNumber_44 : decode cX7_wordNumber 44 = .ok (.iload 4, 2) := by decide +kernel
theorem dX7_wordNumber_46 : decode cX7_wordNumber 46 = .ok (.iload_n 2, 1) := by decide +kernel
theorem dX7_wordNumber_47 : decode cX7_wordNumber 47 = .ok (.if_icmp .ge 18, 3) := by decide +kernel
theorem dX7_wordNumber_50 : decode cX7_wordNumber 50 = .ok (.aload_n 0, 1) := by decide +kernel
theorem dX7_wordNumber_51 : decode cX7_wordNumber 51 = .ok (.iload 4, 2) := by decide +kernel
theorem dX7_wordNumber_53 : decode cX7_wordNumber 53 = .ok (.invokevirtual 151, 3) := by decide +kernel
theorem dX7_wordNumber_56 : decode cX7_wordNumber 56 = .ok (.iload 7, 2) := by decide +kernel
theorem dX7_wordNumber_58 : decode cX7_wordNumber 58 = .ok (.if_icmp .ne 7, 3) := by decide +kernel
theorem dX7_wordNumber_61 : decode cX7_wordNumber 61 = .ok (.iconst 1, 1) := by decide +kernel
theorem dX7_wordNumber_62 : decode cX7_wordNumber 62 = .ok (.goto 4, 3) := by decide +kernel
theorem dX7_wordNumber_65 : decode cX7_wordNumber 65 = .ok (.iconst 0, 1) := by decide +kernel
theorem dX7_wordNumber_66 : decode cX7_wordNumber 66 = .ok (.istore 5, 2) := by decide +kernel
theorem dX7_wordNumber_68 : decode cX7_wordNumber 68 = .ok (.iinc 4 1, 3) := by decide +kernel
theorem dX7_wordNumber_71 : decode cX7_wordNumber 71 = .ok (.goto 25, 3) := by decide +kernel
theorem dX7_wordNumber_74 : decode cX7_wordNumber 74 = .ok (.iload 5, 2) := by decide +kernel
theorem dX7_wordNumber_76 : decode cX7_wordNumber 76 = .ok (.ifCond .eq 11, 3) := by decide +kernel
theorem dX7_wordNumber_79 : decode cX7_wordNumber 79 = .ok (.iload 4, 2) := by decide +kernel
theorem dX7_wordNumber_81 : decode cX7_wordNumber 81 = .ok (.iload_n 2, 1) := by decide +kernel
theorem dX7_wordNumber_82 : decode cX7_wordNumber 82 = .ok (.if_icmp .ne 5, 3) := by decide +kernel
theorem dX7_wordNumber_85 : decode cX7_wordNumber 85 = .ok (.iload_n 3, 1) := by decide +kernel
theorem dX7_wordNumber_86 : decode cX7_wordNumber 86 = .ok (.ireturn, 1) := by decide +kernel
theorem dX7_wordNumber_87 : decode cX7_wordNumber 87 = .ok (.iinc 3 1, 3) := by decide +kernel
theorem dX7_wordNumber_90 : decode cX7_wordNumber 90 = .ok (.iload_n 1, 1) := by decide +kernel
theorem dX7_wordNumber_91 : decode cX7_wordNumber 91 = .ok (.istore 4, 2) := by decide +kernel
theorem dX7_wordNumber_93 : decode cX7_wordNumber 93 = .ok (.iconst 1, 1) := by decide +kernel
theorem dX7_wordNumber_94 : decode cX7_wordNumber 94 = .ok (.istore 5, 2) := by decide +kernel
theorem dX7_wordNumber_96 : decode cX7_wordNumber 96 = .ok (.iinc 6 1, 3) := by decide +kernel
theorem dX7_wordNumber_99 : decode cX7_wordNumber 99 = .ok (.goto (-86), 3) := by decide +kernel
theorem dX7_wordNumber_102 : decode cX7_wordNumber 102 = .ok (.iconst 2, 1) := by decide +kernel
theorem dX7_wordNumber_103 : decode cX7_wordNumber 103 = .ok (.ireturn, 1) := by decide +kernel
theorem dX7_byteAt_0 : decode cX7_byteAt 0 = .ok (.iload_n 1, 1) := by decide +kernel
theorem dX7_byteAt_1 : decode cX7_byteAt 1 = .ok (.ifCond .lt 33, 3) := by decide +kernel
theorem dX7_byteAt_4 : decode cX7_byteAt 4 = .ok (.iload_n 1, 1) := by decide +kernel
theorem dX7_byteAt_5 : decode cX7_byteAt 5 = .ok (.aload_n 0, 1) := by decide +kernel
theorem dX7_byteAt_6 : decode cX7_byteAt 6 = .ok (.getfield 25, 3) := by decide +kernel
theorem dX7_byteAt_9 : decode cX7_byteAt 9 = .ok (.if_icmp .ge 25, 3) := by decide +kernel
theorem dX7_byteAt_12 : decode cX7_byteAt 12 = .ok (.iload_n 1, 1) := by decide +kernel
theorem dX7_byteAt_13 : decode cX7_byteAt 13 = .ok (.aload_n 0, 1) := by decide +kernel
theorem dX7_byteAt_14 : decode cX7_byteAt 14 = .ok (.getfield 11, 3) := by decide +kernel
theorem dX7_byteAt_17 : decode cX7_byteAt 17 = .ok (.arraylength, 1) := by decide +kernel
theorem dX7_byteAt_18 : decode cX7_byteAt 18 = .ok (.if_icmp .ge 16, 3) := by decide +kernel
theorem dX7_byteAt_21 : decode cX7_byteAt 21 = .ok (.aload_n 0, 1) := by decide +kernel
theorem dX7_byteAt_22 : decode cX7_byteAt 22 = .ok (.getfield 11, 3) := by decide +kernel
theorem dX7_byteAt_25 : decode cX7_byteAt 25 = .ok (.iload_n 1, 1) := by decide +kernel
theorem dX7_byteAt_26 : decode cX7_byteAt 26 = .ok (.baload, 1) := by decide +kernel
theorem dX7_byteAt_27 : decode cX7_byteAt 27 = .ok (.sipush 255, 3) := by decide +kernel
theorem dX7_byteAt_30 : decode cX7_byteAt 30 = .ok (.iand, 1) := by decide +kernel
theorem dX7_byteAt_31 : decode cX7_byteAt 31 = .ok (.goto 4, 3) := by decide +kernel
theorem dX7_byteAt_34 : decode cX7_byteAt 34 = .ok (.iconst (-1), 1) := by decide +kernel
theorem dX7_byteAt_35 : decode cX7_byteAt 35 = .ok (.ireturn, 1) := by decide +kernel
theorem dX7_isBlank_0 : decode cX7_isBlank 0 = .ok (.iload_n 0, 1) := by decide +kernel
theorem dX7_isBlank_1 : decode cX7_isBlank 1 = .ok (.bipush 32, 2) := by decide +kernel
theorem dX7_isBlank_3 : decode cX7_isBlank 3 = .ok (.if_icmp .eq 9, 3) := by decide +kernel
theorem dX7_isBlank_6 : decode cX7_isBlank 6 = .ok (.iload_n 0, 1) := by decide +kernel
theorem dX7_isBlank_7 : decode cX7_isBlank 7 = .ok (.bipush 10, 2) := by decide +kernel
theorem dX7_isBlank_9 : decode cX7_isBlank 9 = .ok (.if_icmp .ne 7, 3) := by decide +kernel
theorem dX7_isBlank_12 : decode cX7_isBlank 12 = .ok (.iconst 1, 1) := by decide +kernel
theorem dX7_isBlank_13 : decode cX7_isBlank 13 = .ok (.goto 4, 3) := by decide +kernel
theorem dX7_isBlank_16 : decode cX7_isBlank 16 = .ok (.iconst 0, 1) := by decide +kernel
theorem dX7_isBlank_17 : decode cX7_isBlank 17 = .ok (.ireturn, 1) := by decide +kernel
theorem dX7_isLetter_0 : decode cX7_isLetter 0 = .ok (.iload_n 0, 1) := by decide +kernel
theorem dX7_isLetter_1 : decode cX7_isLetter 1 = .ok (.bipush 97, 2) := by decide +kernel
theorem dX7_isLetter_3 : decode cX7_isLetter 3 = .ok (.if_icmp .lt 13, 3) := by decide +kernel
theorem dX7_isLetter_6 : decode cX7_isLetter 6 = .ok (.iload_n 0, 1) := by decide +kernel
theorem dX7_isLetter_7 : decode cX7_isLetter 7 = .ok (.bipush 122, 2) := by decide +kernel
theorem dX7_isLetter_9 : decode cX7_isLetter 9 = .ok (.if_icmp .gt 7, 3) := by decide +kernel
theorem dX7_isLetter_12 : decode cX7_isLetter 12 = .ok (.iconst 1, 1) := by decide +kernel
theorem dX7_isLetter_13 : decode cX7_isLetter 13 = .ok (.goto 4, 3) := by decide +kernel
theorem dX7_isLetter_16 : decode cX7_isLetter 16 = .ok (.iconst 0, 1) := by decide +kernel
theorem dX7_isLetter_17 : decode cX7_isLetter 17 = .ok (.ireturn, 1) := by decide +kernel
theorem dX7_isDigit_0 : decode cX7_isDigit 0 = .ok (.iload_n 0, 1) := by decide +kernel
theorem dX7_isDigit_1 : decode cX7_isDigit 1 = .ok (.bipush 48, 2) := by decide +kernel
theorem dX7_isDigit_3 : decode cX7_isDigit 3 = .ok (.if_icmp .lt 13, 3) := by decide +kernel
theorem dX7_isDigit_6 : decode cX7_isDigit 6 = .ok (.iload_n 0, 1) := by decide +kernel
theorem dX7_isDigit_7 : decode cX7_isDigit 7 = .ok (.bipush 57, 2) := by decide +kernel
theorem dX7_isDigit_9 : decode cX7_isDigit 9 = .ok (.if_icmp .gt 7, 3) := by decide +kernel
theorem dX7_isDigit_12 : decode cX7_isDigit 12 = .ok (.iconst 1, 1) := by decide +kernel
theorem dX7_isDigit_13 : decode cX7_isDigit 13 = .ok (.goto 4, 3) := by decide +kernel
theorem dX7_isDigit_16 : decode cX7_isDigit 16 = .ok (.iconst 0, 1) := by decide +kernel
theorem dX7_isDigit_17 : decode cX7_isDigit 17 = .ok (.ireturn, 1) := by decide +kernel
theorem dX8_init_0 : decode cX8_init 0 = .ok (.aload_n 0, 1) := by decide +kernel
theorem dX8_init_1 : decode cX8_init 1 = .ok (.invokespecial 3, 3) := by decide +kernel
theorem dX8_init_4 : decode cX8_init 4 = .ok (.aload_n 0, 1) := by decide +kernel
theorem dX8_init_5 : decode cX8_init 5 = .ok (.iconst 0, 1) := by decide +kernel
theorem dX8_init_6 : decode cX8_init 6 = .ok (.putfield 9, 3) := by decide +kernel
theorem dX8_init_9 : decode cX8_init 9 = .ok (.aload_n 0, 1) := by decide +kernel
theorem dX8_init_10 : decode cX8_init 10 = .ok (.iconst (-1), 1) := by decide +kernel
theorem dX8_init_11 : decode cX8_init 11 = .ok (.putfield 15, 3) := by decide +kernel
theorem dX8_init_14 : decode cX8_init 14 = .ok (.aload_n 0, 1) := by decide +kernel
theorem dX8_init_15 : decode cX8_init 15 = .ok (.bipush 10, 2) := by decide +kernel
theorem dX8_init_17 : decode cX8_init 17 = .ok (.newarray .int, 2) := by decide +kernel
theorem dX8_init_19 : decode cX8_init 19 = .ok (.putfield 18, 3) := by decide +kernel
theorem dX8_init_22 : decode cX8_init 22 = .ok (.aload_n 0, 1) := by decide +kernel
theorem dX8_init_23 : decode cX8_init 23 = .ok (.bipush 40, 2) := by decide +kernel
theorem dX8_init_25 : decode cX8_init 25 = .ok (.newarray .int, 2) := by decide +kernel
theorem dX8_init_27 : decode cX8_init 27 = .ok (.putfield 24, 3) := by decide +kernel
theorem dX8_init_30 : decode cX8_init 30 = .ok (.aload_n 0, 1) := by decide +kernel
theorem dX8_init_31 : decode cX8_init 31 = .ok (.iconst 0, 1) := by decide +kernel
theorem dX8_init_32 : decode cX8_init 32 = .ok (.putfield 27, 3) := by decide +kernel
theorem dX8_init_35 : decode cX8_init 35 = .ok (.aload_n 0, 1) := by decide +kernel
theorem dX8_init_36 : decode cX8_init 36 = .ok (.iconst (-1), 1) := by decide +kernel
theorem dX8_init_37 : decode cX8_init 37 = .ok (.putfield 30, 3) := by decide +kernel
theorem dX8_init_40 : decode cX8_init 40 = .ok (.aload_n 0, 1) := by decide +kernel
theorem dX8_init_41 : decode cX8_init 41 = .ok (.iconst (-1), 1) := by decide +kernel
theorem dX8_init_42 : decode cX8_init 42 = .ok (.putfield 33, 3) := by decide +kernel
theorem dX8_init_45 : decode cX8_init 45 = .ok (.return_, 1) := by decide +kernel
theorem dX8_reckon_0 : decode cX8_reckon 0 = .ok (.aload_n 0, 1) := by decide +kernel
theorem dX8_reckon_1 : decode cX8_reckon 1 = .ok (.iconst 0, 1) := by decide +kernel
theorem dX8_reckon_2 : decode cX8_reckon 2 = .ok (.putfield 9, 3) := by decide +kernel
theorem dX8_reckon_5 : decode cX8_reckon 5 = .ok (.aload_n 0, 1) := by decide +kernel
theorem dX8_reckon_6 : decode cX8_reckon 6 = .ok (.iconst (-1), 1) := by decide +kernel
theorem dX8_reckon_7 : decode cX8_reckon 7 = .ok (.putfield 15, 3) := by decide +kernel
theorem dX8_reckon_10 : decode cX8_reckon 10 = .ok (.aload_n 1, 1) := by decide +kernel
theorem dX8_reckon_11 : decode cX8_reckon 11 = .ok (.ifnonnull 4, 3) := by decide +kernel
theorem dX8_reckon_14 : decode cX8_reckon 14 = .ok (.return_, 1) := by decide +kernel
theorem dX8_reckon_15 : decode cX8_reckon 15 = .ok (.aload_n 0, 1) := by decide +kernel
theorem dX8_reckon_16 : decode cX8_reckon 16 = .ok (.aload_n 2, 1) := by decide +kernel
theorem dX8_reckon_17 : decode cX8_reckon 17 = .ok (.iload_n 3, 1) := by decide +kernel
theorem dX8_reckon_18 : decode cX8_reckon 18 = .ok (.iload 4, 2) := by decide +kernel
theorem dX8_reckon_20 : decode cX8_reckon 20 = .ok (.invokevirtual 36, 3) := by decide +kernel
theorem dX8_reckon_23 : decode cX8_reckon 23 = .ok (.aload_n 0, 1) := by decide +kernel
theorem dX8_reckon_24 : decode cX8_reckon 24 = .ok (.iconst 0, 1) := by decide +kernel
theorem dX8_reckon_25 : decode cX8_reckon 25 = .ok (.putfield 27, 3) := by decide +kernel
theorem dX8_reckon_28 : decode cX8_reckon 28 = .ok (.aload_n 0, 1) := by decide +kernel
theorem dX8_reckon_29 : decode cX8_reckon 29 = .ok (.iconst (-1), 1) := by decide +kernel
theorem dX8_reckon_30 : decode cX8_reckon 30 = .ok (.putfield 30, 3) := by decide +kernel
theorem dX8_reckon_33 : decode cX8_reckon 33 = .ok (.aload_n 0, 1) := by decide +kernel
theorem dX8_reckon_34 : decode cX8_reckon 34 = .ok (.iconst (-1), 1) := by decide +kernel
theorem dX8_reckon_35 : decode cX8_reckon 35 = .ok (.putfield 33, 3) := by decide +kernel
theorem dX8_reckon_38 : decode cX8_reckon 38 = .ok (.iconst 0, 1) := by decide +kernel
theorem dX8_reckon_39 : decode cX8_reckon 39 = .ok (.istore 5, 2) := by decide +kernel
theorem dX8_reckon_41 : decode cX8_reckon 41 = .ok (.iload 5, 2) := by decide +kernel
theorem dX8_reckon_43 : decode cX8_reckon 43 = .ok (.aload_n 1, 1) := by decide +kernel
theorem dX8_reckon_44 : decode cX8_reckon 44 = .ok (.getfield 40, 3) := by decide +kernel
theorem dX8_reckon_47 : decode cX8_reckon 47 = .ok (.invokevirtual 46, 3) := by decide +kernel
theorem dX8_reckon_50 : decode cX8_reckon 50 = .ok (.if_icmp .ge 84, 3) := by decide +kernel
theorem dX8_reckon_53 : decode cX8_reckon 53 = .ok (.aload_n 1, 1) := by decide +kernel
theorem dX8_reckon_54 : decode cX8_reckon 54 = .ok (.getfield 40, 3) := by decide +kernel
theorem dX8_reckon_57 : decode cX8_reckon 57 = .ok (.iload 5, 2) := by decide +kernel
theorem dX8_reckon_59 : decode cX8_reckon 59 = .ok (.invokevirtual 52, 3) := by decide +kernel
theorem dX8_reckon_62 : decode cX8_reckon 62 = .ok (.checkcast 56, 3) := by decide +kernel
theorem dX8_reckon_65 : decode cX8_reckon 65 = .ok (.astore 6, 2) := by decide +kernel
theorem dX8_reckon_67 : decode cX8_reckon 67 = .ok (.aload 6, 2) := by decide +kernel
theorem dX8_reckon_69 : decode cX8_reckon 69 = .ok (.aload_n 0, 1) := by decide +kernel
theorem dX8_reckon_70 : decode cX8_reckon 70 = .ok (.getfield 18, 3) := by decide +kernel
theorem dX8_reckon_73 : decode cX8_reckon 73 = .ok (.invokevirtual 58, 3) := by decide +kernel
theorem dX8_reckon_76 : decode cX8_reckon 76 = .ok (.ifCond .eq 52, 3) := by decide +kernel
theorem dX8_reckon_79 : decode cX8_reckon 79 = .ok (.aload 6, 2) := by decide +kernel
theorem dX8_reckon_81 : decode cX8_reckon 81 = .ok (.getfield 62, 3) := by decide +kernel
theorem dX8_reckon_84 : decode cX8_reckon 84 = .ok (.sipush 256, 3) := by decide +kernel
theorem dX8_reckon_87 : decode cX8_reckon 87 = .ok (.if_icmp .ne 10, 3) := by decide +kernel
theorem dX8_reckon_90 : decode cX8_reckon 90 = .ok (.aload_n 0, 1) := by decide +kernel
theorem dX8_reckon_91 : decode cX8_reckon 91 = .ok (.iload 5, 2) := by decide +kernel
theorem dX8_reckon_93 : decode cX8_reckon 93 = .ok (.putfield 15, 3) := by decide +kernel
theorem dX8_reckon_96 : decode cX8_reckon 96 = .ok (.return_, 1) := by decide +kernel
theorem dX8_reckon_97 : decode cX8_reckon 97 = .ok (.aload 6, 2) := by decide +kernel
theorem dX8_reckon_99 : decode cX8_reckon 99 = .ok (.getfield 62, 3) := by decide +kernel
theorem dX8_reckon_102 : decode cX8_reckon 102 = .ok (.sipush 257, 3) := by decide +kernel
theorem dX8_reckon_105 : decode cX8_reckon 105 = .ok (.if_icmp .ne 15, 3) := by decide +kernel
theorem dX8_reckon_108 : decode cX8_reckon 108 = .ok (.aload_n 0, 1) := by decide +kernel
theorem dX8_reckon_109 : decode cX8_reckon 109 = .ok (.aload_n 1, 1) := by decide +kernel
theorem dX8_reckon_110 : decode cX8_reckon 110 = .ok (.iload 5, 2) := by decide +kernel
theorem dX8_reckon_112 : decode cX8_reckon 112 = .ok (.aload_n 2, 1) := by decide +kernel
theorem dX8_reckon_113 : decode cX8_reckon 113 = .ok (.iload_n 3, 1) := by decide +kernel
theorem dX8_reckon_114 : decode cX8_reckon 114 = .ok (.iload 4, 2) := by decide +kernel
theorem dX8_reckon_116 : decode cX8_reckon 116 = .ok (.invokevirtual 65, 3) := by decide +kernel
theorem dX8_reckon_119 : decode cX8_reckon 119 = .ok (.return_, 1) := by decide +kernel
theorem dX8_reckon_120 : decode cX8_reckon 120 = .ok (.aload_n 0, 1) := by decide +kernel
theorem dX8_reckon_121 : decode cX8_reckon 121 = .ok (.aload 6, 2) := by decide +kernel
theorem dX8_reckon_123 : decode cX8_reckon 123 = .ok (.iload 5, 2) := by decide +kernel
theorem dX8_reckon_125 : decode cX8_reckon 125 = .ok (.invokevirtual 69, 3) := by decide +kernel
theorem dX8_reckon_128 : decode cX8_reckon 128 = .ok (.iinc 5 1, 3) := by decide +kernel
theorem dX8_reckon_131 : decode cX8_reckon 131 = .ok (.goto (-90), 3) := by decide +kernel
theorem dX8_reckon_134 : decode cX8_reckon 134 = .ok (.return_, 1) := by decide +kernel
theorem dX8_learn_0 : decode cX8_learn 0 = .ok (.aload_n 0, 1) := by decide +kernel
theorem dX8_learn_1 : decode cX8_learn 1 = .ok (.sipush 267, 3) := by decide +kernel
theorem dX8_learn_4 : decode cX8_learn 4 = .ok (.aload_n 1, 1) := by decide +kernel
theorem dX8_learn_5 : decode cX8_learn 5 = .ok (.getfield 73, 3) := by decide +kernel
theorem dX8_learn_8 : decode cX8_learn 8 = .ok (.iconst 1, 1) := by decide +kernel
theorem dX8_learn_9 : decode cX8_learn 9 = .ok (.iand, 1) := by decide +kernel
theorem dX8_learn_10 : decode cX8_learn 10 = .ok (.invokevirtual 78, 3) := by decide +kernel
theorem dX8_learn_13 : decode cX8_learn 13 = .ok (.aload_n 0, 1) := by decide +kernel
theorem dX8_learn_14 : decode cX8_learn 14 = .ok (.sipush 268, 3) := by decide +kernel
theorem dX8_learn_17 : decode cX8_learn 17 = .ok (.aload_n 1, 1) := by decide +kernel
theorem dX8_learn_18 : decode cX8_learn 18 = .ok (.getfield 73, 3) := by decide +kernel
theorem dX8_learn_21 : decode cX8_learn 21 = .ok (.iconst 1, 1) := by decide +kernel
theorem dX8_learn_22 : decode cX8_learn 22 = .ok (.ishr, 1) := by decide +kernel
theorem dX8_learn_23 : decode cX8_learn 23 = .ok (.iconst 1, 1) := by decide +kernel
theorem dX8_learn_24 : decode cX8_learn 24 = .ok (.iand, 1) := by decide +kernel
theorem dX8_learn_25 : decode cX8_learn 25 = .ok (.invokevirtual 78, 3) := by decide +kernel
theorem dX8_learn_28 : decode cX8_learn 28 = .ok (.aload_n 0, 1) := by decide +kernel
theorem dX8_learn_29 : decode cX8_learn 29 = .ok (.sipush 269, 3) := by decide +kernel
theorem dX8_learn_32 : decode cX8_learn 32 = .ok (.aload_n 1, 1) := by decide +kernel
theorem dX8_learn_33 : decode cX8_learn 33 = .ok (.getfield 73, 3) := by decide +kernel
theorem dX8_learn_36 : decode cX8_learn 36 = .ok (.iconst 2, 1) := by decide +kernel
theorem dX8_learn_37 : decode cX8_learn 37 = .ok (.ishr, 1) := by decide +kernel
theorem dX8_learn_38 : decode cX8_learn 38 = .ok (.iconst 1, 1) := by decide +kernel
theorem dX8_learn_39 : decode cX8_learn 39 = .ok (.iand, 1) := by decide +kernel
theorem dX8_learn_40 : decode cX8_learn 40 = .ok (.invokevirtual 78, 3) := by decide +kernel
theorem dX8_learn_43 : decode cX8_learn 43 = .ok (.aload_n 0, 1) := by decide +kernel
theorem dX8_learn_44 : decode cX8_learn 44 = .ok (.sipush 270, 3) := by decide +kernel
theorem dX8_learn_47 : decode cX8_learn 47 = .ok (.aload_n 1, 1) := by decide +kernel
theorem dX8_learn_48 : decode cX8_learn 48 = .ok (.getfield 73, 3) := by decide +kernel
theorem dX8_learn_51 : decode cX8_learn 51 = .ok (.iconst 3, 1) := by decide +kernel
theorem dX8_learn_52 : decode cX8_learn 52 = .ok (.ishr, 1) := by decide +kernel
theorem dX8_learn_53 : decode cX8_learn 53 = .ok (.iconst 1, 1) := by decide +kernel
theorem dX8_learn_54 : decode cX8_learn 54 = .ok (.iand, 1) := by decide +kernel
theorem dX8_learn_55 : decode cX8_learn 55 = .ok (.invokevirtual 78, 3) := by decide +kernel
theorem dX8_learn_58 : decode cX8_learn 58 = .ok (.aload_n 0, 1) := by decide +kernel
theorem dX8_learn_59 : decode cX8_learn 59 = .ok (.sipush 271, 3) := by decide +kernel
theorem dX8_learn_62 : decode cX8_learn 62 = .ok (.aload_n 1, 1) := by decide +kernel
theorem dX8_learn_63 : decode cX8_learn 63 = .ok (.iload_n 2, 1) := by decide +kernel
theorem dX8_learn_64 : decode cX8_learn 64 = .ok (.invokevirtual 82, 3) := by decide +kernel
theorem dX8_learn_67 : decode cX8_learn 67 = .ok (.iload_n 3, 1) := by decide +kernel
theorem dX8_learn_68 : decode cX8_learn 68 = .ok (.if_icmp .ne 7, 3) := by decide +kernel
theorem dX8_learn_71 : decode cX8_learn 71 = .ok (.iconst 1, 1) := by decide +kernel
theorem dX8_learn_72 : decode cX8_learn 72 = .ok (.goto 4, 3) := by decide +kernel
theorem dX8_learn_75 : decode cX8_learn 75 = .ok (.iconst 0, 1) := by decide +kernel
theorem dX8_learn_76 : decode cX8_learn 76 = .ok (.invokevirtual 78, 3) := by decide +kernel
theorem dX8_learn_79 : decode cX8_learn 79 = .ok (.aload_n 0, 1) := by decide +kernel
theorem dX8_learn_80 : decode cX8_learn 80 = .ok (.sipush 272, 3) := by decide +kernel
theorem dX8_learn_83 : decode cX8_learn 83 = .ok (.aload_n 1, 1) := by decide +kernel
theorem dX8_learn_84 : decode cX8_learn 84 = .ok (.getfield 86, 3) := by decide +kernel
theorem dX8_learn_87 : decode cX8_learn 87 = .ok (.invokevirtual 78, 3) := by decide +kernel
theorem dX8_learn_90 : decode cX8_learn 90 = .ok (.aload_n 0, 1) := by decide +kernel
theorem dX8_learn_91 : decode cX8_learn 91 = .ok (.sipush 273, 3) := by decide +kernel
theorem dX8_learn_94 : decode cX8_learn 94 = .ok (.aload_n 1, 1) := by decide +kernel
theorem dX8_learn_95 : decode cX8_learn 95 = .ok (.getfield 89, 3) := by decide +kernel
theorem dX8_learn_98 : decode cX8_learn 98 = .ok (.invokevirtual 78, 3) := by decide +kernel
theorem dX8_learn_101 : decode cX8_learn 101 = .ok (.aload_n 0, 1) := by decide +kernel
theorem dX8_learn_102 : decode cX8_learn 102 = .ok (.sipush 274, 3) := by decide +kernel
theorem dX8_learn_105 : decode cX8_learn 105 = .ok (.iload_n 2, 1) := by decide +kernel
theorem dX8_learn_106 : decode cX8_learn 106 = .ok (.invokevirtual 78, 3) := by decide +kernel
theorem dX8_learn_109 : decode cX8_learn 109 = .ok (.aload_n 0, 1) := by decide +kernel
theorem dX8_learn_110 : decode cX8_learn 110 = .ok (.sipush 275, 3) := by decide +kernel
theorem dX8_learn_113 : decode cX8_learn 113 = .ok (.iload_n 3, 1) := by decide +kernel
theorem dX8_learn_114 : decode cX8_learn 114 = .ok (.sipush 365, 3) := by decide +kernel
theorem dX8_learn_117 : decode cX8_learn 117 = .ok (.irem, 1) := by decide +kernel
theorem dX8_learn_118 : decode cX8_learn 118 = .ok (.invokevirtual 78, 3) := by decide +kernel
theorem dX8_learn_121 : decode cX8_learn 121 = .ok (.aload_n 0, 1) := by decide +kernel
theorem dX8_learn_122 : decode cX8_learn 122 = .ok (.sipush 276, 3) := by decide +kernel
theorem dX8_learn_125 : decode cX8_learn 125 = .ok (.aload_n 1, 1) := by decide +kernel
theorem dX8_learn_126 : decode cX8_learn 126 = .ok (.getfield 92, 3) := by decide +kernel
theorem dX8_learn_129 : decode cX8_learn 129 = .ok (.invokevirtual 78, 3) := by decide +kernel
theorem dX8_learn_132 : decode cX8_learn 132 = .ok (.return_, 1) := by decide +kernel
theorem dX8_note_0 : decode cX8_note 0 = .ok (.iload_n 1, 1) := by decide +kernel
theorem dX8_note_1 : decode cX8_note 1 = .ok (.sipush 267, 3) := by decide +kernel
theorem dX8_note_4 : decode cX8_note 4 = .ok (.isub, 1) := by decide +kernel
theorem dX8_note_5 : decode cX8_note 5 = .ok (.istore_n 3, 1) := by decide +kernel
theorem dX8_note_6 : decode cX8_note 6 = .ok (.iload_n 3, 1) := by decide +kernel
theorem dX8_note_7 : decode cX8_note 7 = .ok (.ifCond .lt 19, 3) := by decide +kernel
theorem dX8_note_10 : decode cX8_note 10 = .ok (.iload_n 3, 1) := by decide +kernel
theorem dX8_note_11 : decode cX8_note 11 = .ok (.aload_n 0, 1) := by decide +kernel
theorem dX8_note_12 : decode cX8_note 12 = .ok (.getfield 18, 3) := by decide +kernel
theorem dX8_note_15 : decode cX8_note 15 = .ok (.arraylength, 1) := by decide +kernel
theorem dX8_note_16 : decode cX8_note 16 = .ok (.if_icmp .ge 10, 3) := by decide +kernel
theorem dX8_note_19 : decode cX8_note 19 = .ok (.aload_n 0, 1) := by decide +kernel
theorem dX8_note_20 : decode cX8_note 20 = .ok (.getfield 18, 3) := by decide +kernel
theorem dX8_note_23 : decode cX8_note 23 = .ok (.iload_n 3, 1) := by decide +kernel
theorem dX8_note_24 : decode cX8_note 24 = .ok (.iload_n 2, 1) := by decide +kernel
theorem dX8_note_25 : decode cX8_note 25 = .ok (.iastore, 1) := by decide +kernel
theorem dX8_note_26 : decode cX8_note 26 = .ok (.return_, 1) := by decide +kernel
theorem dX8_keep_0 : decode cX8_keep 0 = .ok (.aload_n 1, 1) := by decide +kernel
theorem dX8_keep_1 : decode cX8_keep 1 = .ok (.getfield 62, 3) := by decide +kernel
theorem dX8_keep_4 : decode cX8_keep 4 = .ok (.sipush 258, 3) := by decide +kernel
theorem dX8_keep_7 : decode cX8_keep 7 = .ok (.if_icmp .ne 45, 3) := by decide +kernel
theorem dX8_keep_10 : decode cX8_keep 10 = .ok (.aload_n 0, 1) := by decide +kernel
theorem dX8_keep_11 : decode cX8_keep 11 = .ok (.getfield 27, 3) := by decide +kernel
theorem dX8_keep_14 : decode cX8_keep 14 = .ok (.ifCond .lt 91, 3) := by decide +kernel
theorem dX8_keep_17 : decode cX8_keep 17 = .ok (.aload_n 0, 1) := by decide +kernel
theorem dX8_keep_18 : decode cX8_keep 18 = .ok (.getfield 27, 3) := by decide +kernel
theorem dX8_keep_21 : decode cX8_keep 21 = .ok (.aload_n 0, 1) := by decide +kernel
theorem dX8_keep_22 : decode cX8_keep 22 = .ok (.getfield 24, 3) := by decide +kernel
theorem dX8_keep_25 : decode cX8_keep 25 = .ok (.arraylength, 1) := by decide +kernel
theorem dX8_keep_26 : decode cX8_keep 26 = .ok (.if_icmp .ge 79, 3) := by decide +kernel
theorem dX8_keep_29 : decode cX8_keep 29 = .ok (.aload_n 0, 1) := by decide +kernel
theorem dX8_keep_30 : decode cX8_keep 30 = .ok (.getfield 24, 3) := by decide +kernel
theorem dX8_keep_33 : decode cX8_keep 33 = .ok (.aload_n 0, 1) := by decide +kernel
theorem dX8_keep_34 : decode cX8_keep 34 = .ok (.getfield 27, 3) := by decide +kernel
theorem dX8_keep_37 : decode cX8_keep 37 = .ok (.iload_n 2, 1) := by decide +kernel
theorem dX8_keep_38 : decode cX8_keep 38 = .ok (.iastore, 1) := by decide +kernel
theorem dX8_keep_39 : decode cX8_keep 39 = .ok (.aload_n 0, 1) := by decide +kernel
theorem dX8_keep_40 : decode cX8_keep 40 = .ok (.dup, 1) := by decide +kernel
theorem dX8_keep_41 : decode cX8_keep 41 = .ok (.getfield 27, 3) := by decide +kernel
theorem dX8_keep_44 : decode cX8_keep 44 = .ok (.iconst 1, 1) := by decide +kernel
theorem dX8_keep_45 : decode cX8_keep 45 = .ok (.iadd, 1) := by decide +kernel
theorem dX8_keep_46 : decode cX8_keep 46 = .ok (.putfield 27, 3) := by decide +kernel
theorem dX8_keep_49 : decode cX8_keep 49 = .ok (.goto 56, 3) := by decide +kernel
theorem dX8_keep_52 : decode cX8_keep 52 = .ok (.aload_n 1, 1) := by decide +kernel
theorem dX8_keep_53 : decode cX8_keep 53 = .ok (.getfield 95, 3) := by decide +kernel
theorem dX8_keep_56 : decode cX8_keep 56 = .ok (.sipush 263, 3) := by decide +kernel
theorem dX8_keep_59 : decode cX8_keep 59 = .ok (.if_icmp .ne 26, 3) := by decide +kernel
theorem dX8_keep_62 : decode cX8_keep 62 = .ok (.aload_n 0, 1) := by decide +kernel
theorem dX8_keep_63 : decode cX8_keep 63 = .ok (.aload_n 0, 1) := by decide +kernel
theorem dX8_keep_64 : decode cX8_keep 64 = .ok (.getfield 33, 3) := by decide +kernel
theorem dX8_keep_67 : decode cX8_keep 67 = .ok (.iconst (-1), 1) := by decide +kernel
theorem dX8_keep_68 : decode cX8_keep 68 = .ok (.if_icmp .ne 7, 3) := by decide +kernel
theorem dX8_keep_71 : decode cX8_keep 71 = .ok (.iload_n 2, 1) := by decide +kernel
theorem dX8_keep_72 : decode cX8_keep 72 = .ok (.goto 7, 3) := by decide +kernel
theorem dX8_keep_75 : decode cX8_keep 75 = .ok (.aload_n 0, 1) := by decide +kernel
theorem dX8_keep_76 : decode cX8_keep 76 = .ok (.getfield 33, 3) := by decide +kernel
theorem dX8_keep_79 : decode cX8_keep 79 = .ok (.putfield 33, 3) := by decide +kernel
theorem dX8_keep_82 : decode cX8_keep 82 = .ok (.goto 23, 3) := by decide +kernel
theorem dX8_keep_85 : decode cX8_keep 85 = .ok (.aload_n 0, 1) := by decide +kernel
theorem dX8_keep_86 : decode cX8_keep 86 = .ok (.aload_n 0, 1) := by decide +kernel
theorem dX8_keep_87 : decode cX8_keep 87 = .ok (.getfield 30, 3) := by decide +kernel
theorem dX8_keep_90 : decode cX8_keep 90 = .ok (.iconst (-1), 1) := by decide +kernel
theorem dX8_keep_91 : decode cX8_keep 91 = .ok (.if_icmp .ne 7, 3) := by decide +kernel
theorem dX8_keep_94 : decode cX8_keep 94 = .ok (.iload_n 2, 1) := by decide +kernel
theorem dX8_keep_95 : decode cX8_keep 95 = .ok (.goto 7, 3) := by decide +kernel
theorem dX8_keep_98 : decode cX8_keep 98 = .ok (.aload_n 0, 1) := by decide +kernel
theorem dX8_keep_99 : decode cX8_keep 99 = .ok (.getfield 30, 3) := by decide +kernel
theorem dX8_keep_102 : decode cX8_keep 102 = .ok (.putfield 30, 3) := by decide +kernel
theorem dX8_keep_105 : decode cX8_keep 105 = .ok (.return_, 1) := by decide +kernel
theorem dX8_charge_0 : decode cX8_charge 0 = .ok (.aload_n 3, 1) := by decide +kernel
theorem dX8_charge_1 : decode cX8_charge 1 = .ok (.iload 4, 2) := by decide +kernel
theorem dX8_charge_3 : decode cX8_charge 3 = .ok (.invokevirtual 98, 3) := by decide +kernel
theorem dX8_charge_6 : decode cX8_charge 6 = .ok (.iload 5, 2) := by decide +kernel
theorem dX8_charge_8 : decode cX8_charge 8 = .ok (.if_icmp .ne 10, 3) := by decide +kernel
theorem dX8_charge_11 : decode cX8_charge 11 = .ok (.aload_n 0, 1) := by decide +kernel
theorem dX8_charge_12 : decode cX8_charge 12 = .ok (.getfield 30, 3) := by decide +kernel
theorem dX8_charge_15 : decode cX8_charge 15 = .ok (.goto 4, 3) := by decide +kernel
theorem dX8_charge_18 : decode cX8_charge 18 = .ok (.iconst (-1), 1) := by decide +kernel
theorem dX8_charge_19 : decode cX8_charge 19 = .ok (.istore 6, 2) := by decide +kernel
theorem dX8_charge_21 : decode cX8_charge 21 = .ok (.aload_n 3, 1) := by decide +kernel
theorem dX8_charge_22 : decode cX8_charge 22 = .ok (.getfield 101, 3) := by decide +kernel
theorem dX8_charge_25 : decode cX8_charge 25 = .ok (.iload 5, 2) := by decide +kernel
theorem dX8_charge_27 : decode cX8_charge 27 = .ok (.if_icmp .ne 10, 3) := by decide +kernel
theorem dX8_charge_30 : decode cX8_charge 30 = .ok (.aload_n 0, 1) := by decide +kernel
theorem dX8_charge_31 : decode cX8_charge 31 = .ok (.getfield 33, 3) := by decide +kernel
theorem dX8_charge_34 : decode cX8_charge 34 = .ok (.goto 4, 3) := by decide +kernel
theorem dX8_charge_37 : decode cX8_charge 37 = .ok (.iconst (-1), 1) := by decide +kernel
theorem dX8_charge_38 : decode cX8_charge 38 = .ok (.istore 7, 2) := by decide +kernel
theorem dX8_charge_40 : decode cX8_charge 40 = .ok (.iload 6, 2) := by decide +kernel
theorem dX8_charge_42 : decode cX8_charge 42 = .ok (.iconst (-1), 1) := by decide +kernel
theorem dX8_charge_43 : decode cX8_charge 43 = .ok (.if_icmp .eq 23, 3) := by decide +kernel
theorem dX8_charge_46 : decode cX8_charge 46 = .ok (.iload 7, 2) := by decide +kernel
theorem dX8_charge_48 : decode cX8_charge 48 = .ok (.iconst (-1), 1) := by decide +kernel
theorem dX8_charge_49 : decode cX8_charge 49 = .ok (.if_icmp .eq 17, 3) := by decide +kernel
theorem dX8_charge_52 : decode cX8_charge 52 = .ok (.aload_n 0, 1) := by decide +kernel
theorem dX8_charge_53 : decode cX8_charge 53 = .ok (.iload 6, 2) := by decide +kernel
theorem dX8_charge_55 : decode cX8_charge 55 = .ok (.iload 7, 2) := by decide +kernel
theorem dX8_charge_57 : decode cX8_charge 57 = .ok (.invokestatic 104, 3) := by decide +kernel
theorem dX8_charge_60 : decode cX8_charge 60 = .ok (.putfield 15, 3) := by decide +kernel
theorem dX8_charge_63 : decode cX8_charge 63 = .ok (.goto 59, 3) := by decide +kernel
theorem dX8_charge_66 : decode cX8_charge 66 = .ok (.iload 6, 2) := by decide +kernel
theorem dX8_charge_68 : decode cX8_charge 68 = .ok (.iconst (-1), 1) := by decide +kernel
theorem dX8_charge_69 : decode cX8_charge 69 = .ok (.if_icmp .ne 9, 3) := by decide +kernel
theorem dX8_charge_72 : decode cX8_charge 72 = .ok (.iload 7, 2) := by decide +kernel
theorem dX8_charge_74 : decode cX8_charge 74 = .ok (.iconst (-1), 1) := by decide +kernel
theorem dX8_charge_75 : decode cX8_charge 75 = .ok (.if_icmp .eq 17, 3) := by decide +kernel
theorem dX8_charge_78 : decode cX8_charge 78 = .ok (.aload_n 0, 1) := by decide +kernel
theorem dX8_charge_79 : decode cX8_charge 79 = .ok (.iload 6, 2) := by decide +kernel
theorem dX8_charge_81 : decode cX8_charge 81 = .ok (.iload 7, 2) := by decide +kernel
theorem dX8_charge_83 : decode cX8_charge 83 = .ok (.invokestatic 110, 3) := by decide +kernel
theorem dX8_charge_86 : decode cX8_charge 86 = .ok (.putfield 15, 3) := by decide +kernel
theorem dX8_charge_89 : decode cX8_charge 89 = .ok (.goto 33, 3) := by decide +kernel
theorem dX8_charge_92 : decode cX8_charge 92 = .ok (.aload_n 0, 1) := by decide +kernel
theorem dX8_charge_93 : decode cX8_charge 93 = .ok (.iload_n 2, 1) := by decide +kernel
theorem dX8_charge_94 : decode cX8_charge 94 = .ok (.putfield 15, 3) := by decide +kernel
theorem dX8_charge_97 : decode cX8_charge 97 = .ok (.aload_n 0, 1) := by decide +kernel
theorem dX8_charge_98 : decode cX8_charge 98 = .ok (.aload_n 0, 1) := by decide +kernel
theorem dX8_charge_99 : decode cX8_charge 99 = .ok (.aload_n 1, 1) := by decide +kernel
theorem dX8_charge_100 : decode cX8_charge 100 = .ok (.aload_n 1, 1) := by decide +kernel
theorem dX8_charge_101 : decode cX8_charge 101 = .ok (.getfield 40, 3) := by decide +kernel
theorem dX8_charge_104 : decode cX8_charge 104 = .ok (.iload_n 2, 1) := by decide +kernel
theorem dX8_charge_105 : decode cX8_charge 105 = .ok (.invokevirtual 52, 3) := by decide +kernel
theorem dX8_charge_108 : decode cX8_charge 108 = .ok (.checkcast 56, 3) := by decide +kernel
theorem dX8_charge_111 : decode cX8_charge 111 = .ok (.aload_n 3, 1) := by decide +kernel
theorem dX8_charge_112 : decode cX8_charge 112 = .ok (.invokestatic 113, 3) := by decide +kernel
theorem dX8_charge_115 : decode cX8_charge 115 = .ok (.invokevirtual 117, 3) := by decide +kernel
theorem dX8_charge_118 : decode cX8_charge 118 = .ok (.l2i, 1) := by decide +kernel
theorem dX8_charge_119 : decode cX8_charge 119 = .ok (.putfield 9, 3) := by decide +kernel
theorem dX8_charge_122 : decode cX8_charge 122 = .ok (.return_, 1) := by decide +kernel
theorem dX8_ahead_0 : decode cX8_ahead 0 = .ok (.aload_n 0, 1) := by decide +kernel
theorem dX8_ahead_1 : decode cX8_ahead 1 = .ok (.getfield 121, 3) := by decide +kernel
theorem dX8_ahead_4 : decode cX8_ahead 4 = .ok (.i2l, 1) := by decide +kernel
theorem dX8_ahead_5 : decode cX8_ahead 5 = .ok (.lstore_n 2, 1) := by decide +kernel
theorem dX8_ahead_6 : decode cX8_ahead 6 = .ok (.aload_n 0, 1) := by decide +kernel
theorem dX8_ahead_7 : decode cX8_ahead 7 = .ok (.getfield 95, 3) := by decide +kernel
theorem dX8_ahead_10 : decode cX8_ahead 10 = .ok (.sipush 261, 3) := by decide +kernel
theorem dX8_ahead_13 : decode cX8_ahead 13 = .ok (.if_icmp .ne 14, 3) := by decide +kernel
theorem dX8_ahead_16 : decode cX8_ahead 16 = .ok (.lload_n 2, 1) := by decide +kernel
theorem dX8_ahead_17 : decode cX8_ahead 17 = .ok (.aload_n 1, 1) := by decide +kernel
theorem dX8_ahead_18 : decode cX8_ahead 18 = .ok (.getfield 89, 3) := by decide +kernel
theorem dX8_ahead_21 : decode cX8_ahead 21 = .ok (.i2l, 1) := by decide +kernel
theorem dX8_ahead_22 : decode cX8_ahead 22 = .ok (.lmul, 1) := by decide +kernel
theorem dX8_ahead_23 : decode cX8_ahead 23 = .ok (.lstore_n 2, 1) := by decide +kernel
theorem dX8_ahead_24 : decode cX8_ahead 24 = .ok (.goto 27, 3) := by decide +kernel
theorem dX8_ahead_27 : decode cX8_ahead 27 = .ok (.aload_n 0, 1) := by decide +kernel
theorem dX8_ahead_28 : decode cX8_ahead 28 = .ok (.getfield 95, 3) := by decide +kernel
theorem dX8_ahead_31 : decode cX8_ahead 31 = .ok (.sipush 262, 3) := by decide +kernel
theorem dX8_ahead_34 : decode cX8_ahead 34 = .ok (.if_icmp .ne 17, 3) := by decide +kernel
theorem dX8_ahead_37 : decode cX8_ahead 37 = .ok (.lload_n 2, 1) := by decide +kernel
theorem dX8_ahead_38 : decode cX8_ahead 38 = .ok (.aload_n 1, 1) := by decide +kernel
theorem dX8_ahead_39 : decode cX8_ahead 39 = .ok (.getfield 89, 3) := by decide +kernel
theorem dX8_ahead_42 : decode cX8_ahead 42 = .ok (.bipush 19, 2) := by decide +kernel
theorem dX8_ahead_44 : decode cX8_ahead 44 = .ok (.iadd, 1) := by decide +kernel
theorem dX8_ahead_45 : decode cX8_ahead 45 = .ok (.bipush 20, 2) := by decide +kernel
theorem dX8_ahead_47 : decode cX8_ahead 47 = .ok (.idiv, 1) := by decide +kernel
theorem dX8_ahead_48 : decode cX8_ahead 48 = .ok (.i2l, 1) := by decide +kernel
theorem dX8_ahead_49 : decode cX8_ahead 49 = .ok (.lmul, 1) := by decide +kernel
theorem dX8_ahead_50 : decode cX8_ahead 50 = .ok (.lstore_n 2, 1) := by decide +kernel
theorem dX8_ahead_51 : decode cX8_ahead 51 = .ok (.lload_n 2, 1) := by decide +kernel
theorem dX8_ahead_52 : decode cX8_ahead 52 = .ok (.ldc2_w 124, 3) := by decide +kernel
theorem dX8_ahead_55 : decode cX8_ahead 55 = .ok (.invokestatic 126, 3) := by decide +kernel
theorem dX8_ahead_58 : decode cX8_ahead 58 = .ok (.lreturn, 1) := by decide +kernel
theorem dX8_timesKept_0 : decode cX8_timesKept 0 = .ok (.lload_n 2, 1) := by decide +kernel
theorem dX8_timesKept_1 : decode cX8_timesKept 1 = .ok (.lstore 4, 2) := by decide +kernel
theorem dX8_timesKept_3 : decode cX8_timesKept 3 = .ok (.iconst 0, 1) := by decide +kernel
theorem dX8_timesKept_4 : decode cX8_timesKept 4 = .ok (.istore 6, 2) := by decide +kernel
theorem dX8_timesKept_6 : decode cX8_timesKept 6 = .ok (.iload 6, 2) := by decide +kernel
theorem dX8_timesKept_8 : decode cX8_timesKept 8 = .ok (.aload_n 0, 1) := by decide +kernel
theorem dX8_timesKept_9 : decode cX8_timesKept 9 = .ok (.getfield 27, 3) := by decide +kernel
theorem dX8_timesKept_12 : decode cX8_timesKept 12 = .ok (.if_icmp .ge 91, 3) := by decide +kernel
theorem dX8_timesKept_15 : decode cX8_timesKept 15 = .ok (.iload 6, 2) := by decide +kernel
theorem dX8_timesKept_17 : decode cX8_timesKept 17 = .ok (.aload_n 0, 1) := by decide +kernel
theorem dX8_timesKept_18 : decode cX8_timesKept 18 = .ok (.getfield 24, 3) := by decide +kernel
theorem dX8_timesKept_21 : decode cX8_timesKept 21 = .ok (.arraylength, 1) := by decide +kernel
theorem dX8_timesKept_22 : decode cX8_timesKept 22 = .ok (.if_icmp .ge 81, 3) := by decide +kernel
theorem dX8_timesKept_25 : decode cX8_timesKept 25 = .ok (.aload_n 0, 1) := by decide +kernel
theorem dX8_timesKept_26 : decode cX8_timesKept 26 = .ok (.getfield 24, 3) := by decide +kernel
theorem dX8_timesKept_29 : decode cX8_timesKept 29 = .ok (.iload 6, 2) := by decide +kernel
theorem dX8_timesKept_31 : decode cX8_timesKept 31 = .ok (.iaload, 1) := by decide +kernel
theorem dX8_timesKept_32 : decode cX8_timesKept 32 = .ok (.istore 7, 2) := by decide +kernel
theorem dX8_timesKept_34 : decode cX8_timesKept 34 = .ok (.iload 7, 2) := by decide +kernel
theorem dX8_timesKept_36 : decode cX8_timesKept 36 = .ok (.ifCond .lt 61, 3) := by decide +kernel
theorem dX8_timesKept_39 : decode cX8_timesKept 39 = .ok (.iload 7, 2) := by decide +kernel
theorem dX8_timesKept_41 : decode cX8_timesKept 41 = .ok (.aload_n 1, 1) := by decide +kernel
theorem dX8_timesKept_42 : decode cX8_timesKept 42 = .ok (.getfield 40, 3) := by decide +kernel
theorem dX8_timesKept_45 : decode cX8_timesKept 45 = .ok (.invokevirtual 46, 3) := by decide +kernel
theorem dX8_timesKept_48 : decode cX8_timesKept 48 = .ok (.if_icmp .ge 49, 3) := by decide +kernel
theorem dX8_timesKept_51 : decode cX8_timesKept 51 = .ok (.aload_n 1, 1) := by decide +kernel
theorem dX8_timesKept_52 : decode cX8_timesKept 52 = .ok (.getfield 40, 3) := by decide +kernel
theorem dX8_timesKept_55 : decode cX8_timesKept 55 = .ok (.iload 7, 2) := by decide +kernel
theorem dX8_timesKept_57 : decode cX8_timesKept 57 = .ok (.invokevirtual 52, 3) := by decide +kernel
theorem dX8_timesKept_60 : decode cX8_timesKept 60 = .ok (.checkcast 56, 3) := by decide +kernel
theorem dX8_timesKept_63 : decode cX8_timesKept 63 = .ok (.astore 8, 2) := by decide +kernel
theorem dX8_timesKept_65 : decode cX8_timesKept 65 = .ok (.aload 8, 2) := by decide +kernel
theorem dX8_timesKept_67 : decode cX8_timesKept 67 = .ok (.getfield 129, 3) := by decide +kernel
theorem dX8_timesKept_70 : decode cX8_timesKept 70 = .ok (.ifCond .le 27, 3) := by decide +kernel
theorem dX8_timesKept_73 : decode cX8_timesKept 73 = .ok (.lload 4, 2) := by decide +kernel
theorem dX8_timesKept_75 : decode cX8_timesKept 75 = .ok (.aload 8, 2) := by decide +kernel
theorem dX8_timesKept_77 : decode cX8_timesKept 77 = .ok (.getfield 121, 3) := by decide +kernel
theorem dX8_timesKept_80 : decode cX8_timesKept 80 = .ok (.i2l, 1) := by decide +kernel
theorem dX8_timesKept_81 : decode cX8_timesKept 81 = .ok (.lmul, 1) := by decide +kernel
theorem dX8_timesKept_82 : decode cX8_timesKept 82 = .ok (.aload 8, 2) := by decide +kernel
theorem dX8_timesKept_84 : decode cX8_timesKept 84 = .ok (.getfield 129, 3) := by decide +kernel
theorem dX8_timesKept_87 : decode cX8_timesKept 87 = .ok (.i2l, 1) := by decide +kernel
theorem dX8_timesKept_88 : decode cX8_timesKept 88 = .ok (.ldiv, 1) := by decide +kernel
theorem dX8_timesKept_89 : decode cX8_timesKept 89 = .ok (.ldc2_w 124, 3) := by decide +kernel
theorem dX8_timesKept_92 : decode cX8_timesKept 92 = .ok (.invokestatic 126, 3) := by decide +kernel
theorem dX8_timesKept_95 : decode cX8_timesKept 95 = .ok (.lstore 4, 2) := by decide +kernel
theorem dX8_timesKept_97 : decode cX8_timesKept 97 = .ok (.iinc 6 1, 3) := by decide +kernel
theorem dX8_timesKept_100 : decode cX8_timesKept 100 = .ok (.goto (-94), 3) := by decide +kernel
theorem dX8_timesKept_103 : decode cX8_timesKept 103 = .ok (.lload 4, 2) := by decide +kernel
theorem dX8_timesKept_105 : decode cX8_timesKept 105 = .ok (.lreturn, 1) := by decide +kernel
theorem dX9_init_0 : decode cX9_init 0 = .ok (.aload_n 0, 1) := by decide +kernel
theorem dX9_init_1 : decode cX9_init 1 = .ok (.invokespecial 3, 3) := by decide +kernel
theorem dX9_init_4 : decode cX9_init 4 = .ok (.aload_n 0, 1) := by decide +kernel
theorem dX9_init_5 : decode cX9_init 5 = .ok (.lconst 0, 1) := by decide +kernel
theorem dX9_init_6 : decode cX9_init 6 = .ok (.putfield 9, 3) := by decide +kernel
theorem dX9_init_9 : decode cX9_init 9 = .ok (.aload_n 0, 1) := by decide +kernel
theorem dX9_init_10 : decode cX9_init 10 = .ok (.iload_n 1, 1) := by decide +kernel
theorem dX9_init_11 : decode cX9_init 11 = .ok (.putfield 15, 3) := by decide +kernel
theorem dX9_init_14 : decode cX9_init 14 = .ok (.aload_n 0, 1) := by decide +kernel
theorem dX9_init_15 : decode cX9_init 15 = .ok (.iload_n 2, 1) := by decide +kernel
theorem dX9_init_16 : decode cX9_init 16 = .ok (.putfield 19, 3) := by decide +kernel
theorem dX9_init_19 : decode cX9_init 19 = .ok (.return_, 1) := by decide +kernel
theorem dX9_loadTakes_0 : decode cX9_loadTakes 0 = .ok (.aload_n 0, 1) := by decide +kernel
theorem dX9_loadTakes_1 : decode cX9_loadTakes 1 = .ok (.getfield 9, 3) := by decide +kernel
theorem dX9_loadTakes_4 : decode cX9_loadTakes 4 = .ok (.ldc2_w 22, 3) := by decide +kernel
theorem dX9_loadTakes_7 : decode cX9_loadTakes 7 = .ok (.invokestatic 24, 3) := by decide +kernel
theorem dX9_loadTakes_10 : decode cX9_loadTakes 10 = .ok (.lreturn, 1) := by decide +kernel
theorem dX9_isWorthMoreThan_0 : decode cX9_isWorthMoreThan 0 = .ok (.aload_n 0, 1) := by decide +kernel
theorem dX9_isWorthMoreThan_1 : decode cX9_isWorthMoreThan 1 = .ok (.invokevirtual 30, 3) := by decide +kernel
theorem dX9_isWorthMoreThan_4 : decode cX9_isWorthMoreThan 4 = .ok (.aload_n 1, 1) := by decide +kernel
theorem dX9_isWorthMoreThan_5 : decode cX9_isWorthMoreThan 5 = .ok (.getfield 19, 3) := by decide +kernel
theorem dX9_isWorthMoreThan_8 : decode cX9_isWorthMoreThan 8 = .ok (.i2l, 1) := by decide +kernel
theorem dX9_isWorthMoreThan_9 : decode cX9_isWorthMoreThan 9 = .ok (.lmul, 1) := by decide +kernel
theorem dX9_isWorthMoreThan_10 : decode cX9_isWorthMoreThan 10 = .ok (.aload_n 1, 1) := by decide +kernel
theorem dX9_isWorthMoreThan_11 : decode cX9_isWorthMoreThan 11 = .ok (.invokevirtual 30, 3) := by decide +kernel
theorem dX9_isWorthMoreThan_14 : decode cX9_isWorthMoreThan 14 = .ok (.aload_n 0, 1) := by decide +kernel
theorem dX9_isWorthMoreThan_15 : decode cX9_isWorthMoreThan 15 = .ok (.getfield 19, 3) := by decide +kernel
theorem dX9_isWorthMoreThan_18 : decode cX9_isWorthMoreThan 18 = .ok (.i2l, 1) := by decide +kernel
theorem dX9_isWorthMoreThan_19 : decode cX9_isWorthMoreThan 19 = .ok (.lmul, 1) := by decide +kernel
theorem dX9_isWorthMoreThan_20 : decode cX9_isWorthMoreThan 20 = .ok (.lcmp, 1) := by decide +kernel
theorem dX9_isWorthMoreThan_21 : decode cX9_isWorthMoreThan 21 = .ok (.ifCond .le 7, 3) := by decide +kernel
theorem dX9_isWorthMoreThan_24 : decode cX9_isWorthMoreThan 24 = .ok (.iconst 1, 1) := by decide +kernel
theorem dX9_isWorthMoreThan_25 : decode cX9_isWorthMoreThan 25 = .ok (.goto 4, 3) := by decide +kernel
theorem dX9_isWorthMoreThan_28 : decode cX9_isWorthMoreThan 28 = .ok (.iconst 0, 1) := by decide +kernel
theorem dX9_isWorthMoreThan_29 : decode cX9_isWorthMoreThan 29 = .ok (.ireturn, 1) := by decide +kernel
theorem dX10_init_0 : decode cX10_init 0 = .ok (.aload_n 0, 1) := by decide +kernel
theorem dX10_init_1 : decode cX10_init 1 = .ok (.invokespecial 3, 3) := by decide +kernel
theorem dX10_init_4 : decode cX10_init 4 = .ok (.aload_n 0, 1) := by decide +kernel
theorem dX10_init_5 : decode cX10_init 5 = .ok (.iconst (-1), 1) := by decide +kernel
theorem dX10_init_6 : decode cX10_init 6 = .ok (.putfield 9, 3) := by decide +kernel
theorem dX10_init_9 : decode cX10_init 9 = .ok (.aload_n 0, 1) := by decide +kernel
theorem dX10_init_10 : decode cX10_init 10 = .ok (.bipush 8, 2) := by decide +kernel
theorem dX10_init_12 : decode cX10_init 12 = .ok (.newarray .int, 2) := by decide +kernel
theorem dX10_init_14 : decode cX10_init 14 = .ok (.putfield 15, 3) := by decide +kernel
theorem dX10_init_17 : decode cX10_init 17 = .ok (.aload_n 0, 1) := by decide +kernel
theorem dX10_init_18 : decode cX10_init 18 = .ok (.bipush 8, 2) := by decide +kernel
theorem dX10_init_20 : decode cX10_init 20 = .ok (.newarray .int, 2) := by decide +kernel
theorem dX10_init_22 : decode cX10_init 22 = .ok (.putfield 19, 3) := by decide +kernel
theorem dX10_init_25 : decode cX10_init 25 = .ok (.aload_n 0, 1) := by decide +kernel
theorem dX10_init_26 : decode cX10_init 26 = .ok (.iload_n 1, 1) := by decide +kernel
theorem dX10_init_27 : decode cX10_init 27 = .ok (.putfield 22, 3) := by decide +kernel
theorem dX10_init_30 : decode cX10_init 30 = .ok (.aload_n 0, 1) := by decide +kernel
theorem dX10_init_31 : decode cX10_init 31 = .ok (.iload_n 2, 1) := by decide +kernel
theorem dX10_init_32 : decode cX10_init 32 = .ok (.putfield 25, 3) := by decide +kernel
theorem dX10_init_35 : decode cX10_init 35 = .ok (.aload_n 0, 1) := by decide +kernel
theorem dX10_init_36 : decode cX10_init 36 = .ok (.iload_n 3, 1) := by decide +kernel
theorem dX10_init_37 : decode cX10_init 37 = .ok (.putfield 28, 3) := by decide +kernel
theorem dX10_init_40 : decode cX10_init 40 = .ok (.aload_n 0, 1) := by decide +kernel
theorem dX10_init_41 : decode cX10_init 41 = .ok (.iload 4, 2) := by decide +kernel
theorem dX10_init_43 : decode cX10_init 43 = .ok (.putfield 31, 3) := by decide +kernel
theorem dX10_init_46 : decode cX10_init 46 = .ok (.aload_n 0, 1) := by decide +kernel
theorem dX10_init_47 : decode cX10_init 47 = .ok (.getfield 15, 3) := by decide +kernel
theorem dX10_init_50 : decode cX10_init 50 = .ok (.iconst (-1), 1) := by decide +kernel
theorem dX10_init_51 : decode cX10_init 51 = .ok (.invokestatic 34, 3) := by decide +kernel
theorem dX10_init_54 : decode cX10_init 54 = .ok (.aload_n 0, 1) := by decide +kernel
theorem dX10_init_55 : decode cX10_init 55 = .ok (.getfield 19, 3) := by decide +kernel
theorem dX10_init_58 : decode cX10_init 58 = .ok (.iconst (-1), 1) := by decide +kernel
theorem dX10_init_59 : decode cX10_init 59 = .ok (.invokestatic 34, 3) := by decide +kernel
theorem dX10_init_62 : decode cX10_init 62 = .ok (.return_, 1) := by decide +kernel
theorem dX10_passedOn_0 : decode cX10_passedOn 0 = .ok (.iload_n 1, 1) := by decide +kernel
theorem dX10_passedOn_1 : decode cX10_passedOn 1 = .ok (.ifCond .lt 21, 3) := by decide +kernel
theorem dX10_passedOn_4 : decode cX10_passedOn 4 = .ok (.iload_n 1, 1) := by decide +kernel
theorem dX10_passedOn_5 : decode cX10_passedOn 5 = .ok (.aload_n 0, 1) := by decide +kernel
theorem dX10_passedOn_6 : decode cX10_passedOn 6 = .ok (.getfield 15, 3) := by decide +kernel
theorem dX10_passedOn_9 : decode cX10_passedOn 9 = .ok (.arraylength, 1) := by decide +kernel
theorem dX10_passedOn_10 : decode cX10_passedOn 10 = .ok (.if_icmp .ge 12, 3) := by decide +kernel
theorem dX10_passedOn_13 : decode cX10_passedOn 13 = .ok (.aload_n 0, 1) := by decide +kernel
theorem dX10_passedOn_14 : decode cX10_passedOn 14 = .ok (.getfield 15, 3) := by decide +kernel
theorem dX10_passedOn_17 : decode cX10_passedOn 17 = .ok (.iload_n 1, 1) := by decide +kernel
theorem dX10_passedOn_18 : decode cX10_passedOn 18 = .ok (.iaload, 1) := by decide +kernel
theorem dX10_passedOn_19 : decode cX10_passedOn 19 = .ok (.goto 4, 3) := by decide +kernel
theorem dX10_passedOn_22 : decode cX10_passedOn 22 = .ok (.iconst (-1), 1) := by decide +kernel
theorem dX10_passedOn_23 : decode cX10_passedOn 23 = .ok (.ireturn, 1) := by decide +kernel
theorem dX10_paidOn_0 : decode cX10_paidOn 0 = .ok (.iload_n 1, 1) := by decide +kernel
theorem dX10_paidOn_1 : decode cX10_paidOn 1 = .ok (.ifCond .lt 21, 3) := by decide +kernel
theorem dX10_paidOn_4 : decode cX10_paidOn 4 = .ok (.iload_n 1, 1) := by decide +kernel
theorem dX10_paidOn_5 : decode cX10_paidOn 5 = .ok (.aload_n 0, 1) := by decide +kernel
theorem dX10_paidOn_6 : decode cX10_paidOn 6 = .ok (.getfield 19, 3) := by decide +kernel
theorem dX10_paidOn_9 : decode cX10_paidOn 9 = .ok (.arraylength, 1) := by decide +kernel
theorem dX10_paidOn_10 : decode cX10_paidOn 10 = .ok (.if_icmp .ge 12, 3) := by decide +kernel
theorem dX10_paidOn_13 : decode cX10_paidOn 13 = .ok (.aload_n 0, 1) := by decide +kernel
theorem dX10_paidOn_14 : decode cX10_paidOn 14 = .ok (.getfield 19, 3) := by decide +kernel
theorem dX10_paidOn_17 : decode cX10_paidOn 17 = .ok (.iload_n 1, 1) := by decide +kernel
theorem dX10_paidOn_18 : decode cX10_paidOn 18 = .ok (.iaload, 1) := by decide +kernel
theorem dX10_paidOn_19 : decode cX10_paidOn 19 = .ok (.goto 4, 3) := by decide +kernel
theorem dX10_paidOn_22 : decode cX10_paidOn 22 = .ok (.iconst (-1), 1) := by decide +kernel
theorem dX10_paidOn_23 : decode cX10_paidOn 23 = .ok (.ireturn, 1) := by decide +kernel
theorem dX10_noteAt_0 : decode cX10_noteAt 0 = .ok (.iload_n 1, 1) := by decide +kernel
theorem dX10_noteAt_1 : decode cX10_noteAt 1 = .ok (.ifCond .lt 21, 3) := by decide +kernel
theorem dX10_noteAt_4 : decode cX10_noteAt 4 = .ok (.iload_n 1, 1) := by decide +kernel
theorem dX10_noteAt_5 : decode cX10_noteAt 5 = .ok (.aload_n 0, 1) := by decide +kernel
theorem dX10_noteAt_6 : decode cX10_noteAt 6 = .ok (.getfield 15, 3) := by decide +kernel
theorem dX10_noteAt_9 : decode cX10_noteAt 9 = .ok (.arraylength, 1) := by decide +kernel
theorem dX10_noteAt_10 : decode cX10_noteAt 10 = .ok (.if_icmp .ge 12, 3) := by decide +kernel
theorem dX10_noteAt_13 : decode cX10_noteAt 13 = .ok (.iload_n 1, 1) := by decide +kernel
theorem dX10_noteAt_14 : decode cX10_noteAt 14 = .ok (.aload_n 0, 1) := by decide +kernel
theorem dX10_noteAt_15 : decode cX10_noteAt 15 = .ok (.getfield 19, 3) := by decide +kernel
theorem dX10_noteAt_18 : decode cX10_noteAt 18 = .ok (.arraylength, 1) := by decide +kernel
theorem dX10_noteAt_19 : decode cX10_noteAt 19 = .ok (.if_icmp .lt 4, 3) := by decide +kernel
theorem dX10_noteAt_22 : decode cX10_noteAt 22 = .ok (.return_, 1) := by decide +kernel
theorem dX10_noteAt_23 : decode cX10_noteAt 23 = .ok (.aload_n 0, 1) := by decide +kernel
theorem dX10_noteAt_24 : decode cX10_noteAt 24 = .ok (.getfield 15, 3) := by decide +kernel
theorem dX10_noteAt_27 : decode cX10_noteAt 27 = .ok (.iload_n 1, 1) := by decide +kernel
theorem dX10_noteAt_28 : decode cX10_noteAt 28 = .ok (.iload_n 2, 1) := by decide +kernel
theorem dX10_noteAt_29 : decode cX10_noteAt 29 = .ok (.iastore, 1) := by decide +kernel
theorem dX10_noteAt_30 : decode cX10_noteAt 30 = .ok (.iload_n 3, 1) := by decide +kernel
theorem dX10_noteAt_31 : decode cX10_noteAt 31 = .ok (.ifCond .le 15, 3) := by decide +kernel
theorem dX10_noteAt_34 : decode cX10_noteAt 34 = .ok (.aload_n 0, 1) := by decide +kernel
theorem dX10_noteAt_35 : decode cX10_noteAt 35 = .ok (.getfield 19, 3) := by decide +kernel
theorem dX10_noteAt_38 : decode cX10_noteAt 38 = .ok (.iload_n 1, 1) := by decide +kernel
theorem dX10_noteAt_39 : decode cX10_noteAt 39 = .ok (.iload_n 2, 1) := by decide +kernel
theorem dX10_noteAt_40 : decode cX10_noteAt 40 = .ok (.iastore, 1) := by decide +kernel
theorem dX10_noteAt_41 : decode cX10_noteAt 41 = .ok (.aload_n 0, 1) := by decide +kernel
theorem dX10_noteAt_42 : decode cX10_noteAt 42 = .ok (.iload_n 2, 1) := by decide +kernel
theorem dX10_noteAt_43 : decode cX10_noteAt 43 = .ok (.putfield 9, 3) := by decide +kernel
theorem dX10_noteAt_46 : decode cX10_noteAt 46 = .ok (.return_, 1) := by decide +kernel
theorem dX10_harm_0 : decode cX10_harm 0 = .ok (.aload_n 0, 1) := by decide +kernel
theorem dX10_harm_1 : decode cX10_harm 1 = .ok (.getfield 25, 3) := by decide +kernel
theorem dX10_harm_4 : decode cX10_harm 4 = .ok (.bipush 6, 2) := by decide +kernel
theorem dX10_harm_6 : decode cX10_harm 6 = .ok (.if_icmp .ge 7, 3) := by decide +kernel
theorem dX10_harm_9 : decode cX10_harm 9 = .ok (.iconst 2, 1) := by decide +kernel
theorem dX10_harm_10 : decode cX10_harm 10 = .ok (.goto 4, 3) := by decide +kernel
theorem dX10_harm_13 : decode cX10_harm 13 = .ok (.iconst 1, 1) := by decide +kernel
theorem dX10_harm_14 : decode cX10_harm 14 = .ok (.istore_n 1, 1) := by decide +kernel
theorem dX10_harm_15 : decode cX10_harm 15 = .ok (.aload_n 0, 1) := by decide +kernel
theorem dX10_harm_16 : decode cX10_harm 16 = .ok (.getfield 22, 3) := by decide +kernel
theorem dX10_harm_19 : decode cX10_harm 19 = .ok (.tableswitch 65 0 5 #[37, 42, 46, 51, 53, 58], 37) := by decide +kernel
theorem dX10_harm_56 : decode cX10_harm 56 = .ok (.bipush 6, 2) := by decide +kernel
theorem dX10_harm_58 : decode cX10_harm 58 = .ok (.iload_n 1, 1) := by decide +kernel
theorem dX10_harm_59 : decode cX10_harm 59 = .ok (.imul, 1) := by decide +kernel
theorem dX10_harm_60 : decode cX10_harm 60 = .ok (.ireturn, 1) := by decide +kernel
theorem dX10_harm_61 : decode cX10_harm 61 = .ok (.iconst 4, 1) := by decide +kernel
theorem dX10_harm_62 : decode cX10_harm 62 = .ok (.iload_n 1, 1) := by decide +kernel
theorem dX10_harm_63 : decode cX10_harm 63 = .ok (.imul, 1) := by decide +kernel
theorem dX10_harm_64 : decode cX10_harm 64 = .ok (.ireturn, 1) := by decide +kernel
theorem dX10_harm_65 : decode cX10_harm 65 = .ok (.bipush 10, 2) := by decide +kernel
theorem dX10_harm_67 : decode cX10_harm 67 = .ok (.iload_n 1, 1) := by decide +kernel
theorem dX10_harm_68 : decode cX10_harm 68 = .ok (.imul, 1) := by decide +kernel
theorem dX10_harm_69 : decode cX10_harm 69 = .ok (.ireturn, 1) := by decide +kernel
theorem dX10_harm_70 : decode cX10_harm 70 = .ok (.iconst 1, 1) := by decide +kernel
theorem dX10_harm_71 : decode cX10_harm 71 = .ok (.ireturn, 1) := by decide +kernel
theorem dX10_harm_72 : decode cX10_harm 72 = .ok (.aload_n 0, 1) := by decide +kernel
theorem dX10_harm_73 : decode cX10_harm 73 = .ok (.getfield 28, 3) := by decide +kernel
theorem dX10_harm_76 : decode cX10_harm 76 = .ok (.ireturn, 1) := by decide +kernel
theorem dX10_harm_77 : decode cX10_harm 77 = .ok (.aload_n 0, 1) := by decide +kernel
theorem dX10_harm_78 : decode cX10_harm 78 = .ok (.getfield 28, 3) := by decide +kernel
theorem dX10_harm_81 : decode cX10_harm 81 = .ok (.iconst 4, 1) := by decide +kernel
theorem dX10_harm_82 : decode cX10_harm 82 = .ok (.idiv, 1) := by decide +kernel
theorem dX10_harm_83 : decode cX10_harm 83 = .ok (.ireturn, 1) := by decide +kernel
theorem dX10_harm_84 : decode cX10_harm 84 = .ok (.iconst 0, 1) := by decide +kernel
theorem dX10_harm_85 : decode cX10_harm 85 = .ok (.ireturn, 1) := by decide +kernel
theorem dX11_init_0 : decode cX11_init 0 = .ok (.aload_n 0, 1) := by decide +kernel
theorem dX11_init_1 : decode cX11_init 1 = .ok (.invokespecial 1, 3) := by decide +kernel
theorem dX11_init_4 : decode cX11_init 4 = .ok (.aload_n 0, 1) := by decide +kernel
theorem dX11_init_5 : decode cX11_init 5 = .ok (.new 7, 3) := by decide +kernel
theorem dX11_init_8 : decode cX11_init 8 = .ok (.dup, 1) := by decide +kernel
theorem dX11_init_9 : decode cX11_init 9 = .ok (.invokespecial 9, 3) := by decide +kernel
theorem dX11_init_12 : decode cX11_init 12 = .ok (.putfield 10, 3) := by decide +kernel
theorem dX11_init_15 : decode cX11_init 15 = .ok (.aload_n 0, 1) := by decide +kernel
theorem dX11_init_16 : decode cX11_init 16 = .ok (.new 16, 3) := by decide +kernel
theorem dX11_init_19 : decode cX11_init 19 = .ok (.dup, 1) := by decide +kernel
theorem dX11_init_20 : decode cX11_init 20 = .ok (.invokespecial 18, 3) := by decide +kernel
theorem dX11_init_23 : decode cX11_init 23 = .ok (.putfield 19, 3) := by decide +kernel
theorem dX11_init_26 : decode cX11_init 26 = .ok (.aload_n 0, 1) := by decide +kernel
theorem dX11_init_27 : decode cX11_init 27 = .ok (.new 23, 3) := by decide +kernel
theorem dX11_init_30 : decode cX11_init 30 = .ok (.dup, 1) := by decide +kernel
theorem dX11_init_31 : decode cX11_init 31 = .ok (.invokespecial 25, 3) := by decide +kernel
theorem dX11_init_34 : decode cX11_init 34 = .ok (.putfield 26, 3) := by decide +kernel
theorem dX11_init_37 : decode cX11_init 37 = .ok (.aload_n 0, 1) := by decide +kernel
theorem dX11_init_38 : decode cX11_init 38 = .ok (.new 30, 3) := by decide +kernel
theorem dX11_init_41 : decode cX11_init 41 = .ok (.dup, 1) := by decide +kernel
theorem dX11_init_42 : decode cX11_init 42 = .ok (.invokespecial 32, 3) := by decide +kernel
theorem dX11_init_45 : decode cX11_init 45 = .ok (.putfield 33, 3) := by decide +kernel
theorem dX11_init_48 : decode cX11_init 48 = .ok (.aload_n 0, 1) := by decide +kernel
theorem dX11_init_49 : decode cX11_init 49 = .ok (.new 30, 3) := by decide +kernel
theorem dX11_init_52 : decode cX11_init 52 = .ok (.dup, 1) := by decide +kernel
theorem dX11_init_53 : decode cX11_init 53 = .ok (.invokespecial 32, 3) := by decide +kernel
theorem dX11_init_56 : decode cX11_init 56 = .ok (.putfield 37, 3) := by decide +kernel
theorem dX11_init_59 : decode cX11_init 59 = .ok (.aload_n 0, 1) := by decide +kernel
theorem dX11_init_60 : decode cX11_init 60 = .ok (.new 30, 3) := by decide +kernel
theorem dX11_init_63 : decode cX11_init 63 = .ok (.dup, 1) := by decide +kernel
theorem dX11_init_64 : decode cX11_init 64 = .ok (.invokespecial 32, 3) := by decide +kernel
theorem dX11_init_67 : decode cX11_init 67 = .ok (.putfield 40, 3) := by decide +kernel
theorem dX11_init_70 : decode cX11_init 70 = .ok (.aload_n 0, 1) := by decide +kernel
theorem dX11_init_71 : decode cX11_init 71 = .ok (.new 30, 3) := by decide +kernel
theorem dX11_init_74 : decode cX11_init 74 = .ok (.dup, 1) := by decide +kernel
theorem dX11_init_75 : decode cX11_init 75 = .ok (.invokespecial 32, 3) := by decide +kernel
theorem dX11_init_78 : decode cX11_init 78 = .ok (.putfield 43, 3) := by decide +kernel
theorem dX11_init_81 : decode cX11_init 81 = .ok (.aload_n 0, 1) := by decide +kernel
theorem dX11_init_82 : decode cX11_init 82 = .ok (.new 30, 3) := by decide +kernel
theorem dX11_init_85 : decode cX11_init 85 = .ok (.dup, 1) := by decide +kernel
theorem dX11_init_86 : decode cX11_init 86 = .ok (.invokespecial 32, 3) := by decide +kernel
theorem dX11_init_89 : decode cX11_init 89 = .ok (.putfield 46, 3) := by decide +kernel
theorem dX11_init_92 : decode cX11_init 92 = .ok (.aload_n 0, 1) := by decide +kernel
theorem dX11_init_93 : decode cX11_init 93 = .ok (.new 30, 3) := by decide +kernel
theorem dX11_init_96 : decode cX11_init 96 = .ok (.dup, 1) := by decide +kernel
theorem dX11_init_97 : decode cX11_init 97 = .ok (.invokespecial 32, 3) := by decide +kernel
theorem dX11_init_100 : decode cX11_init 100 = .ok (.putfield 49, 3) := by decide +kernel
theorem dX11_init_103 : decode cX11_init 103 = .ok (.aload_n 0, 1) := by decide +kernel
theorem dX11_init_104 : decode cX11_init 104 = .ok (.iconst 0, 1) := by decide +kernel
theorem dX11_init_105 : decode cX11_init 105 = .ok (.putfield 52, 3) := by decide +kernel
theorem dX11_init_108 : decode cX11_init 108 = .ok (.aload_n 0, 1) := by decide +kernel
theorem dX11_init_109 : decode cX11_init 109 = .ok (.iconst 0, 1) := by decide +kernel
theorem dX11_init_110 : decode cX11_init 110 = .ok (.putfield 56, 3) := by decide +kernel
theorem dX11_init_113 : decode cX11_init 113 = .ok (.aload_n 0, 1) := by decide +kernel
theorem dX11_init_114 : decode cX11_init 114 = .ok (.iconst (-1), 1) := by decide +kernel
theorem dX11_init_115 : decode cX11_init 115 = .ok (.putfield 59, 3) := by decide +kernel
theorem dX11_init_118 : decode cX11_init 118 = .ok (.return_, 1) := by decide +kernel
theorem dX11_feed_0 : decode cX11_feed 0 = .ok (.aload_n 0, 1) := by decide +kernel
theorem dX11_feed_1 : decode cX11_feed 1 = .ok (.getfield 10, 3) := by decide +kernel
theorem dX11_feed_4 : decode cX11_feed 4 = .ok (.getfield 62, 3) := by decide +kernel
theorem dX11_feed_7 : decode cX11_feed 7 = .ok (.bipush 20, 2) := by decide +kernel
theorem dX11_feed_9 : decode cX11_feed 9 = .ok (.iadd, 1) := by decide +kernel
theorem dX11_feed_10 : decode cX11_feed 10 = .ok (.sipush 2000, 3) := by decide +kernel
theorem dX11_feed_13 : decode cX11_feed 13 = .ok (.if_icmp .le 5, 3) := by decide +kernel
theorem dX11_feed_16 : decode cX11_feed 16 = .ok (.iconst (-1), 1) := by decide +kernel
theorem dX11_feed_17 : decode cX11_feed 17 = .ok (.ireturn, 1) := by decide +kernel
theorem dX11_feed_18 : decode cX11_feed 18 = .ok (.aload_n 0, 1) := by decide +kernel
theorem dX11_feed_19 : decode cX11_feed 19 = .ok (.getfield 10, 3) := by decide +kernel
theorem dX11_feed_22 : decode cX11_feed 22 = .ok (.iload_n 1, 1) := by decide +kernel
theorem dX11_feed_23 : decode cX11_feed 23 = .ok (.invokevirtual 65, 3) := by decide +kernel
theorem dX11_feed_26 : decode cX11_feed 26 = .ok (.aload_n 0, 1) := by decide +kernel
theorem dX11_feed_27 : decode cX11_feed 27 = .ok (.getfield 10, 3) := by decide +kernel
theorem dX11_feed_30 : decode cX11_feed 30 = .ok (.iload_n 2, 1) := by decide +kernel
theorem dX11_feed_31 : decode cX11_feed 31 = .ok (.invokevirtual 65, 3) := by decide +kernel
theorem dX11_feed_34 : decode cX11_feed 34 = .ok (.aload_n 0, 1) := by decide +kernel
theorem dX11_feed_35 : decode cX11_feed 35 = .ok (.getfield 10, 3) := by decide +kernel
theorem dX11_feed_38 : decode cX11_feed 38 = .ok (.iload_n 3, 1) := by decide +kernel
theorem dX11_feed_39 : decode cX11_feed 39 = .ok (.invokevirtual 65, 3) := by decide +kernel
theorem dX11_feed_42 : decode cX11_feed 42 = .ok (.aload_n 0, 1) := by decide +kernel
theorem dX11_feed_43 : decode cX11_feed 43 = .ok (.getfield 10, 3) := by decide +kernel
theorem dX11_feed_46 : decode cX11_feed 46 = .ok (.iload 4, 2) := by decide +kernel
theorem dX11_feed_48 : decode cX11_feed 48 = .ok (.invokevirtual 65, 3) := by decide +kernel
theorem dX11_feed_51 : decode cX11_feed 51 = .ok (.aload_n 0, 1) := by decide +kernel
theorem dX11_feed_52 : decode cX11_feed 52 = .ok (.getfield 10, 3) := by decide +kernel
theorem dX11_feed_55 : decode cX11_feed 55 = .ok (.iload 5, 2) := by decide +kernel
theorem dX11_feed_57 : decode cX11_feed 57 = .ok (.invokevirtual 65, 3) := by decide +kernel
theorem dX11_feed_60 : decode cX11_feed 60 = .ok (.aload_n 0, 1) := by decide +kernel
theorem dX11_feed_61 : decode cX11_feed 61 = .ok (.getfield 10, 3) := by decide +kernel
theorem dX11_feed_64 : decode cX11_feed 64 = .ok (.getfield 62, 3) := by decide +kernel
theorem dX11_feed_67 : decode cX11_feed 67 = .ok (.ireturn, 1) := by decide +kernel
theorem dX11_act_0 : decode cX11_act 0 = .ok (.iload_n 1, 1) := by decide +kernel
theorem dX11_act_1 : decode cX11_act 1 = .ok (.iconst 0, 1) := by decide +kernel
theorem dX11_act_2 : decode cX11_act 2 = .ok (.aload_n 0, 1) := by decide +kernel
theorem dX11_act_3 : decode cX11_act 3 = .ok (.getfield 10, 3) := by decide +kernel
theorem dX11_act_6 : decode cX11_act 6 = .ok (.getfield 62, 3) := by decide +kernel
theorem dX11_act_9 : decode cX11_act 9 = .ok (.invokestatic 69, 3) := by decide +kernel
theorem dX11_act_12 : decode cX11_act 12 = .ok (.ifCond .eq 14, 3) := by decide +kernel
theorem dX11_act_15 : decode cX11_act 15 = .ok (.iload_n 2, 1) := by decide +kernel
theorem dX11_act_16 : decode cX11_act 16 = .ok (.iconst 0, 1) := by decide +kernel
theorem dX11_act_17 : decode cX11_act 17 = .ok (.sipush 9999, 3) := by decide +kernel
theorem dX11_act_20 : decode cX11_act 20 = .ok (.invokestatic 69, 3) := by decide +kernel
theorem dX11_act_23 : decode cX11_act 23 = .ok (.ifCond .ne 13, 3) := by decide +kernel
theorem dX11_act_26 : decode cX11_act 26 = .ok (.new 73, 3) := by decide +kernel
theorem dX11_act_29 : decode cX11_act 29 = .ok (.dup, 1) := by decide +kernel
theorem dX11_act_30 : decode cX11_act 30 = .ok (.ldc 75, 2) := by decide +kernel
theorem dX11_act_32 : decode cX11_act 32 = .ok (.invokespecial 77, 3) := by decide +kernel
theorem dX11_act_35 : decode cX11_act 35 = .ok (.athrow, 1) := by decide +kernel
theorem dX11_act_36 : decode cX11_act 36 = .ok (.aload_n 0, 1) := by decide +kernel
theorem dX11_act_37 : decode cX11_act 37 = .ok (.getfield 33, 3) := by decide +kernel
theorem dX11_act_40 : decode cX11_act 40 = .ok (.invokevirtual 80, 3) := by decide +kernel
theorem dX11_act_43 : decode cX11_act 43 = .ok (.bipush 12, 2) := by decide +kernel
theorem dX11_act_45 : decode cX11_act 45 = .ok (.if_icmp .lt 13, 3) := by decide +kernel
theorem dX11_act_48 : decode cX11_act 48 = .ok (.new 84, 3) := by decide +kernel
theorem dX11_act_51 : decode cX11_act 51 = .ok (.dup, 1) := by decide +kernel
theorem dX11_act_52 : decode cX11_act 52 = .ok (.ldc 86, 2) := by decide +kernel
theorem dX11_act_54 : decode cX11_act 54 = .ok (.invokespecial 88, 3) := by decide +kernel
theorem dX11_act_57 : decode cX11_act 57 = .ok (.athrow, 1) := by decide +kernel
theorem dX11_act_58 : decode cX11_act 58 = .ok (.new 89, 3) := by decide +kernel
theorem dX11_act_61 : decode cX11_act 61 = .ok (.dup, 1) := by decide +kernel
theorem dX11_act_62 : decode cX11_act 62 = .ok (.iload_n 2, 1) := by decide +kernel
theorem dX11_act_63 : decode cX11_act 63 = .ok (.invokespecial 91, 3) := by decide +kernel
theorem dX11_act_66 : decode cX11_act 66 = .ok (.astore_n 3, 1) := by decide +kernel
theorem dX11_act_67 : decode cX11_act 67 = .ok (.aload_n 0, 1) := by decide +kernel
theorem dX11_act_68 : decode cX11_act 68 = .ok (.getfield 10, 3) := by decide +kernel
theorem dX11_act_71 : decode cX11_act 71 = .ok (.aload_n 3, 1) := by decide +kernel
theorem dX11_act_72 : decode cX11_act 72 = .ok (.iload_n 1, 1) := by decide +kernel
theorem dX11_act_73 : decode cX11_act 73 = .ok (.invokevirtual 93, 3) := by decide +kernel
theorem dX11_act_76 : decode cX11_act 76 = .ok (.istore 4, 2) := by decide +kernel
theorem dX11_act_78 : decode cX11_act 78 = .ok (.aload_n 0, 1) := by decide +kernel
theorem dX11_act_79 : decode cX11_act 79 = .ok (.getfield 10, 3) := by decide +kernel
theorem dX11_act_82 : decode cX11_act 82 = .ok (.iconst 0, 1) := by decide +kernel
theorem dX11_act_83 : decode cX11_act 83 = .ok (.putfield 62, 3) := by decide +kernel
theorem dX11_act_86 : decode cX11_act 86 = .ok (.iload 4, 2) := by decide +kernel
theorem dX11_act_88 : decode cX11_act 88 = .ok (.ifCond .ne 14, 3) := by decide +kernel
theorem dX11_act_91 : decode cX11_act 91 = .ok (.aload_n 0, 1) := by decide +kernel
theorem dX11_act_92 : decode cX11_act 92 = .ok (.getfield 10, 3) := by decide +kernel
theorem dX11_act_95 : decode cX11_act 95 = .ok (.getfield 97, 3) := by decide +kernel
theorem dX11_act_98 : decode cX11_act 98 = .ok (.bipush 10, 2) := by decide +kernel
theorem dX11_act_100 : decode cX11_act 100 = .ok (.isub, 1) := by decide +kernel
theorem dX11_act_101 : decode cX11_act 101 = .ok (.ireturn, 1) := by decide +kernel
theorem dX11_act_102 : decode cX11_act 102 = .ok (.aload_n 0, 1) := by decide +kernel
theorem dX11_act_103 : decode cX11_act 103 = .ok (.getfield 33, 3) := by decide +kernel
theorem dX11_act_106 : decode cX11_act 106 = .ok (.aload_n 3, 1) := by decide +kernel
theorem dX11_act_107 : decode cX11_act 107 = .ok (.invokevirtual 100, 3) := by decide +kernel
theorem dX11_act_110 : decode cX11_act 110 = .ok (.pop, 1) := by decide +kernel
theorem dX11_act_111 : decode cX11_act 111 = .ok (.aload_n 0, 1) := by decide +kernel
theorem dX11_act_112 : decode cX11_act 112 = .ok (.getfield 33, 3) := by decide +kernel
theorem dX11_act_115 : decode cX11_act 115 = .ok (.invokevirtual 80, 3) := by decide +kernel
theorem dX11_act_118 : decode cX11_act 118 = .ok (.iconst 1, 1) := by decide +kernel
theorem dX11_act_119 : decode cX11_act 119 = .ok (.isub, 1) := by decide +kernel
theorem dX11_act_120 : decode cX11_act 120 = .ok (.ireturn, 1) := by decide +kernel
theorem dX11_fault_0 : decode cX11_fault 0 = .ok (.aload_n 0, 1) := by decide +kernel
theorem dX11_fault_1 : decode cX11_fault 1 = .ok (.getfield 10, 3) := by decide +kernel
theorem dX11_fault_4 : decode cX11_fault 4 = .ok (.getfield 104, 3) := by decide +kernel
theorem dX11_fault_7 : decode cX11_fault 7 = .ok (.ireturn, 1) := by decide +kernel
theorem dX11_stretch_0 : decode cX11_stretch 0 = .ok (.iload_n 1, 1) := by decide +kernel
theorem dX11_stretch_1 : decode cX11_stretch 1 = .ok (.iconst 1, 1) := by decide +kernel
theorem dX11_stretch_2 : decode cX11_stretch 2 = .ok (.sipush 10000, 3) := by decide +kernel
theorem dX11_stretch_5 : decode cX11_stretch 5 = .ok (.invokestatic 69, 3) := by decide +kernel
theorem dX11_stretch_8 : decode cX11_stretch 8 = .ok (.ifCond .ne 13, 3) := by decide +kernel
theorem dX11_stretch_11 : decode cX11_stretch 11 = .ok (.new 73, 3) := by decide +kernel
theorem dX11_stretch_14 : decode cX11_stretch 14 = .ok (.dup, 1) := by decide +kernel
theorem dX11_stretch_15 : decode cX11_stretch 15 = .ok (.ldc 107, 2) := by decide +kernel
theorem dX11_stretch_17 : decode cX11_stretch 17 = .ok (.invokespecial 77, 3) := by decide +kernel
theorem dX11_stretch_20 : decode cX11_stretch 20 = .ok (.athrow, 1) := by decide +kernel
theorem dX11_stretch_21 : decode cX11_stretch 21 = .ok (.aload_n 0, 1) := by decide +kernel
theorem dX11_stretch_22 : decode cX11_stretch 22 = .ok (.getfield 37, 3) := by decide +kernel
theorem dX11_stretch_25 : decode cX11_stretch 25 = .ok (.invokevirtual 80, 3) := by decide +kernel
theorem dX11_stretch_28 : decode cX11_stretch 28 = .ok (.bipush 12, 2) := by decide +kernel
theorem dX11_stretch_30 : decode cX11_stretch 30 = .ok (.if_icmp .lt 13, 3) := by decide +kernel
theorem dX11_stretch_33 : decode cX11_stretch 33 = .ok (.new 84, 3) := by decide +kernel
theorem dX11_stretch_36 : decode cX11_stretch 36 = .ok (.dup, 1) := by decide +kernel
theorem dX11_stretch_37 : decode cX11_stretch 37 = .ok (.ldc 109, 2) := by decide +kernel
theorem dX11_stretch_39 : decode cX11_stretch 39 = .ok (.invokespecial 88, 3) := by decide +kernel
theorem dX11_stretch_42 : decode cX11_stretch 42 = .ok (.athrow, 1) := by decide +kernel
theorem dX11_stretch_43 : decode cX11_stretch 43 = .ok (.aload_n 0, 1) := by decide +kernel
theorem dX11_stretch_44 : decode cX11_stretch 44 = .ok (.getfield 37, 3) := by decide +kernel
theorem dX11_stretch_47 : decode cX11_stretch 47 = .ok (.new 111, 3) := by decide +kernel
theorem dX11_stretch_50 : decode cX11_stretch 50 = .ok (.dup, 1) := by decide +kernel
theorem dX11_stretch_51 : decode cX11_stretch 51 = .ok (.aload_n 0, 1) := by decide +kernel
theorem dX11_stretch_52 : decode cX11_stretch 52 = .ok (.getfield 37, 3) := by decide +kernel
theorem dX11_stretch_55 : decode cX11_stretch 55 = .ok (.invokevirtual 80, 3) := by decide +kernel
theorem dX11_stretch_58 : decode cX11_stretch 58 = .ok (.iload_n 1, 1) := by decide +kernel
theorem dX11_stretch_59 : decode cX11_stretch 59 = .ok (.invokespecial 113, 3) := by decide +kernel
theorem dX11_stretch_62 : decode cX11_stretch 62 = .ok (.invokevirtual 100, 3) := by decide +kernel
theorem dX11_stretch_65 : decode cX11_stretch 65 = .ok (.pop, 1) := by decide +kernel
theorem dX11_stretch_66 : decode cX11_stretch 66 = .ok (.aload_n 0, 1) := by decide +kernel
theorem dX11_stretch_67 : decode cX11_stretch 67 = .ok (.getfield 37, 3) := by decide +kernel
theorem dX11_stretch_70 : decode cX11_stretch 70 = .ok (.invokevirtual 80, 3) := by decide +kernel
theorem dX11_stretch_73 : decode cX11_stretch 73 = .ok (.iconst 1, 1) := by decide +kernel
theorem dX11_stretch_74 : decode cX11_stretch 74 = .ok (.isub, 1) := by decide +kernel
theorem dX11_stretch_75 : decode cX11_stretch 75 = .ok (.ireturn, 1) := by decide +kernel
theorem dX11_gate_0 : decode cX11_gate 0 = .ok (.iload_n 1, 1) := by decide +kernel
theorem dX11_gate_1 : decode cX11_gate 1 = .ok (.ifCond .lt 14, 3) := by decide +kernel
theorem dX11_gate_4 : decode cX11_gate 4 = .ok (.iload_n 1, 1) := by decide +kernel
theorem dX11_gate_5 : decode cX11_gate 5 = .ok (.aload_n 0, 1) := by decide +kernel
theorem dX11_gate_6 : decode cX11_gate 6 = .ok (.getfield 37, 3) := by decide +kernel
theorem dX11_gate_9 : decode cX11_gate 9 = .ok (.invokevirtual 80, 3) := by decide +kernel
theorem dX11_gate_12 : decode cX11_gate 12 = .ok (.if_icmp .lt 13, 3) := by decide +kernel
theorem dX11_gate_15 : decode cX11_gate 15 = .ok (.new 116, 3) := by decide +kernel
theorem dX11_gate_18 : decode cX11_gate 18 = .ok (.dup, 1) := by decide +kernel
theorem dX11_gate_19 : decode cX11_gate 19 = .ok (.ldc 118, 2) := by decide +kernel
theorem dX11_gate_21 : decode cX11_gate 21 = .ok (.invokespecial 120, 3) := by decide +kernel
theorem dX11_gate_24 : decode cX11_gate 24 = .ok (.athrow, 1) := by decide +kernel
theorem dX11_gate_25 : decode cX11_gate 25 = .ok (.aload_n 0, 1) := by decide +kernel
theorem dX11_gate_26 : decode cX11_gate 26 = .ok (.getfield 40, 3) := by decide +kernel
theorem dX11_gate_29 : decode cX11_gate 29 = .ok (.invokevirtual 80, 3) := by decide +kernel
theorem dX11_gate_32 : decode cX11_gate 32 = .ok (.bipush 8, 2) := by decide +kernel
theorem dX11_gate_34 : decode cX11_gate 34 = .ok (.if_icmp .lt 13, 3) := by decide +kernel
theorem dX11_gate_37 : decode cX11_gate 37 = .ok (.new 84, 3) := by decide +kernel
theorem dX11_gate_40 : decode cX11_gate 40 = .ok (.dup, 1) := by decide +kernel
theorem dX11_gate_41 : decode cX11_gate 41 = .ok (.ldc 121, 2) := by decide +kernel
theorem dX11_gate_43 : decode cX11_gate 43 = .ok (.invokespecial 88, 3) := by decide +kernel
theorem dX11_gate_46 : decode cX11_gate 46 = .ok (.athrow, 1) := by decide +kernel
theorem dX11_gate_47 : decode cX11_gate 47 = .ok (.aload_n 0, 1) := by decide +kernel
theorem dX11_gate_48 : decode cX11_gate 48 = .ok (.getfield 40, 3) := by decide +kernel
theorem dX11_gate_51 : decode cX11_gate 51 = .ok (.new 123, 3) := by decide +kernel
theorem dX11_gate_54 : decode cX11_gate 54 = .ok (.dup, 1) := by decide +kernel
theorem dX11_gate_55 : decode cX11_gate 55 = .ok (.aload_n 0, 1) := by decide +kernel
theorem dX11_gate_56 : decode cX11_gate 56 = .ok (.getfield 40, 3) := by decide +kernel
theorem dX11_gate_59 : decode cX11_gate 59 = .ok (.invokevirtual 80, 3) := by decide +kernel
theorem dX11_gate_62 : decode cX11_gate 62 = .ok (.aload_n 0, 1) := by decide +kernel
theorem dX11_gate_63 : decode cX11_gate 63 = .ok (.getfield 37, 3) := by decide +kernel
theorem dX11_gate_66 : decode cX11_gate 66 = .ok (.iload_n 1, 1) := by decide +kernel
theorem dX11_gate_67 : decode cX11_gate 67 = .ok (.invokevirtual 125, 3) := by decide +kernel
theorem dX11_gate_70 : decode cX11_gate 70 = .ok (.checkcast 111, 3) := by decide +kernel
theorem dX11_gate_73 : decode cX11_gate 73 = .ok (.invokespecial 129, 3) := by decide +kernel
theorem dX11_gate_76 : decode cX11_gate 76 = .ok (.invokevirtual 100, 3) := by decide +kernel
theorem dX11_gate_79 : decode cX11_gate 79 = .ok (.pop, 1) := by decide +kernel
theorem dX11_gate_80 : decode cX11_gate 80 = .ok (.aload_n 0, 1) := by decide +kernel
theorem dX11_gate_81 : decode cX11_gate 81 = .ok (.getfield 40, 3) := by decide +kernel
theorem dX11_gate_84 : decode cX11_gate 84 = .ok (.invokevirtual 80, 3) := by decide +kernel
theorem dX11_gate_87 : decode cX11_gate 87 = .ok (.iconst 1, 1) := by decide +kernel
theorem dX11_gate_88 : decode cX11_gate 88 = .ok (.isub, 1) := by decide +kernel
theorem dX11_gate_89 : decode cX11_gate 89 = .ok (.ireturn, 1) := by decide +kernel
theorem dX11_traveller_0 : decode cX11_traveller 0 = .ok (.iload_n 1, 1) := by decide +kernel
theorem dX11_traveller_1 : decode cX11_traveller 1 = .ok (.iconst 0, 1) := by decide +kernel
theorem dX11_traveller_2 : decode cX11_traveller 2 = .ok (.bipush 6, 2) := by decide +kernel
theorem dX11_traveller_4 : decode cX11_traveller 4 = .ok (.invokestatic 69, 3) := by decide +kernel
theorem dX11_traveller_7 : decode cX11_traveller 7 = .ok (.ifCond .eq 35, 3) := by decide +kernel
theorem dX11_traveller_10 : decode cX11_traveller 10 = .ok (.iload_n 2, 1) := by decide +kernel
theorem dX11_traveller_11 : decode cX11_traveller 11 = .ok (.iconst 0, 1) := by decide +kernel
theorem dX11_traveller_12 : decode cX11_traveller 12 = .ok (.bipush 20, 2) := by decide +kernel
theorem dX11_traveller_14 : decode cX11_traveller 14 = .ok (.invokestatic 69, 3) := by decide +kernel
theorem dX11_traveller_17 : decode cX11_traveller 17 = .ok (.ifCond .eq 25, 3) := by decide +kernel
theorem dX11_traveller_20 : decode cX11_traveller 20 = .ok (.iload_n 3, 1) := by decide +kernel
theorem dX11_traveller_21 : decode cX11_traveller 21 = .ok (.iconst 0, 1) := by decide +kernel
theorem dX11_traveller_22 : decode cX11_traveller 22 = .ok (.sipush 10000, 3) := by decide +kernel
theorem dX11_traveller_25 : decode cX11_traveller 25 = .ok (.invokestatic 69, 3) := by decide +kernel
theorem dX11_traveller_28 : decode cX11_traveller 28 = .ok (.ifCond .eq 14, 3) := by decide +kernel
theorem dX11_traveller_31 : decode cX11_traveller 31 = .ok (.iload 4, 2) := by decide +kernel
theorem dX11_traveller_33 : decode cX11_traveller 33 = .ok (.iconst 0, 1) := by decide +kernel
theorem dX11_traveller_34 : decode cX11_traveller 34 = .ok (.bipush 15, 2) := by decide +kernel
theorem dX11_traveller_36 : decode cX11_traveller 36 = .ok (.invokestatic 69, 3) := by decide +kernel
theorem dX11_traveller_39 : decode cX11_traveller 39 = .ok (.ifCond .ne 13, 3) := by decide +kernel
theorem dX11_traveller_42 : decode cX11_traveller 42 = .ok (.new 73, 3) := by decide +kernel
theorem dX11_traveller_45 : decode cX11_traveller 45 = .ok (.dup, 1) := by decide +kernel
theorem dX11_traveller_46 : decode cX11_traveller 46 = .ok (.ldc 132, 2) := by decide +kernel
theorem dX11_traveller_48 : decode cX11_traveller 48 = .ok (.invokespecial 77, 3) := by decide +kernel
theorem dX11_traveller_51 : decode cX11_traveller 51 = .ok (.athrow, 1) := by decide +kernel
theorem dX11_traveller_52 : decode cX11_traveller 52 = .ok (.aload_n 0, 1) := by decide +kernel
theorem dX11_traveller_53 : decode cX11_traveller 53 = .ok (.getfield 43, 3) := by decide +kernel
theorem dX11_traveller_56 : decode cX11_traveller 56 = .ok (.invokevirtual 80, 3) := by decide +kernel
theorem dX11_traveller_59 : decode cX11_traveller 59 = .ok (.bipush 60, 2) := by decide +kernel
theorem dX11_traveller_61 : decode cX11_traveller 61 = .ok (.if_icmp .lt 13, 3) := by decide +kernel
theorem dX11_traveller_64 : decode cX11_traveller 64 = .ok (.new 84, 3) := by decide +kernel
theorem dX11_traveller_67 : decode cX11_traveller 67 = .ok (.dup, 1) := by decide +kernel
theorem dX11_traveller_68 : decode cX11_traveller 68 = .ok (.ldc 134, 2) := by decide +kernel
theorem dX11_traveller_70 : decode cX11_traveller 70 = .ok (.invokespecial 88, 3) := by decide +kernel
theorem dX11_traveller_73 : decode cX11_traveller 73 = .ok (.athrow, 1) := by decide +kernel
theorem dX11_traveller_74 : decode cX11_traveller 74 = .ok (.aload_n 0, 1) := by decide +kernel
theorem dX11_traveller_75 : decode cX11_traveller 75 = .ok (.getfield 43, 3) := by decide +kernel
theorem dX11_traveller_78 : decode cX11_traveller 78 = .ok (.new 136, 3) := by decide +kernel
theorem dX11_traveller_81 : decode cX11_traveller 81 = .ok (.dup, 1) := by decide +kernel
theorem dX11_traveller_82 : decode cX11_traveller 82 = .ok (.iload_n 1, 1) := by decide +kernel
theorem dX11_traveller_83 : decode cX11_traveller 83 = .ok (.iload_n 2, 1) := by decide +kernel
theorem dX11_traveller_84 : decode cX11_traveller 84 = .ok (.iload_n 3, 1) := by decide +kernel
theorem dX11_traveller_85 : decode cX11_traveller 85 = .ok (.iload 4, 2) := by decide +kernel
theorem dX11_traveller_87 : decode cX11_traveller 87 = .ok (.invokespecial 138, 3) := by decide +kernel
theorem dX11_traveller_90 : decode cX11_traveller 90 = .ok (.invokevirtual 100, 3) := by decide +kernel
theorem dX11_traveller_93 : decode cX11_traveller 93 = .ok (.pop, 1) := by decide +kernel
theorem dX11_traveller_94 : decode cX11_traveller 94 = .ok (.aload_n 0, 1) := by decide +kernel
theorem dX11_traveller_95 : decode cX11_traveller 95 = .ok (.getfield 43, 3) := by decide +kernel
theorem dX11_traveller_98 : decode cX11_traveller 98 = .ok (.invokevirtual 80, 3) := by decide +kernel
theorem dX11_traveller_101 : decode cX11_traveller 101 = .ok (.iconst 1, 1) := by decide +kernel
theorem dX11_traveller_102 : decode cX11_traveller 102 = .ok (.isub, 1) := by decide +kernel
theorem dX11_traveller_103 : decode cX11_traveller 103 = .ok (.ireturn, 1) := by decide +kernel
theorem dX11_pass_0 : decode cX11_pass 0 = .ok (.iload_n 1, 1) := by decide +kernel
theorem dX11_pass_1 : decode cX11_pass 1 = .ok (.ifCond .lt 14, 3) := by decide +kernel
theorem dX11_pass_4 : decode cX11_pass 4 = .ok (.iload_n 1, 1) := by decide +kernel
theorem dX11_pass_5 : decode cX11_pass 5 = .ok (.aload_n 0, 1) := by decide +kernel
theorem dX11_pass_6 : decode cX11_pass 6 = .ok (.getfield 43, 3) := by decide +kernel
theorem dX11_pass_9 : decode cX11_pass 9 = .ok (.invokevirtual 80, 3) := by decide +kernel
theorem dX11_pass_12 : decode cX11_pass 12 = .ok (.if_icmp .lt 13, 3) := by decide +kernel
theorem dX11_pass_15 : decode cX11_pass 15 = .ok (.new 116, 3) := by decide +kernel
theorem dX11_pass_18 : decode cX11_pass 18 = .ok (.dup, 1) := by decide +kernel
theorem dX11_pass_19 : decode cX11_pass 19 = .ok (.ldc 132, 2) := by decide +kernel
theorem dX11_pass_21 : decode cX11_pass 21 = .ok (.invokespecial 120, 3) := by decide +kernel
theorem dX11_pass_24 : decode cX11_pass 24 = .ok (.athrow, 1) := by decide +kernel
theorem dX11_pass_25 : decode cX11_pass 25 = .ok (.iload_n 2, 1) := by decide +kernel
theorem dX11_pass_26 : decode cX11_pass 26 = .ok (.ifCond .lt 14, 3) := by decide +kernel
theorem dX11_pass_29 : decode cX11_pass 29 = .ok (.iload_n 2, 1) := by decide +kernel
theorem dX11_pass_30 : decode cX11_pass 30 = .ok (.aload_n 0, 1) := by decide +kernel
theorem dX11_pass_31 : decode cX11_pass 31 = .ok (.getfield 40, 3) := by decide +kernel
theorem dX11_pass_34 : decode cX11_pass 34 = .ok (.invokevirtual 80, 3) := by decide +kernel
theorem dX11_pass_37 : decode cX11_pass 37 = .ok (.if_icmp .lt 13, 3) := by decide +kernel
theorem dX11_pass_40 : decode cX11_pass 40 = .ok (.new 116, 3) := by decide +kernel
theorem dX11_pass_43 : decode cX11_pass 43 = .ok (.dup, 1) := by decide +kernel
theorem dX11_pass_44 : decode cX11_pass 44 = .ok (.ldc 141, 2) := by decide +kernel
theorem dX11_pass_46 : decode cX11_pass 46 = .ok (.invokespecial 120, 3) := by decide +kernel
theorem dX11_pass_49 : decode cX11_pass 49 = .ok (.athrow, 1) := by decide +kernel
theorem dX11_pass_50 : decode cX11_pass 50 = .ok (.aload_n 0, 1) := by decide +kernel
theorem dX11_pass_51 : decode cX11_pass 51 = .ok (.getfield 43, 3) := by decide +kernel
theorem dX11_pass_54 : decode cX11_pass 54 = .ok (.iload_n 1, 1) := by decide +kernel
theorem dX11_pass_55 : decode cX11_pass 55 = .ok (.invokevirtual 125, 3) := by decide +kernel
theorem dX11_pass_58 : decode cX11_pass 58 = .ok (.checkcast 136, 3) := by decide +kernel
theorem dX11_pass_61 : decode cX11_pass 61 = .ok (.astore_n 3, 1) := by decide +kernel
theorem dX11_pass_62 : decode cX11_pass 62 = .ok (.aload_n 0, 1) := by decide +kernel
theorem dX11_pass_63 : decode cX11_pass 63 = .ok (.getfield 40, 3) := by decide +kernel
theorem dX11_pass_66 : decode cX11_pass 66 = .ok (.iload_n 2, 1) := by decide +kernel
theorem dX11_pass_67 : decode cX11_pass 67 = .ok (.invokevirtual 125, 3) := by decide +kernel
theorem dX11_pass_70 : decode cX11_pass 70 = .ok (.checkcast 123, 3) := by decide +kernel
theorem dX11_pass_73 : decode cX11_pass 73 = .ok (.astore 4, 2) := by decide +kernel
theorem dX11_pass_75 : decode cX11_pass 75 = .ok (.aload_n 0, 1) := by decide +kernel
theorem dX11_pass_76 : decode cX11_pass 76 = .ok (.aload_n 0, 1) := by decide +kernel
theorem dX11_pass_77 : decode cX11_pass 77 = .ok (.getfield 52, 3) := by decide +kernel
theorem dX11_pass_80 : decode cX11_pass 80 = .ok (.invokevirtual 143, 3) := by decide +kernel
theorem dX11_pass_83 : decode cX11_pass 83 = .ok (.istore 5, 2) := by decide +kernel
theorem dX11_pass_85 : decode cX11_pass 85 = .ok (.iload 5, 2) := by decide +kernel
theorem dX11_pass_87 : decode cX11_pass 87 = .ok (.ifCond .lt 19, 3) := by decide +kernel
theorem dX11_pass_90 : decode cX11_pass 90 = .ok (.iload 5, 2) := by decide +kernel
theorem dX11_pass_92 : decode cX11_pass 92 = .ok (.aload_n 0, 1) := by decide +kernel
theorem dX11_pass_93 : decode cX11_pass 93 = .ok (.getfield 33, 3) := by decide +kernel
theorem dX11_pass_96 : decode cX11_pass 96 = .ok (.invokevirtual 80, 3) := by decide +kernel
theorem dX11_pass_99 : decode cX11_pass 99 = .ok (.if_icmp .ge 7, 3) := by decide +kernel
theorem dX11_pass_102 : decode cX11_pass 102 = .ok (.iconst 1, 1) := by decide +kernel
theorem dX11_pass_103 : decode cX11_pass 103 = .ok (.goto 4, 3) := by decide +kernel
theorem dX11_pass_106 : decode cX11_pass 106 = .ok (.iconst 0, 1) := by decide +kernel
theorem dX11_pass_107 : decode cX11_pass 107 = .ok (.istore 6, 2) := by decide +kernel
theorem dX11_pass_109 : decode cX11_pass 109 = .ok (.aload_n 0, 1) := by decide +kernel
theorem dX11_pass_110 : decode cX11_pass 110 = .ok (.getfield 19, 3) := by decide +kernel
theorem dX11_pass_113 : decode cX11_pass 113 = .ok (.iload 6, 2) := by decide +kernel
theorem dX11_pass_115 : decode cX11_pass 115 = .ok (.ifCond .eq 18, 3) := by decide +kernel
theorem dX11_pass_118 : decode cX11_pass 118 = .ok (.aload_n 0, 1) := by decide +kernel
theorem dX11_pass_119 : decode cX11_pass 119 = .ok (.getfield 33, 3) := by decide +kernel
theorem dX11_pass_122 : decode cX11_pass 122 = .ok (.iload 5, 2) := by decide +kernel
theorem dX11_pass_124 : decode cX11_pass 124 = .ok (.invokevirtual 125, 3) := by decide +kernel
theorem dX11_pass_127 : decode cX11_pass 127 = .ok (.checkcast 89, 3) := by decide +kernel
theorem dX11_pass_130 : decode cX11_pass 130 = .ok (.goto 4, 3) := by decide +kernel
theorem dX11_pass_133 : decode cX11_pass 133 = .ok (.aconst_null, 1) := by decide +kernel
theorem dX11_pass_134 : decode cX11_pass 134 = .ok (.aload_n 3, 1) := by decide +kernel
theorem dX11_pass_135 : decode cX11_pass 135 = .ok (.iload_n 2, 1) := by decide +kernel
theorem dX11_pass_136 : decode cX11_pass 136 = .ok (.aload_n 0, 1) := by decide +kernel
theorem dX11_pass_137 : decode cX11_pass 137 = .ok (.getfield 52, 3) := by decide +kernel
theorem dX11_pass_140 : decode cX11_pass 140 = .ok (.invokevirtual 147, 3) := by decide +kernel
theorem dX11_pass_143 : decode cX11_pass 143 = .ok (.aload_n 0, 1) := by decide +kernel
theorem dX11_pass_144 : decode cX11_pass 144 = .ok (.getfield 19, 3) := by decide +kernel
theorem dX11_pass_147 : decode cX11_pass 147 = .ok (.getfield 151, 3) := by decide +kernel
theorem dX11_pass_150 : decode cX11_pass 150 = .ok (.istore 7, 2) := by decide +kernel
theorem dX11_pass_152 : decode cX11_pass 152 = .ok (.aload_n 0, 1) := by decide +kernel
theorem dX11_pass_153 : decode cX11_pass 153 = .ok (.aload_n 0, 1) := by decide +kernel
theorem dX11_pass_154 : decode cX11_pass 154 = .ok (.getfield 19, 3) := by decide +kernel
theorem dX11_pass_157 : decode cX11_pass 157 = .ok (.getfield 154, 3) := by decide +kernel
theorem dX11_pass_160 : decode cX11_pass 160 = .ok (.putfield 59, 3) := by decide +kernel
theorem dX11_pass_163 : decode cX11_pass 163 = .ok (.aload_n 0, 1) := by decide +kernel
theorem dX11_pass_164 : decode cX11_pass 164 = .ok (.iload_n 1, 1) := by decide +kernel
theorem dX11_pass_165 : decode cX11_pass 165 = .ok (.aload 4, 2) := by decide +kernel
theorem dX11_pass_167 : decode cX11_pass 167 = .ok (.iload 7, 2) := by decide +kernel
theorem dX11_pass_169 : decode cX11_pass 169 = .ok (.invokevirtual 157, 3) := by decide +kernel
theorem dX11_pass_172 : decode cX11_pass 172 = .ok (.aload_n 3, 1) := by decide +kernel
theorem dX11_pass_173 : decode cX11_pass 173 = .ok (.iload_n 2, 1) := by decide +kernel
theorem dX11_pass_174 : decode cX11_pass 174 = .ok (.aload_n 0, 1) := by decide +kernel
theorem dX11_pass_175 : decode cX11_pass 175 = .ok (.getfield 52, 3) := by decide +kernel
theorem dX11_pass_178 : decode cX11_pass 178 = .ok (.iload 7, 2) := by decide +kernel
theorem dX11_pass_180 : decode cX11_pass 180 = .ok (.invokevirtual 161, 3) := by decide +kernel
theorem dX11_pass_183 : decode cX11_pass 183 = .ok (.aload 4, 2) := by decide +kernel
theorem dX11_pass_185 : decode cX11_pass 185 = .ok (.dup, 1) := by decide +kernel
theorem dX11_pass_186 : decode cX11_pass 186 = .ok (.getfield 165, 3) := by decide +kernel
theorem dX11_pass_189 : decode cX11_pass 189 = .ok (.iconst 1, 1) := by decide +kernel
theorem dX11_pass_190 : decode cX11_pass 190 = .ok (.iadd, 1) := by decide +kernel
theorem dX11_pass_191 : decode cX11_pass 191 = .ok (.putfield 165, 3) := by decide +kernel
theorem dX11_pass_194 : decode cX11_pass 194 = .ok (.aload 4, 2) := by decide +kernel
theorem dX11_pass_196 : decode cX11_pass 196 = .ok (.getfield 168, 3) := by decide +kernel
theorem dX11_pass_199 : decode cX11_pass 199 = .ok (.dup, 1) := by decide +kernel
theorem dX11_pass_200 : decode cX11_pass 200 = .ok (.getfield 172, 3) := by decide +kernel
theorem dX11_pass_203 : decode cX11_pass 203 = .ok (.aload_n 0, 1) := by decide +kernel
theorem dX11_pass_204 : decode cX11_pass 204 = .ok (.invokevirtual 176, 3) := by decide +kernel
theorem dX11_pass_207 : decode cX11_pass 207 = .ok (.ifCond .le 15, 3) := by decide +kernel
theorem dX11_pass_210 : decode cX11_pass 210 = .ok (.ldc2_w 179, 3) := by decide +kernel
theorem dX11_pass_213 : decode cX11_pass 213 = .ok (.aload_n 3, 1) := by decide +kernel
theorem dX11_pass_214 : decode cX11_pass 214 = .ok (.invokevirtual 181, 3) := by decide +kernel
theorem dX11_pass_217 : decode cX11_pass 217 = .ok (.i2l, 1) := by decide +kernel
theorem dX11_pass_218 : decode cX11_pass 218 = .ok (.lmul, 1) := by decide +kernel
theorem dX11_pass_219 : decode cX11_pass 219 = .ok (.goto 8, 3) := by decide +kernel
theorem dX11_pass_222 : decode cX11_pass 222 = .ok (.aload_n 3, 1) := by decide +kernel
theorem dX11_pass_223 : decode cX11_pass 223 = .ok (.invokevirtual 181, 3) := by decide +kernel
theorem dX11_pass_226 : decode cX11_pass 226 = .ok (.i2l, 1) := by decide +kernel
theorem dX11_pass_227 : decode cX11_pass 227 = .ok (.ladd, 1) := by decide +kernel
theorem dX11_pass_228 : decode cX11_pass 228 = .ok (.putfield 172, 3) := by decide +kernel
theorem dX11_pass_231 : decode cX11_pass 231 = .ok (.iload 7, 2) := by decide +kernel
theorem dX11_pass_233 : decode cX11_pass 233 = .ok (.ireturn, 1) := by decide +kernel
theorem dX11_clause_0 : decode cX11_clause 0 = .ok (.aload_n 0, 1) := by decide +kernel
theorem dX11_clause_1 : decode cX11_clause 1 = .ok (.getfield 59, 3) := by decide +kernel
theorem dX11_clause_4 : decode cX11_clause 4 = .ok (.ireturn, 1) := by decide +kernel
theorem dX11_asked_0 : decode cX11_asked 0 = .ok (.iload_n 1, 1) := by decide +kernel
theorem dX11_asked_1 : decode cX11_asked 1 = .ok (.ifCond .lt 14, 3) := by decide +kernel
theorem dX11_asked_4 : decode cX11_asked 4 = .ok (.iload_n 1, 1) := by decide +kernel
theorem dX11_asked_5 : decode cX11_asked 5 = .ok (.aload_n 0, 1) := by decide +kernel
theorem dX11_asked_6 : decode cX11_asked 6 = .ok (.getfield 33, 3) := by decide +kernel
theorem dX11_asked_9 : decode cX11_asked 9 = .ok (.invokevirtual 80, 3) := by decide +kernel
theorem dX11_asked_12 : decode cX11_asked 12 = .ok (.if_icmp .lt 13, 3) := by decide +kernel
theorem dX11_asked_15 : decode cX11_asked 15 = .ok (.new 116, 3) := by decide +kernel
theorem dX11_asked_18 : decode cX11_asked 18 = .ok (.dup, 1) := by decide +kernel
theorem dX11_asked_19 : decode cX11_asked 19 = .ok (.ldc 184, 2) := by decide +kernel
theorem dX11_asked_21 : decode cX11_asked 21 = .ok (.invokespecial 120, 3) := by decide +kernel
theorem dX11_asked_24 : decode cX11_asked 24 = .ok (.athrow, 1) := by decide +kernel
theorem dX11_asked_25 : decode cX11_asked 25 = .ok (.iload_n 2, 1) := by decide +kernel
theorem dX11_asked_26 : decode cX11_asked 26 = .ok (.ifCond .lt 14, 3) := by decide +kernel
theorem dX11_asked_29 : decode cX11_asked 29 = .ok (.iload_n 2, 1) := by decide +kernel
theorem dX11_asked_30 : decode cX11_asked 30 = .ok (.aload_n 0, 1) := by decide +kernel
theorem dX11_asked_31 : decode cX11_asked 31 = .ok (.getfield 43, 3) := by decide +kernel
theorem dX11_asked_34 : decode cX11_asked 34 = .ok (.invokevirtual 80, 3) := by decide +kernel
theorem dX11_asked_37 : decode cX11_asked 37 = .ok (.if_icmp .lt 13, 3) := by decide +kernel
theorem dX11_asked_40 : decode cX11_asked 40 = .ok (.new 116, 3) := by decide +kernel
theorem dX11_asked_43 : decode cX11_asked 43 = .ok (.dup, 1) := by decide +kernel
theorem dX11_asked_44 : decode cX11_asked 44 = .ok (.ldc 132, 2) := by decide +kernel
theorem dX11_asked_46 : decode cX11_asked 46 = .ok (.invokespecial 120, 3) := by decide +kernel
theorem dX11_asked_49 : decode cX11_asked 49 = .ok (.athrow, 1) := by decide +kernel
theorem dX11_asked_50 : decode cX11_asked 50 = .ok (.iload_n 3, 1) := by decide +kernel
theorem dX11_asked_51 : decode cX11_asked 51 = .ok (.ifCond .lt 14, 3) := by decide +kernel
theorem dX11_asked_54 : decode cX11_asked 54 = .ok (.iload_n 3, 1) := by decide +kernel
theorem dX11_asked_55 : decode cX11_asked 55 = .ok (.aload_n 0, 1) := by decide +kernel
theorem dX11_asked_56 : decode cX11_asked 56 = .ok (.getfield 40, 3) := by decide +kernel
theorem dX11_asked_59 : decode cX11_asked 59 = .ok (.invokevirtual 80, 3) := by decide +kernel
theorem dX11_asked_62 : decode cX11_asked 62 = .ok (.if_icmp .lt 13, 3) := by decide +kernel
theorem dX11_asked_65 : decode cX11_asked 65 = .ok (.new 116, 3) := by decide +kernel
theorem dX11_asked_68 : decode cX11_asked 68 = .ok (.dup, 1) := by decide +kernel
theorem dX11_asked_69 : decode cX11_asked 69 = .ok (.ldc 141, 2) := by decide +kernel
theorem dX11_asked_71 : decode cX11_asked 71 = .ok (.invokespecial 120, 3) := by decide +kernel
theorem dX11_asked_74 : decode cX11_asked 74 = .ok (.athrow, 1) := by decide +kernel
theorem dX11_asked_75 : decode cX11_asked 75 = .ok (.aload_n 0, 1) := by decide +kernel
theorem dX11_asked_76 : decode cX11_asked 76 = .ok (.getfield 19, 3) := by decide +kernel
theorem dX11_asked_79 : decode cX11_asked 79 = .ok (.aload_n 0, 1) := by decide +kernel
theorem dX11_asked_80 : decode cX11_asked 80 = .ok (.getfield 33, 3) := by decide +kernel
theorem dX11_asked_83 : decode cX11_asked 83 = .ok (.iload_n 1, 1) := by decide +kernel
theorem dX11_asked_84 : decode cX11_asked 84 = .ok (.invokevirtual 125, 3) := by decide +kernel
theorem dX11_asked_87 : decode cX11_asked 87 = .ok (.checkcast 89, 3) := by decide +kernel
theorem dX11_asked_90 : decode cX11_asked 90 = .ok (.aload_n 0, 1) := by decide +kernel
theorem dX11_asked_91 : decode cX11_asked 91 = .ok (.getfield 43, 3) := by decide +kernel
theorem dX11_asked_94 : decode cX11_asked 94 = .ok (.iload_n 2, 1) := by decide +kernel
theorem dX11_asked_95 : decode cX11_asked 95 = .ok (.invokevirtual 125, 3) := by decide +kernel
theorem dX11_asked_98 : decode cX11_asked 98 = .ok (.checkcast 136, 3) := by decide +kernel
theorem dX11_asked_101 : decode cX11_asked 101 = .ok (.iload_n 3, 1) := by decide +kernel
theorem dX11_asked_102 : decode cX11_asked 102 = .ok (.aload_n 0, 1) := by decide +kernel
theorem dX11_asked_103 : decode cX11_asked 103 = .ok (.getfield 52, 3) := by decide +kernel
theorem dX11_asked_106 : decode cX11_asked 106 = .ok (.invokevirtual 147, 3) := by decide +kernel
theorem dX11_asked_109 : decode cX11_asked 109 = .ok (.aload_n 0, 1) := by decide +kernel
theorem dX11_asked_110 : decode cX11_asked 110 = .ok (.getfield 19, 3) := by decide +kernel
theorem dX11_asked_113 : decode cX11_asked 113 = .ok (.getfield 151, 3) := by decide +kernel
theorem dX11_asked_116 : decode cX11_asked 116 = .ok (.ireturn, 1) := by decide +kernel
theorem dX11_force_0 : decode cX11_force 0 = .ok (.iload_n 1, 1) := by decide +kernel
theorem dX11_force_1 : decode cX11_force 1 = .ok (.iconst 0, 1) := by decide +kernel
theorem dX11_force_2 : decode cX11_force 2 = .ok (.sipush 9999, 3) := by decide +kernel
theorem dX11_force_5 : decode cX11_force 5 = .ok (.invokestatic 69, 3) := by decide +kernel
theorem dX11_force_8 : decode cX11_force 8 = .ok (.ifCond .ne 13, 3) := by decide +kernel
theorem dX11_force_11 : decode cX11_force 11 = .ok (.new 73, 3) := by decide +kernel
theorem dX11_force_14 : decode cX11_force 14 = .ok (.dup, 1) := by decide +kernel
theorem dX11_force_15 : decode cX11_force 15 = .ok (.ldc 186, 2) := by decide +kernel
theorem dX11_force_17 : decode cX11_force 17 = .ok (.invokespecial 77, 3) := by decide +kernel
theorem dX11_force_20 : decode cX11_force 20 = .ok (.athrow, 1) := by decide +kernel
theorem dX11_force_21 : decode cX11_force 21 = .ok (.aload_n 0, 1) := by decide +kernel
theorem dX11_force_22 : decode cX11_force 22 = .ok (.iload_n 1, 1) := by decide +kernel
theorem dX11_force_23 : decode cX11_force 23 = .ok (.invokevirtual 143, 3) := by decide +kernel
theorem dX11_force_26 : decode cX11_force 26 = .ok (.ireturn, 1) := by decide +kernel
theorem dX11_wait_0 : decode cX11_wait 0 = .ok (.iload_n 1, 1) := by decide +kernel
theorem dX11_wait_1 : decode cX11_wait 1 = .ok (.iconst 0, 1) := by decide +kernel
theorem dX11_wait_2 : decode cX11_wait 2 = .ok (.sipush 1000, 3) := by decide +kernel
theorem dX11_wait_5 : decode cX11_wait 5 = .ok (.invokestatic 69, 3) := by decide +kernel
theorem dX11_wait_8 : decode cX11_wait 8 = .ok (.ifCond .eq 15, 3) := by decide +kernel
theorem dX11_wait_11 : decode cX11_wait 11 = .ok (.aload_n 0, 1) := by decide +kernel
theorem dX11_wait_12 : decode cX11_wait 12 = .ok (.getfield 52, 3) := by decide +kernel
theorem dX11_wait_15 : decode cX11_wait 15 = .ok (.iload_n 1, 1) := by decide +kernel
theorem dX11_wait_16 : decode cX11_wait 16 = .ok (.iadd, 1) := by decide +kernel
theorem dX11_wait_17 : decode cX11_wait 17 = .ok (.sipush 9999, 3) := by decide +kernel
theorem dX11_wait_20 : decode cX11_wait 20 = .ok (.if_icmp .le 13, 3) := by decide +kernel
theorem dX11_wait_23 : decode cX11_wait 23 = .ok (.new 73, 3) := by decide +kernel
theorem dX11_wait_26 : decode cX11_wait 26 = .ok (.dup, 1) := by decide +kernel
theorem dX11_wait_27 : decode cX11_wait 27 = .ok (.ldc 188, 2) := by decide +kernel
theorem dX11_wait_29 : decode cX11_wait 29 = .ok (.invokespecial 77, 3) := by decide +kernel
theorem dX11_wait_32 : decode cX11_wait 32 = .ok (.athrow, 1) := by decide +kernel
theorem dX11_wait_33 : decode cX11_wait 33 = .ok (.iconst 0, 1) := by decide +kernel
theorem dX11_wait_34 : decode cX11_wait 34 = .ok (.istore_n 2, 1) := by decide +kernel
theorem dX11_wait_35 : decode cX11_wait 35 = .ok (.iload_n 2, 1) := by decide +kernel
theorem dX11_wait_36 : decode cX11_wait 36 = .ok (.iload_n 1, 1) := by decide +kernel
theorem dX11_wait_37 : decode cX11_wait 37 = .ok (.if_icmp .ge 13, 3) := by decide +kernel
theorem dX11_wait_40 : decode cX11_wait 40 = .ok (.aload_n 0, 1) := by decide +kernel
theorem dX11_wait_41 : decode cX11_wait 41 = .ok (.invokevirtual 190, 3) := by decide +kernel
theorem dX11_wait_44 : decode cX11_wait 44 = .ok (.iinc 2 1, 3) := by decide +kernel
theorem dX11_wait_47 : decode cX11_wait 47 = .ok (.goto (-12), 3) := by decide +kernel
theorem dX11_wait_50 : decode cX11_wait 50 = .ok (.aload_n 0, 1) := by decide +kernel
theorem dX11_wait_51 : decode cX11_wait 51 = .ok (.getfield 52, 3) := by decide +kernel
theorem dX11_wait_54 : decode cX11_wait 54 = .ok (.ireturn, 1) := by decide +kernel
theorem dX11_rain_0 : decode cX11_rain 0 = .ok (.iload_n 1, 1) := by decide +kernel
theorem dX11_rain_1 : decode cX11_rain 1 = .ok (.iconst 0, 1) := by decide +kernel
theorem dX11_rain_2 : decode cX11_rain 2 = .ok (.sipush 1000, 3) := by decide +kernel
theorem dX11_rain_5 : decode cX11_rain 5 = .ok (.invokestatic 69, 3) := by decide +kernel
theorem dX11_rain_8 : decode cX11_rain 8 = .ok (.ifCond .ne 13, 3) := by decide +kernel
theorem dX11_rain_11 : decode cX11_rain 11 = .ok (.new 73, 3) := by decide +kernel
theorem dX11_rain_14 : decode cX11_rain 14 = .ok (.dup, 1) := by decide +kernel
theorem dX11_rain_15 : decode cX11_rain 15 = .ok (.ldc 193, 2) := by decide +kernel
theorem dX11_rain_17 : decode cX11_rain 17 = .ok (.invokespecial 77, 3) := by decide +kernel
theorem dX11_rain_20 : decode cX11_rain 20 = .ok (.athrow, 1) := by decide +kernel
theorem dX11_rain_21 : decode cX11_rain 21 = .ok (.aload_n 0, 1) := by decide +kernel
theorem dX11_rain_22 : decode cX11_rain 22 = .ok (.aload_n 0, 1) := by decide +kernel
theorem dX11_rain_23 : decode cX11_rain 23 = .ok (.getfield 52, 3) := by decide +kernel
theorem dX11_rain_26 : decode cX11_rain 26 = .ok (.iload_n 1, 1) := by decide +kernel
theorem dX11_rain_27 : decode cX11_rain 27 = .ok (.iadd, 1) := by decide +kernel
theorem dX11_rain_28 : decode cX11_rain 28 = .ok (.putfield 56, 3) := by decide +kernel
theorem dX11_rain_31 : decode cX11_rain 31 = .ok (.return_, 1) := by decide +kernel
theorem dX11_mend_0 : decode cX11_mend 0 = .ok (.iload_n 1, 1) := by decide +kernel
theorem dX11_mend_1 : decode cX11_mend 1 = .ok (.iconst 0, 1) := by decide +kernel
theorem dX11_mend_2 : decode cX11_mend 2 = .ok (.bipush 20, 2) := by decide +kernel
theorem dX11_mend_4 : decode cX11_mend 4 = .ok (.invokestatic 69, 3) := by decide +kernel
theorem dX11_mend_7 : decode cX11_mend 7 = .ok (.ifCond .ne 13, 3) := by decide +kernel
theorem dX11_mend_10 : decode cX11_mend 10 = .ok (.new 73, 3) := by decide +kernel
theorem dX11_mend_13 : decode cX11_mend 13 = .ok (.dup, 1) := by decide +kernel
theorem dX11_mend_14 : decode cX11_mend 14 = .ok (.ldc 195, 2) := by decide +kernel
theorem dX11_mend_16 : decode cX11_mend 16 = .ok (.invokespecial 77, 3) := by decide +kernel
theorem dX11_mend_19 : decode cX11_mend 19 = .ok (.athrow, 1) := by decide +kernel
theorem dX11_mend_20 : decode cX11_mend 20 = .ok (.iconst 0, 1) := by decide +kernel
theorem dX11_mend_21 : decode cX11_mend 21 = .ok (.istore_n 2, 1) := by decide +kernel
theorem dX11_mend_22 : decode cX11_mend 22 = .ok (.iload_n 2, 1) := by decide +kernel
theorem dX11_mend_23 : decode cX11_mend 23 = .ok (.iload_n 1, 1) := by decide +kernel
theorem dX11_mend_24 : decode cX11_mend 24 = .ok (.if_icmp .ge 72, 3) := by decide +kernel
theorem dX11_mend_27 : decode cX11_mend 27 = .ok (.aload_n 0, 1) := by decide +kernel
theorem dX11_mend_28 : decode cX11_mend 28 = .ok (.invokevirtual 197, 3) := by decide +kernel
theorem dX11_mend_31 : decode cX11_mend 31 = .ok (.astore_n 3, 1) := by decide +kernel
theorem dX11_mend_32 : decode cX11_mend 32 = .ok (.aload_n 3, 1) := by decide +kernel
theorem dX11_mend_33 : decode cX11_mend 33 = .ok (.ifnull 19, 3) := by decide +kernel
theorem dX11_mend_36 : decode cX11_mend 36 = .ok (.aload_n 0, 1) := by decide +kernel
theorem dX11_mend_37 : decode cX11_mend 37 = .ok (.getfield 26, 3) := by decide +kernel
theorem dX11_mend_40 : decode cX11_mend 40 = .ok (.getfield 201, 3) := by decide +kernel
theorem dX11_mend_43 : decode cX11_mend 43 = .ok (.aload_n 3, 1) := by decide +kernel
theorem dX11_mend_44 : decode cX11_mend 44 = .ok (.getfield 204, 3) := by decide +kernel
theorem dX11_mend_47 : decode cX11_mend 47 = .ok (.i2l, 1) := by decide +kernel
theorem dX11_mend_48 : decode cX11_mend 48 = .ok (.lcmp, 1) := by decide +kernel
theorem dX11_mend_49 : decode cX11_mend 49 = .ok (.ifCond .ge 5, 3) := by decide +kernel
theorem dX11_mend_52 : decode cX11_mend 52 = .ok (.iload_n 2, 1) := by decide +kernel
theorem dX11_mend_53 : decode cX11_mend 53 = .ok (.ireturn, 1) := by decide +kernel
theorem dX11_mend_54 : decode cX11_mend 54 = .ok (.aload_n 3, 1) := by decide +kernel
theorem dX11_mend_55 : decode cX11_mend 55 = .ok (.dup, 1) := by decide +kernel
theorem dX11_mend_56 : decode cX11_mend 56 = .ok (.getfield 172, 3) := by decide +kernel
theorem dX11_mend_59 : decode cX11_mend 59 = .ok (.aload_n 3, 1) := by decide +kernel
theorem dX11_mend_60 : decode cX11_mend 60 = .ok (.invokevirtual 207, 3) := by decide +kernel
theorem dX11_mend_63 : decode cX11_mend 63 = .ok (.lsub, 1) := by decide +kernel
theorem dX11_mend_64 : decode cX11_mend 64 = .ok (.putfield 172, 3) := by decide +kernel
theorem dX11_mend_67 : decode cX11_mend 67 = .ok (.aload_n 0, 1) := by decide +kernel
theorem dX11_mend_68 : decode cX11_mend 68 = .ok (.getfield 26, 3) := by decide +kernel
theorem dX11_mend_71 : decode cX11_mend 71 = .ok (.aload_n 0, 1) := by decide +kernel
theorem dX11_mend_72 : decode cX11_mend 72 = .ok (.getfield 52, 3) := by decide +kernel
theorem dX11_mend_75 : decode cX11_mend 75 = .ok (.bipush 6, 2) := by decide +kernel
theorem dX11_mend_77 : decode cX11_mend 77 = .ok (.aload_n 3, 1) := by decide +kernel
theorem dX11_mend_78 : decode cX11_mend 78 = .ok (.getfield 211, 3) := by decide +kernel
theorem dX11_mend_81 : decode cX11_mend 81 = .ok (.aload_n 3, 1) := by decide +kernel
theorem dX11_mend_82 : decode cX11_mend 82 = .ok (.getfield 204, 3) := by decide +kernel
theorem dX11_mend_85 : decode cX11_mend 85 = .ok (.ineg, 1) := by decide +kernel
theorem dX11_mend_86 : decode cX11_mend 86 = .ok (.i2l, 1) := by decide +kernel
theorem dX11_mend_87 : decode cX11_mend 87 = .ok (.invokevirtual 214, 3) := by decide +kernel
theorem dX11_mend_90 : decode cX11_mend 90 = .ok (.iinc 2 1, 3) := by decide +kernel
theorem dX11_mend_93 : decode cX11_mend 93 = .ok (.goto (-71), 3) := by decide +kernel
theorem dX11_mend_96 : decode cX11_mend 96 = .ok (.iload_n 1, 1) := by decide +kernel
theorem dX11_mend_97 : decode cX11_mend 97 = .ok (.ireturn, 1) := by decide +kernel
theorem dX11_farmer_0 : decode cX11_farmer 0 = .ok (.iload_n 1, 1) := by decide +kernel
theorem dX11_farmer_1 : decode cX11_farmer 1 = .ok (.iconst 0, 1) := by decide +kernel
theorem dX11_farmer_2 : decode cX11_farmer 2 = .ok (.ldc 218, 2) := by decide +kernel
theorem dX11_farmer_4 : decode cX11_farmer 4 = .ok (.invokestatic 69, 3) := by decide +kernel
theorem dX11_farmer_7 : decode cX11_farmer 7 = .ok (.ifCond .ne 13, 3) := by decide +kernel
theorem dX11_farmer_10 : decode cX11_farmer 10 = .ok (.new 73, 3) := by decide +kernel
theorem dX11_farmer_13 : decode cX11_farmer 13 = .ok (.dup, 1) := by decide +kernel
theorem dX11_farmer_14 : decode cX11_farmer 14 = .ok (.ldc 219, 2) := by decide +kernel
theorem dX11_farmer_16 : decode cX11_farmer 16 = .ok (.invokespecial 77, 3) := by decide +kernel
theorem dX11_farmer_19 : decode cX11_farmer 19 = .ok (.athrow, 1) := by decide +kernel
theorem dX11_farmer_20 : decode cX11_farmer 20 = .ok (.aload_n 0, 1) := by decide +kernel
theorem dX11_farmer_21 : decode cX11_farmer 21 = .ok (.getfield 46, 3) := by decide +kernel
theorem dX11_farmer_24 : decode cX11_farmer 24 = .ok (.invokevirtual 80, 3) := by decide +kernel
theorem dX11_farmer_27 : decode cX11_farmer 27 = .ok (.bipush 8, 2) := by decide +kernel
theorem dX11_farmer_29 : decode cX11_farmer 29 = .ok (.if_icmp .lt 13, 3) := by decide +kernel
theorem dX11_farmer_32 : decode cX11_farmer 32 = .ok (.new 84, 3) := by decide +kernel
theorem dX11_farmer_35 : decode cX11_farmer 35 = .ok (.dup, 1) := by decide +kernel
theorem dX11_farmer_36 : decode cX11_farmer 36 = .ok (.ldc 221, 2) := by decide +kernel
theorem dX11_farmer_38 : decode cX11_farmer 38 = .ok (.invokespecial 88, 3) := by decide +kernel
theorem dX11_farmer_41 : decode cX11_farmer 41 = .ok (.athrow, 1) := by decide +kernel
theorem dX11_farmer_42 : decode cX11_farmer 42 = .ok (.aload_n 0, 1) := by decide +kernel
theorem dX11_farmer_43 : decode cX11_farmer 43 = .ok (.getfield 46, 3) := by decide +kernel
theorem dX11_farmer_46 : decode cX11_farmer 46 = .ok (.new 223, 3) := by decide +kernel
theorem dX11_farmer_49 : decode cX11_farmer 49 = .ok (.dup, 1) := by decide +kernel
theorem dX11_farmer_50 : decode cX11_farmer 50 = .ok (.aload_n 0, 1) := by decide +kernel
theorem dX11_farmer_51 : decode cX11_farmer 51 = .ok (.getfield 46, 3) := by decide +kernel
theorem dX11_farmer_54 : decode cX11_farmer 54 = .ok (.invokevirtual 80, 3) := by decide +kernel
theorem dX11_farmer_57 : decode cX11_farmer 57 = .ok (.iload_n 1, 1) := by decide +kernel
theorem dX11_farmer_58 : decode cX11_farmer 58 = .ok (.invokespecial 225, 3) := by decide +kernel
theorem dX11_farmer_61 : decode cX11_farmer 61 = .ok (.invokevirtual 100, 3) := by decide +kernel
theorem dX11_farmer_64 : decode cX11_farmer 64 = .ok (.pop, 1) := by decide +kernel
theorem dX11_farmer_65 : decode cX11_farmer 65 = .ok (.aload_n 0, 1) := by decide +kernel
theorem dX11_farmer_66 : decode cX11_farmer 66 = .ok (.getfield 46, 3) := by decide +kernel
theorem dX11_farmer_69 : decode cX11_farmer 69 = .ok (.invokevirtual 80, 3) := by decide +kernel
theorem dX11_farmer_72 : decode cX11_farmer 72 = .ok (.iconst 1, 1) := by decide +kernel
theorem dX11_farmer_73 : decode cX11_farmer 73 = .ok (.isub, 1) := by decide +kernel
theorem dX11_farmer_74 : decode cX11_farmer 74 = .ok (.ireturn, 1) := by decide +kernel
theorem dX11_bid_0 : decode cX11_bid 0 = .ok (.iload_n 1, 1) := by decide +kernel
theorem dX11_bid_1 : decode cX11_bid 1 = .ok (.ifCond .lt 14, 3) := by decide +kernel
theorem dX11_bid_4 : decode cX11_bid 4 = .ok (.iload_n 1, 1) := by decide +kernel
theorem dX11_bid_5 : decode cX11_bid 5 = .ok (.aload_n 0, 1) := by decide +kernel
theorem dX11_bid_6 : decode cX11_bid 6 = .ok (.getfield 40, 3) := by decide +kernel
theorem dX11_bid_9 : decode cX11_bid 9 = .ok (.invokevirtual 80, 3) := by decide +kernel
theorem dX11_bid_12 : decode cX11_bid 12 = .ok (.if_icmp .lt 13, 3) := by decide +kernel
theorem dX11_bid_15 : decode cX11_bid 15 = .ok (.new 116, 3) := by decide +kernel
theorem dX11_bid_18 : decode cX11_bid 18 = .ok (.dup, 1) := by decide +kernel
theorem dX11_bid_19 : decode cX11_bid 19 = .ok (.ldc 141, 2) := by decide +kernel
theorem dX11_bid_21 : decode cX11_bid 21 = .ok (.invokespecial 120, 3) := by decide +kernel
theorem dX11_bid_24 : decode cX11_bid 24 = .ok (.athrow, 1) := by decide +kernel
theorem dX11_bid_25 : decode cX11_bid 25 = .ok (.iload_n 2, 1) := by decide +kernel
theorem dX11_bid_26 : decode cX11_bid 26 = .ok (.ifCond .lt 14, 3) := by decide +kernel
theorem dX11_bid_29 : decode cX11_bid 29 = .ok (.iload_n 2, 1) := by decide +kernel
theorem dX11_bid_30 : decode cX11_bid 30 = .ok (.aload_n 0, 1) := by decide +kernel
theorem dX11_bid_31 : decode cX11_bid 31 = .ok (.getfield 46, 3) := by decide +kernel
theorem dX11_bid_34 : decode cX11_bid 34 = .ok (.invokevirtual 80, 3) := by decide +kernel
theorem dX11_bid_37 : decode cX11_bid 37 = .ok (.if_icmp .lt 13, 3) := by decide +kernel
theorem dX11_bid_40 : decode cX11_bid 40 = .ok (.new 116, 3) := by decide +kernel
theorem dX11_bid_43 : decode cX11_bid 43 = .ok (.dup, 1) := by decide +kernel
theorem dX11_bid_44 : decode cX11_bid 44 = .ok (.ldc 226, 2) := by decide +kernel
theorem dX11_bid_46 : decode cX11_bid 46 = .ok (.invokespecial 120, 3) := by decide +kernel
theorem dX11_bid_49 : decode cX11_bid 49 = .ok (.athrow, 1) := by decide +kernel
theorem dX11_bid_50 : decode cX11_bid 50 = .ok (.iload_n 3, 1) := by decide +kernel
theorem dX11_bid_51 : decode cX11_bid 51 = .ok (.iconst 1, 1) := by decide +kernel
theorem dX11_bid_52 : decode cX11_bid 52 = .ok (.ldc 228, 2) := by decide +kernel
theorem dX11_bid_54 : decode cX11_bid 54 = .ok (.invokestatic 69, 3) := by decide +kernel
theorem dX11_bid_57 : decode cX11_bid 57 = .ok (.ifCond .eq 14, 3) := by decide +kernel
theorem dX11_bid_60 : decode cX11_bid 60 = .ok (.iload 4, 2) := by decide +kernel
theorem dX11_bid_62 : decode cX11_bid 62 = .ok (.iconst 1, 1) := by decide +kernel
theorem dX11_bid_63 : decode cX11_bid 63 = .ok (.ldc 228, 2) := by decide +kernel
theorem dX11_bid_65 : decode cX11_bid 65 = .ok (.invokestatic 69, 3) := by decide +kernel
theorem dX11_bid_68 : decode cX11_bid 68 = .ok (.ifCond .ne 13, 3) := by decide +kernel
theorem dX11_bid_71 : decode cX11_bid 71 = .ok (.new 73, 3) := by decide +kernel
theorem dX11_bid_74 : decode cX11_bid 74 = .ok (.dup, 1) := by decide +kernel
theorem dX11_bid_75 : decode cX11_bid 75 = .ok (.ldc 229, 2) := by decide +kernel
theorem dX11_bid_77 : decode cX11_bid 77 = .ok (.invokespecial 77, 3) := by decide +kernel
theorem dX11_bid_80 : decode cX11_bid 80 = .ok (.athrow, 1) := by decide +kernel
theorem dX11_bid_81 : decode cX11_bid 81 = .ok (.aload_n 0, 1) := by decide +kernel
theorem dX11_bid_82 : decode cX11_bid 82 = .ok (.getfield 40, 3) := by decide +kernel
theorem dX11_bid_85 : decode cX11_bid 85 = .ok (.iload_n 1, 1) := by decide +kernel
theorem dX11_bid_86 : decode cX11_bid 86 = .ok (.invokevirtual 125, 3) := by decide +kernel
theorem dX11_bid_89 : decode cX11_bid 89 = .ok (.checkcast 123, 3) := by decide +kernel
theorem dX11_bid_92 : decode cX11_bid 92 = .ok (.astore 5, 2) := by decide +kernel
theorem dX11_bid_94 : decode cX11_bid 94 = .ok (.aload 5, 2) := by decide +kernel
theorem dX11_bid_96 : decode cX11_bid 96 = .ok (.getfield 231, 3) := by decide +kernel
theorem dX11_bid_99 : decode cX11_bid 99 = .ok (.ifnonnull 16, 3) := by decide +kernel
theorem dX11_bid_102 : decode cX11_bid 102 = .ok (.aload 5, 2) := by decide +kernel
theorem dX11_bid_104 : decode cX11_bid 104 = .ok (.getfield 235, 3) := by decide +kernel
theorem dX11_bid_107 : decode cX11_bid 107 = .ok (.invokevirtual 80, 3) := by decide +kernel
theorem dX11_bid_110 : decode cX11_bid 110 = .ok (.bipush 10, 2) := by decide +kernel
theorem dX11_bid_112 : decode cX11_bid 112 = .ok (.if_icmp .lt 13, 3) := by decide +kernel
theorem dX11_bid_115 : decode cX11_bid 115 = .ok (.new 84, 3) := by decide +kernel
theorem dX11_bid_118 : decode cX11_bid 118 = .ok (.dup, 1) := by decide +kernel
theorem dX11_bid_119 : decode cX11_bid 119 = .ok (.ldc 238, 2) := by decide +kernel
theorem dX11_bid_121 : decode cX11_bid 121 = .ok (.invokespecial 88, 3) := by decide +kernel
theorem dX11_bid_124 : decode cX11_bid 124 = .ok (.athrow, 1) := by decide +kernel
theorem dX11_bid_125 : decode cX11_bid 125 = .ok (.aload 5, 2) := by decide +kernel
theorem dX11_bid_127 : decode cX11_bid 127 = .ok (.getfield 235, 3) := by decide +kernel
theorem dX11_bid_130 : decode cX11_bid 130 = .ok (.new 240, 3) := by decide +kernel
theorem dX11_bid_133 : decode cX11_bid 133 = .ok (.dup, 1) := by decide +kernel
theorem dX11_bid_134 : decode cX11_bid 134 = .ok (.aload_n 0, 1) := by decide +kernel
theorem dX11_bid_135 : decode cX11_bid 135 = .ok (.getfield 46, 3) := by decide +kernel
theorem dX11_bid_138 : decode cX11_bid 138 = .ok (.iload_n 2, 1) := by decide +kernel
theorem dX11_bid_139 : decode cX11_bid 139 = .ok (.invokevirtual 125, 3) := by decide +kernel
theorem dX11_bid_142 : decode cX11_bid 142 = .ok (.checkcast 223, 3) := by decide +kernel
theorem dX11_bid_145 : decode cX11_bid 145 = .ok (.iload_n 3, 1) := by decide +kernel
theorem dX11_bid_146 : decode cX11_bid 146 = .ok (.iload 4, 2) := by decide +kernel
theorem dX11_bid_148 : decode cX11_bid 148 = .ok (.invokespecial 242, 3) := by decide +kernel
theorem dX11_bid_151 : decode cX11_bid 151 = .ok (.invokevirtual 100, 3) := by decide +kernel
theorem dX11_bid_154 : decode cX11_bid 154 = .ok (.pop, 1) := by decide +kernel
theorem dX11_bid_155 : decode cX11_bid 155 = .ok (.aload 5, 2) := by decide +kernel
theorem dX11_bid_157 : decode cX11_bid 157 = .ok (.getfield 235, 3) := by decide +kernel
theorem dX11_bid_160 : decode cX11_bid 160 = .ok (.invokevirtual 80, 3) := by decide +kernel
theorem dX11_bid_163 : decode cX11_bid 163 = .ok (.ireturn, 1) := by decide +kernel
theorem dX11_let_0 : decode cX11_let 0 = .ok (.iload_n 1, 1) := by decide +kernel
theorem dX11_let_1 : decode cX11_let 1 = .ok (.ifCond .lt 14, 3) := by decide +kernel
theorem dX11_let_4 : decode cX11_let 4 = .ok (.iload_n 1, 1) := by decide +kernel
theorem dX11_let_5 : decode cX11_let 5 = .ok (.aload_n 0, 1) := by decide +kernel
theorem dX11_let_6 : decode cX11_let 6 = .ok (.getfield 40, 3) := by decide +kernel
theorem dX11_let_9 : decode cX11_let 9 = .ok (.invokevirtual 80, 3) := by decide +kernel
theorem dX11_let_12 : decode cX11_let 12 = .ok (.if_icmp .lt 13, 3) := by decide +kernel
theorem dX11_let_15 : decode cX11_let 15 = .ok (.new 116, 3) := by decide +kernel
theorem dX11_let_18 : decode cX11_let 18 = .ok (.dup, 1) := by decide +kernel
theorem dX11_let_19 : decode cX11_let 19 = .ok (.ldc 141, 2) := by decide +kernel
theorem dX11_let_21 : decode cX11_let 21 = .ok (.invokespecial 120, 3) := by decide +kernel
theorem dX11_let_24 : decode cX11_let 24 = .ok (.athrow, 1) := by decide +kernel
theorem dX11_let_25 : decode cX11_let 25 = .ok (.iload_n 2, 1) := by decide +kernel
theorem dX11_let_26 : decode cX11_let 26 = .ok (.iconst 1, 1) := by decide +kernel
theorem dX11_let_27 : decode cX11_let 27 = .ok (.bipush 40, 2) := by decide +kernel
theorem dX11_let_29 : decode cX11_let 29 = .ok (.invokestatic 69, 3) := by decide +kernel
theorem dX11_let_32 : decode cX11_let 32 = .ok (.ifCond .ne 13, 3) := by decide +kernel
theorem dX11_let_35 : decode cX11_let 35 = .ok (.new 73, 3) := by decide +kernel
theorem dX11_let_38 : decode cX11_let 38 = .ok (.dup, 1) := by decide +kernel
theorem dX11_let_39 : decode cX11_let 39 = .ok (.ldc 245, 2) := by decide +kernel
theorem dX11_let_41 : decode cX11_let 41 = .ok (.invokespecial 77, 3) := by decide +kernel
theorem dX11_let_44 : decode cX11_let 44 = .ok (.athrow, 1) := by decide +kernel
theorem dX11_let_45 : decode cX11_let 45 = .ok (.aload_n 0, 1) := by decide +kernel
theorem dX11_let_46 : decode cX11_let 46 = .ok (.getfield 40, 3) := by decide +kernel
theorem dX11_let_49 : decode cX11_let 49 = .ok (.iload_n 1, 1) := by decide +kernel
theorem dX11_let_50 : decode cX11_let 50 = .ok (.invokevirtual 125, 3) := by decide +kernel
theorem dX11_let_53 : decode cX11_let 53 = .ok (.checkcast 123, 3) := by decide +kernel
theorem dX11_let_56 : decode cX11_let 56 = .ok (.astore_n 3, 1) := by decide +kernel
theorem dX11_let_57 : decode cX11_let 57 = .ok (.aload_n 3, 1) := by decide +kernel
theorem dX11_let_58 : decode cX11_let 58 = .ok (.getfield 231, 3) := by decide +kernel
theorem dX11_let_61 : decode cX11_let 61 = .ok (.ifnull 13, 3) := by decide +kernel
theorem dX11_let_64 : decode cX11_let 64 = .ok (.new 84, 3) := by decide +kernel
theorem dX11_let_67 : decode cX11_let 67 = .ok (.dup, 1) := by decide +kernel
theorem dX11_let_68 : decode cX11_let 68 = .ok (.ldc 247, 2) := by decide +kernel
theorem dX11_let_70 : decode cX11_let 70 = .ok (.invokespecial 88, 3) := by decide +kernel
theorem dX11_let_73 : decode cX11_let 73 = .ok (.athrow, 1) := by decide +kernel
theorem dX11_let_74 : decode cX11_let 74 = .ok (.aload_n 3, 1) := by decide +kernel
theorem dX11_let_75 : decode cX11_let 75 = .ok (.invokevirtual 249, 3) := by decide +kernel
theorem dX11_let_78 : decode cX11_let 78 = .ok (.astore 4, 2) := by decide +kernel
theorem dX11_let_80 : decode cX11_let 80 = .ok (.aload 4, 2) := by decide +kernel
theorem dX11_let_82 : decode cX11_let 82 = .ok (.ifnonnull 5, 3) := by decide +kernel
theorem dX11_let_85 : decode cX11_let 85 = .ok (.iconst (-1), 1) := by decide +kernel
theorem dX11_let_86 : decode cX11_let 86 = .ok (.ireturn, 1) := by decide +kernel
theorem dX11_let_87 : decode cX11_let 87 = .ok (.aload_n 3, 1) := by decide +kernel
theorem dX11_let_88 : decode cX11_let 88 = .ok (.aload 4, 2) := by decide +kernel
theorem dX11_let_90 : decode cX11_let 90 = .ok (.iload_n 2, 1) := by decide +kernel
theorem dX11_let_91 : decode cX11_let 91 = .ok (.aload_n 0, 1) := by decide +kernel
theorem dX11_let_92 : decode cX11_let 92 = .ok (.getfield 52, 3) := by decide +kernel
theorem dX11_let_95 : decode cX11_let 95 = .ok (.invokevirtual 253, 3) := by decide +kernel
theorem dX11_let_98 : decode cX11_let 98 = .ok (.aload_n 0, 1) := by decide +kernel
theorem dX11_let_99 : decode cX11_let 99 = .ok (.aload_n 3, 1) := by decide +kernel
theorem dX11_let_100 : decode cX11_let 100 = .ok (.invokevirtual 257, 3) := by decide +kernel
theorem dX11_let_103 : decode cX11_let 103 = .ok (.aload 4, 2) := by decide +kernel
theorem dX11_let_105 : decode cX11_let 105 = .ok (.getfield 261, 3) := by decide +kernel
theorem dX11_let_108 : decode cX11_let 108 = .ok (.getfield 264, 3) := by decide +kernel
theorem dX11_let_111 : decode cX11_let 111 = .ok (.ireturn, 1) := by decide +kernel
theorem dX11_gateTold_0 : decode cX11_gateTold 0 = .ok (.iload_n 1, 1) := by decide +kernel
theorem dX11_gateTold_1 : decode cX11_gateTold 1 = .ok (.ifCond .lt 14, 3) := by decide +kernel
theorem dX11_gateTold_4 : decode cX11_gateTold 4 = .ok (.iload_n 1, 1) := by decide +kernel
theorem dX11_gateTold_5 : decode cX11_gateTold 5 = .ok (.aload_n 0, 1) := by decide +kernel
theorem dX11_gateTold_6 : decode cX11_gateTold 6 = .ok (.getfield 40, 3) := by decide +kernel
theorem dX11_gateTold_9 : decode cX11_gateTold 9 = .ok (.invokevirtual 80, 3) := by decide +kernel
theorem dX11_gateTold_12 : decode cX11_gateTold 12 = .ok (.if_icmp .lt 13, 3) := by decide +kernel
theorem dX11_gateTold_15 : decode cX11_gateTold 15 = .ok (.new 116, 3) := by decide +kernel
theorem dX11_gateTold_18 : decode cX11_gateTold 18 = .ok (.dup, 1) := by decide +kernel
theorem dX11_gateTold_19 : decode cX11_gateTold 19 = .ok (.ldc 141, 2) := by decide +kernel
theorem dX11_gateTold_21 : decode cX11_gateTold 21 = .ok (.invokespecial 120, 3) := by decide +kernel
theorem dX11_gateTold_24 : decode cX11_gateTold 24 = .ok (.athrow, 1) := by decide +kernel
theorem dX11_gateTold_25 : decode cX11_gateTold 25 = .ok (.aload_n 0, 1) := by decide +kernel
theorem dX11_gateTold_26 : decode cX11_gateTold 26 = .ok (.getfield 40, 3) := by decide +kernel
theorem dX11_gateTold_29 : decode cX11_gateTold 29 = .ok (.iload_n 1, 1) := by decide +kernel
theorem dX11_gateTold_30 : decode cX11_gateTold 30 = .ok (.invokevirtual 125, 3) := by decide +kernel
theorem dX11_gateTold_33 : decode cX11_gateTold 33 = .ok (.checkcast 123, 3) := by decide +kernel
theorem dX11_gateTold_36 : decode cX11_gateTold 36 = .ok (.astore_n 3, 1) := by decide +kernel
theorem dX11_gateTold_37 : decode cX11_gateTold 37 = .ok (.iload_n 2, 1) := by decide +kernel
theorem dX11_gateTold_38 : decode cX11_gateTold 38 = .ok (.tableswitch 97 0 6 #[42, 50, 69, 74, 79, 84, 92], 42) := by decide +kernel
theorem dX11_gateTold_80 : decode cX11_gateTold 80 = .ok (.aload_n 3, 1) := by decide +kernel
theorem dX11_gateTold_81 : decode cX11_gateTold 81 = .ok (.getfield 168, 3) := by decide +kernel
theorem dX11_gateTold_84 : decode cX11_gateTold 84 = .ok (.getfield 211, 3) := by decide +kernel
theorem dX11_gateTold_87 : decode cX11_gateTold 87 = .ok (.ireturn, 1) := by decide +kernel
theorem dX11_gateTold_88 : decode cX11_gateTold 88 = .ok (.aload_n 3, 1) := by decide +kernel
theorem dX11_gateTold_89 : decode cX11_gateTold 89 = .ok (.getfield 231, 3) := by decide +kernel
theorem dX11_gateTold_92 : decode cX11_gateTold 92 = .ok (.ifnonnull 7, 3) := by decide +kernel
theorem dX11_gateTold_95 : decode cX11_gateTold 95 = .ok (.iconst (-1), 1) := by decide +kernel
theorem dX11_gateTold_96 : decode cX11_gateTold 96 = .ok (.goto 10, 3) := by decide +kernel
theorem dX11_gateTold_99 : decode cX11_gateTold 99 = .ok (.aload_n 3, 1) := by decide +kernel
theorem dX11_gateTold_100 : decode cX11_gateTold 100 = .ok (.getfield 231, 3) := by decide +kernel
theorem dX11_gateTold_103 : decode cX11_gateTold 103 = .ok (.getfield 264, 3) := by decide +kernel
theorem dX11_gateTold_106 : decode cX11_gateTold 106 = .ok (.ireturn, 1) := by decide +kernel
theorem dX11_gateTold_107 : decode cX11_gateTold 107 = .ok (.aload_n 3, 1) := by decide +kernel
theorem dX11_gateTold_108 : decode cX11_gateTold 108 = .ok (.getfield 265, 3) := by decide +kernel
theorem dX11_gateTold_111 : decode cX11_gateTold 111 = .ok (.ireturn, 1) := by decide +kernel
theorem dX11_gateTold_112 : decode cX11_gateTold 112 = .ok (.aload_n 3, 1) := by decide +kernel
theorem dX11_gateTold_113 : decode cX11_gateTold 113 = .ok (.getfield 268, 3) := by decide +kernel
theorem dX11_gateTold_116 : decode cX11_gateTold 116 = .ok (.ireturn, 1) := by decide +kernel
theorem dX11_gateTold_117 : decode cX11_gateTold 117 = .ok (.aload_n 3, 1) := by decide +kernel
theorem dX11_gateTold_118 : decode cX11_gateTold 118 = .ok (.getfield 271, 3) := by decide +kernel
theorem dX11_gateTold_121 : decode cX11_gateTold 121 = .ok (.ireturn, 1) := by decide +kernel
theorem dX11_gateTold_122 : decode cX11_gateTold 122 = .ok (.aload_n 3, 1) := by decide +kernel
theorem dX11_gateTold_123 : decode cX11_gateTold 123 = .ok (.getfield 235, 3) := by decide +kernel
theorem dX11_gateTold_126 : decode cX11_gateTold 126 = .ok (.invokevirtual 80, 3) := by decide +kernel
theorem dX11_gateTold_129 : decode cX11_gateTold 129 = .ok (.ireturn, 1) := by decide +kernel
theorem dX11_gateTold_130 : decode cX11_gateTold 130 = .ok (.aload_n 3, 1) := by decide +kernel
theorem dX11_gateTold_131 : decode cX11_gateTold 131 = .ok (.getfield 165, 3) := by decide +kernel
theorem dX11_gateTold_134 : decode cX11_gateTold 134 = .ok (.ireturn, 1) := by decide +kernel
theorem dX11_gateTold_135 : decode cX11_gateTold 135 = .ok (.new 73, 3) := by decide +kernel
theorem dX11_gateTold_138 : decode cX11_gateTold 138 = .ok (.dup, 1) := by decide +kernel
theorem dX11_gateTold_139 : decode cX11_gateTold 139 = .ok (.ldc_w 274, 3) := by decide +kernel
theorem dX11_gateTold_142 : decode cX11_gateTold 142 = .ok (.invokespecial 77, 3) := by decide +kernel
theorem dX11_gateTold_145 : decode cX11_gateTold 145 = .ok (.athrow, 1) := by decide +kernel
theorem dX11_borrow_0 : decode cX11_borrow 0 = .ok (.iload_n 1, 1) := by decide +kernel
theorem dX11_borrow_1 : decode cX11_borrow 1 = .ok (.iconst 1, 1) := by decide +kernel
theorem dX11_borrow_2 : decode cX11_borrow 2 = .ok (.ldc 228, 2) := by decide +kernel
theorem dX11_borrow_4 : decode cX11_borrow 4 = .ok (.invokestatic 69, 3) := by decide +kernel
theorem dX11_borrow_7 : decode cX11_borrow 7 = .ok (.ifCond .eq 23, 3) := by decide +kernel
theorem dX11_borrow_10 : decode cX11_borrow 10 = .ok (.iload_n 2, 1) := by decide +kernel
theorem dX11_borrow_11 : decode cX11_borrow 11 = .ok (.iconst 0, 1) := by decide +kernel
theorem dX11_borrow_12 : decode cX11_borrow 12 = .ok (.sipush 500, 3) := by decide +kernel
theorem dX11_borrow_15 : decode cX11_borrow 15 = .ok (.invokestatic 69, 3) := by decide +kernel
theorem dX11_borrow_18 : decode cX11_borrow 18 = .ok (.ifCond .eq 12, 3) := by decide +kernel
theorem dX11_borrow_21 : decode cX11_borrow 21 = .ok (.iload_n 3, 1) := by decide +kernel
theorem dX11_borrow_22 : decode cX11_borrow 22 = .ok (.iconst 0, 1) := by decide +kernel
theorem dX11_borrow_23 : decode cX11_borrow 23 = .ok (.iconst 3, 1) := by decide +kernel
theorem dX11_borrow_24 : decode cX11_borrow 24 = .ok (.invokestatic 69, 3) := by decide +kernel
theorem dX11_borrow_27 : decode cX11_borrow 27 = .ok (.ifCond .ne 14, 3) := by decide +kernel
theorem dX11_borrow_30 : decode cX11_borrow 30 = .ok (.new 73, 3) := by decide +kernel
theorem dX11_borrow_33 : decode cX11_borrow 33 = .ok (.dup, 1) := by decide +kernel
theorem dX11_borrow_34 : decode cX11_borrow 34 = .ok (.ldc_w 276, 3) := by decide +kernel
theorem dX11_borrow_37 : decode cX11_borrow 37 = .ok (.invokespecial 77, 3) := by decide +kernel
theorem dX11_borrow_40 : decode cX11_borrow 40 = .ok (.athrow, 1) := by decide +kernel
theorem dX11_borrow_41 : decode cX11_borrow 41 = .ok (.aload_n 0, 1) := by decide +kernel
theorem dX11_borrow_42 : decode cX11_borrow 42 = .ok (.getfield 49, 3) := by decide +kernel
theorem dX11_borrow_45 : decode cX11_borrow 45 = .ok (.invokevirtual 80, 3) := by decide +kernel
theorem dX11_borrow_48 : decode cX11_borrow 48 = .ok (.bipush 10, 2) := by decide +kernel
theorem dX11_borrow_50 : decode cX11_borrow 50 = .ok (.if_icmp .lt 14, 3) := by decide +kernel
theorem dX11_borrow_53 : decode cX11_borrow 53 = .ok (.new 84, 3) := by decide +kernel
theorem dX11_borrow_56 : decode cX11_borrow 56 = .ok (.dup, 1) := by decide +kernel
theorem dX11_borrow_57 : decode cX11_borrow 57 = .ok (.ldc_w 278, 3) := by decide +kernel
theorem dX11_borrow_60 : decode cX11_borrow 60 = .ok (.invokespecial 88, 3) := by decide +kernel
theorem dX11_borrow_63 : decode cX11_borrow 63 = .ok (.athrow, 1) := by decide +kernel
theorem dX11_borrow_64 : decode cX11_borrow 64 = .ok (.aload_n 0, 1) := by decide +kernel
theorem dX11_borrow_65 : decode cX11_borrow 65 = .ok (.getfield 49, 3) := by decide +kernel
theorem dX11_borrow_68 : decode cX11_borrow 68 = .ok (.invokevirtual 80, 3) := by decide +kernel
theorem dX11_borrow_71 : decode cX11_borrow 71 = .ok (.istore 4, 2) := by decide +kernel
theorem dX11_borrow_73 : decode cX11_borrow 73 = .ok (.aload_n 0, 1) := by decide +kernel
theorem dX11_borrow_74 : decode cX11_borrow 74 = .ok (.getfield 49, 3) := by decide +kernel
theorem dX11_borrow_77 : decode cX11_borrow 77 = .ok (.new 280, 3) := by decide +kernel
theorem dX11_borrow_80 : decode cX11_borrow 80 = .ok (.dup, 1) := by decide +kernel
theorem dX11_borrow_81 : decode cX11_borrow 81 = .ok (.iload_n 1, 1) := by decide +kernel
theorem dX11_borrow_82 : decode cX11_borrow 82 = .ok (.iload_n 2, 1) := by decide +kernel
theorem dX11_borrow_83 : decode cX11_borrow 83 = .ok (.iload_n 3, 1) := by decide +kernel
theorem dX11_borrow_84 : decode cX11_borrow 84 = .ok (.invokespecial 282, 3) := by decide +kernel
theorem dX11_borrow_87 : decode cX11_borrow 87 = .ok (.invokevirtual 100, 3) := by decide +kernel
theorem dX11_borrow_90 : decode cX11_borrow 90 = .ok (.pop, 1) := by decide +kernel
theorem dX11_borrow_91 : decode cX11_borrow 91 = .ok (.aload_n 0, 1) := by decide +kernel
theorem dX11_borrow_92 : decode cX11_borrow 92 = .ok (.getfield 26, 3) := by decide +kernel
theorem dX11_borrow_95 : decode cX11_borrow 95 = .ok (.aload_n 0, 1) := by decide +kernel
theorem dX11_borrow_96 : decode cX11_borrow 96 = .ok (.getfield 52, 3) := by decide +kernel
theorem dX11_borrow_99 : decode cX11_borrow 99 = .ok (.iconst 3, 1) := by decide +kernel
theorem dX11_borrow_100 : decode cX11_borrow 100 = .ok (.iload 4, 2) := by decide +kernel
theorem dX11_borrow_102 : decode cX11_borrow 102 = .ok (.iload_n 1, 1) := by decide +kernel
theorem dX11_borrow_103 : decode cX11_borrow 103 = .ok (.i2l, 1) := by decide +kernel
theorem dX11_borrow_104 : decode cX11_borrow 104 = .ok (.invokevirtual 214, 3) := by decide +kernel
theorem dX11_borrow_107 : decode cX11_borrow 107 = .ok (.iload 4, 2) := by decide +kernel
theorem dX11_borrow_109 : decode cX11_borrow 109 = .ok (.ireturn, 1) := by decide +kernel
theorem dX11_repay_0 : decode cX11_repay 0 = .ok (.iload_n 1, 1) := by decide +kernel
theorem dX11_repay_1 : decode cX11_repay 1 = .ok (.ifCond .lt 14, 3) := by decide +kernel
theorem dX11_repay_4 : decode cX11_repay 4 = .ok (.iload_n 1, 1) := by decide +kernel
theorem dX11_repay_5 : decode cX11_repay 5 = .ok (.aload_n 0, 1) := by decide +kernel
theorem dX11_repay_6 : decode cX11_repay 6 = .ok (.getfield 49, 3) := by decide +kernel
theorem dX11_repay_9 : decode cX11_repay 9 = .ok (.invokevirtual 80, 3) := by decide +kernel
theorem dX11_repay_12 : decode cX11_repay 12 = .ok (.if_icmp .lt 14, 3) := by decide +kernel
theorem dX11_repay_15 : decode cX11_repay 15 = .ok (.new 116, 3) := by decide +kernel
theorem dX11_repay_18 : decode cX11_repay 18 = .ok (.dup, 1) := by decide +kernel
theorem dX11_repay_19 : decode cX11_repay 19 = .ok (.ldc_w 276, 3) := by decide +kernel
theorem dX11_repay_22 : decode cX11_repay 22 = .ok (.invokespecial 120, 3) := by decide +kernel
theorem dX11_repay_25 : decode cX11_repay 25 = .ok (.athrow, 1) := by decide +kernel
theorem dX11_repay_26 : decode cX11_repay 26 = .ok (.iload_n 2, 1) := by decide +kernel
theorem dX11_repay_27 : decode cX11_repay 27 = .ok (.iconst 1, 1) := by decide +kernel
theorem dX11_repay_28 : decode cX11_repay 28 = .ok (.if_icmp .ge 14, 3) := by decide +kernel
theorem dX11_repay_31 : decode cX11_repay 31 = .ok (.new 73, 3) := by decide +kernel
theorem dX11_repay_34 : decode cX11_repay 34 = .ok (.dup, 1) := by decide +kernel
theorem dX11_repay_35 : decode cX11_repay 35 = .ok (.ldc_w 284, 3) := by decide +kernel
theorem dX11_repay_38 : decode cX11_repay 38 = .ok (.invokespecial 77, 3) := by decide +kernel
theorem dX11_repay_41 : decode cX11_repay 41 = .ok (.athrow, 1) := by decide +kernel
theorem dX11_repay_42 : decode cX11_repay 42 = .ok (.aload_n 0, 1) := by decide +kernel
theorem dX11_repay_43 : decode cX11_repay 43 = .ok (.getfield 49, 3) := by decide +kernel
theorem dX11_repay_46 : decode cX11_repay 46 = .ok (.iload_n 1, 1) := by decide +kernel
theorem dX11_repay_47 : decode cX11_repay 47 = .ok (.invokevirtual 125, 3) := by decide +kernel
theorem dX11_repay_50 : decode cX11_repay 50 = .ok (.checkcast 280, 3) := by decide +kernel
theorem dX11_repay_53 : decode cX11_repay 53 = .ok (.astore_n 3, 1) := by decide +kernel
theorem dX11_repay_54 : decode cX11_repay 54 = .ok (.aload_n 3, 1) := by decide +kernel
theorem dX11_repay_55 : decode cX11_repay 55 = .ok (.getfield 286, 3) := by decide +kernel
theorem dX11_repay_58 : decode cX11_repay 58 = .ok (.iload_n 2, 1) := by decide +kernel
theorem dX11_repay_59 : decode cX11_repay 59 = .ok (.if_icmp .lt 16, 3) := by decide +kernel
theorem dX11_repay_62 : decode cX11_repay 62 = .ok (.aload_n 0, 1) := by decide +kernel
theorem dX11_repay_63 : decode cX11_repay 63 = .ok (.getfield 26, 3) := by decide +kernel
theorem dX11_repay_66 : decode cX11_repay 66 = .ok (.getfield 201, 3) := by decide +kernel
theorem dX11_repay_69 : decode cX11_repay 69 = .ok (.iload_n 2, 1) := by decide +kernel
theorem dX11_repay_70 : decode cX11_repay 70 = .ok (.i2l, 1) := by decide +kernel
theorem dX11_repay_71 : decode cX11_repay 71 = .ok (.lcmp, 1) := by decide +kernel
theorem dX11_repay_72 : decode cX11_repay 72 = .ok (.ifCond .ge 5, 3) := by decide +kernel
theorem dX11_repay_75 : decode cX11_repay 75 = .ok (.iconst (-1), 1) := by decide +kernel
theorem dX11_repay_76 : decode cX11_repay 76 = .ok (.ireturn, 1) := by decide +kernel
theorem dX11_repay_77 : decode cX11_repay 77 = .ok (.aload_n 3, 1) := by decide +kernel
theorem dX11_repay_78 : decode cX11_repay 78 = .ok (.dup, 1) := by decide +kernel
theorem dX11_repay_79 : decode cX11_repay 79 = .ok (.getfield 286, 3) := by decide +kernel
theorem dX11_repay_82 : decode cX11_repay 82 = .ok (.iload_n 2, 1) := by decide +kernel
theorem dX11_repay_83 : decode cX11_repay 83 = .ok (.isub, 1) := by decide +kernel
theorem dX11_repay_84 : decode cX11_repay 84 = .ok (.putfield 286, 3) := by decide +kernel
theorem dX11_repay_87 : decode cX11_repay 87 = .ok (.aload_n 0, 1) := by decide +kernel
theorem dX11_repay_88 : decode cX11_repay 88 = .ok (.getfield 26, 3) := by decide +kernel
theorem dX11_repay_91 : decode cX11_repay 91 = .ok (.aload_n 0, 1) := by decide +kernel
theorem dX11_repay_92 : decode cX11_repay 92 = .ok (.getfield 52, 3) := by decide +kernel
theorem dX11_repay_95 : decode cX11_repay 95 = .ok (.iconst 5, 1) := by decide +kernel
theorem dX11_repay_96 : decode cX11_repay 96 = .ok (.iload_n 1, 1) := by decide +kernel
theorem dX11_repay_97 : decode cX11_repay 97 = .ok (.iload_n 2, 1) := by decide +kernel
theorem dX11_repay_98 : decode cX11_repay 98 = .ok (.ineg, 1) := by decide +kernel
theorem dX11_repay_99 : decode cX11_repay 99 = .ok (.i2l, 1) := by decide +kernel
theorem dX11_repay_100 : decode cX11_repay 100 = .ok (.invokevirtual 214, 3) := by decide +kernel
theorem dX11_repay_103 : decode cX11_repay 103 = .ok (.aload_n 3, 1) := by decide +kernel
theorem dX11_repay_104 : decode cX11_repay 104 = .ok (.getfield 286, 3) := by decide +kernel
theorem dX11_repay_107 : decode cX11_repay 107 = .ok (.ireturn, 1) := by decide +kernel
theorem dX11_loan_0 : decode cX11_loan 0 = .ok (.iload_n 1, 1) := by decide +kernel
theorem dX11_loan_1 : decode cX11_loan 1 = .ok (.ifCond .lt 14, 3) := by decide +kernel
theorem dX11_loan_4 : decode cX11_loan 4 = .ok (.iload_n 1, 1) := by decide +kernel
theorem dX11_loan_5 : decode cX11_loan 5 = .ok (.aload_n 0, 1) := by decide +kernel
theorem dX11_loan_6 : decode cX11_loan 6 = .ok (.getfield 49, 3) := by decide +kernel
theorem dX11_loan_9 : decode cX11_loan 9 = .ok (.invokevirtual 80, 3) := by decide +kernel
theorem dX11_loan_12 : decode cX11_loan 12 = .ok (.if_icmp .lt 14, 3) := by decide +kernel
theorem dX11_loan_15 : decode cX11_loan 15 = .ok (.new 116, 3) := by decide +kernel
theorem dX11_loan_18 : decode cX11_loan 18 = .ok (.dup, 1) := by decide +kernel
theorem dX11_loan_19 : decode cX11_loan 19 = .ok (.ldc_w 276, 3) := by decide +kernel
theorem dX11_loan_22 : decode cX11_loan 22 = .ok (.invokespecial 120, 3) := by decide +kernel
theorem dX11_loan_25 : decode cX11_loan 25 = .ok (.athrow, 1) := by decide +kernel
theorem dX11_loan_26 : decode cX11_loan 26 = .ok (.aload_n 0, 1) := by decide +kernel
theorem dX11_loan_27 : decode cX11_loan 27 = .ok (.getfield 49, 3) := by decide +kernel
theorem dX11_loan_30 : decode cX11_loan 30 = .ok (.iload_n 1, 1) := by decide +kernel
theorem dX11_loan_31 : decode cX11_loan 31 = .ok (.invokevirtual 125, 3) := by decide +kernel
theorem dX11_loan_34 : decode cX11_loan 34 = .ok (.checkcast 280, 3) := by decide +kernel
theorem dX11_loan_37 : decode cX11_loan 37 = .ok (.astore_n 3, 1) := by decide +kernel
theorem dX11_loan_38 : decode cX11_loan 38 = .ok (.iload_n 2, 1) := by decide +kernel
theorem dX11_loan_39 : decode cX11_loan 39 = .ok (.tableswitch 52 0 3 #[29, 35, 41, 47], 29) := by decide +kernel
theorem dX11_loan_68 : decode cX11_loan 68 = .ok (.aload_n 3, 1) := by decide +kernel
theorem dX11_loan_69 : decode cX11_loan 69 = .ok (.getfield 286, 3) := by decide +kernel
theorem dX11_loan_72 : decode cX11_loan 72 = .ok (.i2l, 1) := by decide +kernel
theorem dX11_loan_73 : decode cX11_loan 73 = .ok (.lreturn, 1) := by decide +kernel
theorem dX11_loan_74 : decode cX11_loan 74 = .ok (.aload_n 3, 1) := by decide +kernel
theorem dX11_loan_75 : decode cX11_loan 75 = .ok (.getfield 289, 3) := by decide +kernel
theorem dX11_loan_78 : decode cX11_loan 78 = .ok (.i2l, 1) := by decide +kernel
theorem dX11_loan_79 : decode cX11_loan 79 = .ok (.lreturn, 1) := by decide +kernel
theorem dX11_loan_80 : decode cX11_loan 80 = .ok (.aload_n 3, 1) := by decide +kernel
theorem dX11_loan_81 : decode cX11_loan 81 = .ok (.getfield 292, 3) := by decide +kernel
theorem dX11_loan_84 : decode cX11_loan 84 = .ok (.i2l, 1) := by decide +kernel
theorem dX11_loan_85 : decode cX11_loan 85 = .ok (.lreturn, 1) := by decide +kernel
theorem dX11_loan_86 : decode cX11_loan 86 = .ok (.aload_n 3, 1) := by decide +kernel
theorem dX11_loan_87 : decode cX11_loan 87 = .ok (.getfield 295, 3) := by decide +kernel
theorem dX11_loan_90 : decode cX11_loan 90 = .ok (.lreturn, 1) := by decide +kernel
theorem dX11_loan_91 : decode cX11_loan 91 = .ok (.new 73, 3) := by decide +kernel
theorem dX11_loan_94 : decode cX11_loan 94 = .ok (.dup, 1) := by decide +kernel
theorem dX11_loan_95 : decode cX11_loan 95 = .ok (.ldc_w 274, 3) := by decide +kernel
theorem dX11_loan_98 : decode cX11_loan 98 = .ok (.invokespecial 77, 3) := by decide +kernel
theorem dX11_loan_101 : decode cX11_loan 101 = .ok (.athrow, 1) := by decide +kernel
theorem dX11_money_0 : decode cX11_money 0 = .ok (.iload_n 1, 1) := by decide +kernel
theorem dX11_money_1 : decode cX11_money 1 = .ok (.ifCond .lt 14, 3) := by decide +kernel
theorem dX11_money_4 : decode cX11_money 4 = .ok (.iload_n 1, 1) := by decide +kernel
theorem dX11_money_5 : decode cX11_money 5 = .ok (.aload_n 0, 1) := by decide +kernel
theorem dX11_money_6 : decode cX11_money 6 = .ok (.getfield 46, 3) := by decide +kernel
theorem dX11_money_9 : decode cX11_money 9 = .ok (.invokevirtual 80, 3) := by decide +kernel
theorem dX11_money_12 : decode cX11_money 12 = .ok (.if_icmp .lt 13, 3) := by decide +kernel
theorem dX11_money_15 : decode cX11_money 15 = .ok (.new 116, 3) := by decide +kernel
theorem dX11_money_18 : decode cX11_money 18 = .ok (.dup, 1) := by decide +kernel
theorem dX11_money_19 : decode cX11_money 19 = .ok (.ldc 226, 2) := by decide +kernel
theorem dX11_money_21 : decode cX11_money 21 = .ok (.invokespecial 120, 3) := by decide +kernel
theorem dX11_money_24 : decode cX11_money 24 = .ok (.athrow, 1) := by decide +kernel
theorem dX11_money_25 : decode cX11_money 25 = .ok (.aload_n 0, 1) := by decide +kernel
theorem dX11_money_26 : decode cX11_money 26 = .ok (.getfield 46, 3) := by decide +kernel
theorem dX11_money_29 : decode cX11_money 29 = .ok (.iload_n 1, 1) := by decide +kernel
theorem dX11_money_30 : decode cX11_money 30 = .ok (.invokevirtual 125, 3) := by decide +kernel
theorem dX11_money_33 : decode cX11_money 33 = .ok (.checkcast 223, 3) := by decide +kernel
theorem dX11_money_36 : decode cX11_money 36 = .ok (.getfield 298, 3) := by decide +kernel
theorem dX11_money_39 : decode cX11_money 39 = .ok (.lreturn, 1) := by decide +kernel
theorem dX11_wear_0 : decode cX11_wear 0 = .ok (.iload_n 1, 1) := by decide +kernel
theorem dX11_wear_1 : decode cX11_wear 1 = .ok (.ifCond .lt 14, 3) := by decide +kernel
theorem dX11_wear_4 : decode cX11_wear 4 = .ok (.iload_n 1, 1) := by decide +kernel
theorem dX11_wear_5 : decode cX11_wear 5 = .ok (.aload_n 0, 1) := by decide +kernel
theorem dX11_wear_6 : decode cX11_wear 6 = .ok (.getfield 37, 3) := by decide +kernel
theorem dX11_wear_9 : decode cX11_wear 9 = .ok (.invokevirtual 80, 3) := by decide +kernel
theorem dX11_wear_12 : decode cX11_wear 12 = .ok (.if_icmp .lt 13, 3) := by decide +kernel
theorem dX11_wear_15 : decode cX11_wear 15 = .ok (.new 116, 3) := by decide +kernel
theorem dX11_wear_18 : decode cX11_wear 18 = .ok (.dup, 1) := by decide +kernel
theorem dX11_wear_19 : decode cX11_wear 19 = .ok (.ldc 118, 2) := by decide +kernel
theorem dX11_wear_21 : decode cX11_wear 21 = .ok (.invokespecial 120, 3) := by decide +kernel
theorem dX11_wear_24 : decode cX11_wear 24 = .ok (.athrow, 1) := by decide +kernel
theorem dX11_wear_25 : decode cX11_wear 25 = .ok (.aload_n 0, 1) := by decide +kernel
theorem dX11_wear_26 : decode cX11_wear 26 = .ok (.getfield 37, 3) := by decide +kernel
theorem dX11_wear_29 : decode cX11_wear 29 = .ok (.iload_n 1, 1) := by decide +kernel
theorem dX11_wear_30 : decode cX11_wear 30 = .ok (.invokevirtual 125, 3) := by decide +kernel
theorem dX11_wear_33 : decode cX11_wear 33 = .ok (.checkcast 111, 3) := by decide +kernel
theorem dX11_wear_36 : decode cX11_wear 36 = .ok (.getfield 172, 3) := by decide +kernel
theorem dX11_wear_39 : decode cX11_wear 39 = .ok (.lreturn, 1) := by decide +kernel
theorem dX11_box_0 : decode cX11_box 0 = .ok (.iload_n 1, 1) := by decide +kernel
theorem dX11_box_1 : decode cX11_box 1 = .ok (.iconst 0, 1) := by decide +kernel
theorem dX11_box_2 : decode cX11_box 2 = .ok (.sipush 9999, 3) := by decide +kernel
theorem dX11_box_5 : decode cX11_box 5 = .ok (.invokestatic 69, 3) := by decide +kernel
theorem dX11_box_8 : decode cX11_box 8 = .ok (.ifCond .ne 13, 3) := by decide +kernel
theorem dX11_box_11 : decode cX11_box 11 = .ok (.new 73, 3) := by decide +kernel
theorem dX11_box_14 : decode cX11_box 14 = .ok (.dup, 1) := by decide +kernel
theorem dX11_box_15 : decode cX11_box 15 = .ok (.ldc 186, 2) := by decide +kernel
theorem dX11_box_17 : decode cX11_box 17 = .ok (.invokespecial 77, 3) := by decide +kernel
theorem dX11_box_20 : decode cX11_box 20 = .ok (.athrow, 1) := by decide +kernel
theorem dX11_box_21 : decode cX11_box 21 = .ok (.iload_n 1, 1) := by decide +kernel
theorem dX11_box_22 : decode cX11_box 22 = .ok (.aload_n 0, 1) := by decide +kernel
theorem dX11_box_23 : decode cX11_box 23 = .ok (.getfield 52, 3) := by decide +kernel
theorem dX11_box_26 : decode cX11_box 26 = .ok (.if_icmp .lt 13, 3) := by decide +kernel
theorem dX11_box_29 : decode cX11_box 29 = .ok (.aload_n 0, 1) := by decide +kernel
theorem dX11_box_30 : decode cX11_box 30 = .ok (.getfield 26, 3) := by decide +kernel
theorem dX11_box_33 : decode cX11_box 33 = .ok (.getfield 201, 3) := by decide +kernel
theorem dX11_box_36 : decode cX11_box 36 = .ok (.goto 11, 3) := by decide +kernel
theorem dX11_box_39 : decode cX11_box 39 = .ok (.aload_n 0, 1) := by decide +kernel
theorem dX11_box_40 : decode cX11_box 40 = .ok (.getfield 26, 3) := by decide +kernel
theorem dX11_box_43 : decode cX11_box 43 = .ok (.iload_n 1, 1) := by decide +kernel
theorem dX11_box_44 : decode cX11_box 44 = .ok (.invokevirtual 301, 3) := by decide +kernel
theorem dX11_box_47 : decode cX11_box 47 = .ok (.lreturn, 1) := by decide +kernel
theorem dX11_journal_0 : decode cX11_journal 0 = .ok (.iload_n 1, 1) := by decide +kernel
theorem dX11_journal_1 : decode cX11_journal 1 = .ok (.ifCond .lt 14, 3) := by decide +kernel
theorem dX11_journal_4 : decode cX11_journal 4 = .ok (.iload_n 1, 1) := by decide +kernel
theorem dX11_journal_5 : decode cX11_journal 5 = .ok (.aload_n 0, 1) := by decide +kernel
theorem dX11_journal_6 : decode cX11_journal 6 = .ok (.getfield 26, 3) := by decide +kernel
theorem dX11_journal_9 : decode cX11_journal 9 = .ok (.getfield 305, 3) := by decide +kernel
theorem dX11_journal_12 : decode cX11_journal 12 = .ok (.if_icmp .lt 14, 3) := by decide +kernel
theorem dX11_journal_15 : decode cX11_journal 15 = .ok (.new 116, 3) := by decide +kernel
theorem dX11_journal_18 : decode cX11_journal 18 = .ok (.dup, 1) := by decide +kernel
theorem dX11_journal_19 : decode cX11_journal 19 = .ok (.ldc_w 308, 3) := by decide +kernel
theorem dX11_journal_22 : decode cX11_journal 22 = .ok (.invokespecial 120, 3) := by decide +kernel
theorem dX11_journal_25 : decode cX11_journal 25 = .ok (.athrow, 1) := by decide +kernel
theorem dX11_journal_26 : decode cX11_journal 26 = .ok (.iload_n 2, 1) := by decide +kernel
theorem dX11_journal_27 : decode cX11_journal 27 = .ok (.iconst 0, 1) := by decide +kernel
theorem dX11_journal_28 : decode cX11_journal 28 = .ok (.iconst 3, 1) := by decide +kernel
theorem dX11_journal_29 : decode cX11_journal 29 = .ok (.invokestatic 69, 3) := by decide +kernel
theorem dX11_journal_32 : decode cX11_journal 32 = .ok (.ifCond .ne 14, 3) := by decide +kernel
theorem dX11_journal_35 : decode cX11_journal 35 = .ok (.new 73, 3) := by decide +kernel
theorem dX11_journal_38 : decode cX11_journal 38 = .ok (.dup, 1) := by decide +kernel
theorem dX11_journal_39 : decode cX11_journal 39 = .ok (.ldc_w 274, 3) := by decide +kernel
theorem dX11_journal_42 : decode cX11_journal 42 = .ok (.invokespecial 77, 3) := by decide +kernel
theorem dX11_journal_45 : decode cX11_journal 45 = .ok (.athrow, 1) := by decide +kernel
theorem dX11_journal_46 : decode cX11_journal 46 = .ok (.aload_n 0, 1) := by decide +kernel
theorem dX11_journal_47 : decode cX11_journal 47 = .ok (.getfield 26, 3) := by decide +kernel
theorem dX11_journal_50 : decode cX11_journal 50 = .ok (.iload_n 1, 1) := by decide +kernel
theorem dX11_journal_51 : decode cX11_journal 51 = .ok (.iload_n 2, 1) := by decide +kernel
theorem dX11_journal_52 : decode cX11_journal 52 = .ok (.invokevirtual 310, 3) := by decide +kernel
theorem dX11_journal_55 : decode cX11_journal 55 = .ok (.lreturn, 1) := by decide +kernel
theorem dX11_count_0 : decode cX11_count 0 = .ok (.iload_n 1, 1) := by decide +kernel
theorem dX11_count_1 : decode cX11_count 1 = .ok (.tableswitch 129 0 9 #[55, 60, 68, 76, 84, 92, 100, 108, 116, 124], 55) := by decide +kernel
theorem dX11_count_56 : decode cX11_count 56 = .ok (.aload_n 0, 1) := by decide +kernel
theorem dX11_count_57 : decode cX11_count 57 = .ok (.getfield 52, 3) := by decide +kernel
theorem dX11_count_60 : decode cX11_count 60 = .ok (.ireturn, 1) := by decide +kernel
theorem dX11_count_61 : decode cX11_count 61 = .ok (.aload_n 0, 1) := by decide +kernel
theorem dX11_count_62 : decode cX11_count 62 = .ok (.getfield 33, 3) := by decide +kernel
theorem dX11_count_65 : decode cX11_count 65 = .ok (.invokevirtual 80, 3) := by decide +kernel
theorem dX11_count_68 : decode cX11_count 68 = .ok (.ireturn, 1) := by decide +kernel
theorem dX11_count_69 : decode cX11_count 69 = .ok (.aload_n 0, 1) := by decide +kernel
theorem dX11_count_70 : decode cX11_count 70 = .ok (.getfield 37, 3) := by decide +kernel
theorem dX11_count_73 : decode cX11_count 73 = .ok (.invokevirtual 80, 3) := by decide +kernel
theorem dX11_count_76 : decode cX11_count 76 = .ok (.ireturn, 1) := by decide +kernel
theorem dX11_count_77 : decode cX11_count 77 = .ok (.aload_n 0, 1) := by decide +kernel
theorem dX11_count_78 : decode cX11_count 78 = .ok (.getfield 40, 3) := by decide +kernel
theorem dX11_count_81 : decode cX11_count 81 = .ok (.invokevirtual 80, 3) := by decide +kernel
theorem dX11_count_84 : decode cX11_count 84 = .ok (.ireturn, 1) := by decide +kernel
theorem dX11_count_85 : decode cX11_count 85 = .ok (.aload_n 0, 1) := by decide +kernel
theorem dX11_count_86 : decode cX11_count 86 = .ok (.getfield 43, 3) := by decide +kernel
theorem dX11_count_89 : decode cX11_count 89 = .ok (.invokevirtual 80, 3) := by decide +kernel
theorem dX11_count_92 : decode cX11_count 92 = .ok (.ireturn, 1) := by decide +kernel
theorem dX11_count_93 : decode cX11_count 93 = .ok (.aload_n 0, 1) := by decide +kernel
theorem dX11_count_94 : decode cX11_count 94 = .ok (.getfield 46, 3) := by decide +kernel
theorem dX11_count_97 : decode cX11_count 97 = .ok (.invokevirtual 80, 3) := by decide +kernel
theorem dX11_count_100 : decode cX11_count 100 = .ok (.ireturn, 1) := by decide +kernel
theorem dX11_count_101 : decode cX11_count 101 = .ok (.aload_n 0, 1) := by decide +kernel
theorem dX11_count_102 : decode cX11_count 102 = .ok (.getfield 49, 3) := by decide +kernel
theorem dX11_count_105 : decode cX11_count 105 = .ok (.invokevirtual 80, 3) := by decide +kernel
theorem dX11_count_108 : decode cX11_count 108 = .ok (.ireturn, 1) := by decide +kernel
theorem dX11_count_109 : decode cX11_count 109 = .ok (.aload_n 0, 1) := by decide +kernel
theorem dX11_count_110 : decode cX11_count 110 = .ok (.getfield 26, 3) := by decide +kernel
theorem dX11_count_113 : decode cX11_count 113 = .ok (.getfield 305, 3) := by decide +kernel
theorem dX11_count_116 : decode cX11_count 116 = .ok (.ireturn, 1) := by decide +kernel
theorem dX11_count_117 : decode cX11_count 117 = .ok (.aload_n 0, 1) := by decide +kernel
theorem dX11_count_118 : decode cX11_count 118 = .ok (.getfield 10, 3) := by decide +kernel
theorem dX11_count_121 : decode cX11_count 121 = .ok (.getfield 62, 3) := by decide +kernel
theorem dX11_count_124 : decode cX11_count 124 = .ok (.ireturn, 1) := by decide +kernel
theorem dX11_count_125 : decode cX11_count 125 = .ok (.aload_n 0, 1) := by decide +kernel
theorem dX11_count_126 : decode cX11_count 126 = .ok (.invokevirtual 176, 3) := by decide +kernel
theorem dX11_count_129 : decode cX11_count 129 = .ok (.ireturn, 1) := by decide +kernel
theorem dX11_count_130 : decode cX11_count 130 = .ok (.iconst (-1), 1) := by decide +kernel
theorem dX11_count_131 : decode cX11_count 131 = .ok (.ireturn, 1) := by decide +kernel
theorem dX11_isWithin_0 : decode cX11_isWithin 0 = .ok (.iload_n 0, 1) := by decide +kernel
theorem dX11_isWithin_1 : decode cX11_isWithin 1 = .ok (.iload_n 1, 1) := by decide +kernel
theorem dX11_isWithin_2 : decode cX11_isWithin 2 = .ok (.if_icmp .lt 12, 3) := by decide +kernel
theorem dX11_isWithin_5 : decode cX11_isWithin 5 = .ok (.iload_n 0, 1) := by decide +kernel
theorem dX11_isWithin_6 : decode cX11_isWithin 6 = .ok (.iload_n 2, 1) := by decide +kernel
theorem dX11_isWithin_7 : decode cX11_isWithin 7 = .ok (.if_icmp .gt 7, 3) := by decide +kernel
theorem dX11_isWithin_10 : decode cX11_isWithin 10 = .ok (.iconst 1, 1) := by decide +kernel
theorem dX11_isWithin_11 : decode cX11_isWithin 11 = .ok (.goto 4, 3) := by decide +kernel
theorem dX11_isWithin_14 : decode cX11_isWithin 14 = .ok (.iconst 0, 1) := by decide +kernel
theorem dX11_isWithin_15 : decode cX11_isWithin 15 = .ok (.ireturn, 1) := by decide +kernel
theorem dX11_rainLeft_0 : decode cX11_rainLeft 0 = .ok (.aload_n 0, 1) := by decide +kernel
theorem dX11_rainLeft_1 : decode cX11_rainLeft 1 = .ok (.getfield 56, 3) := by decide +kernel
theorem dX11_rainLeft_4 : decode cX11_rainLeft 4 = .ok (.aload_n 0, 1) := by decide +kernel
theorem dX11_rainLeft_5 : decode cX11_rainLeft 5 = .ok (.getfield 52, 3) := by decide +kernel
theorem dX11_rainLeft_8 : decode cX11_rainLeft 8 = .ok (.if_icmp .le 15, 3) := by decide +kernel
theorem dX11_rainLeft_11 : decode cX11_rainLeft 11 = .ok (.aload_n 0, 1) := by decide +kernel
theorem dX11_rainLeft_12 : decode cX11_rainLeft 12 = .ok (.getfield 56, 3) := by decide +kernel
theorem dX11_rainLeft_15 : decode cX11_rainLeft 15 = .ok (.aload_n 0, 1) := by decide +kernel
theorem dX11_rainLeft_16 : decode cX11_rainLeft 16 = .ok (.getfield 52, 3) := by decide +kernel
theorem dX11_rainLeft_19 : decode cX11_rainLeft 19 = .ok (.isub, 1) := by decide +kernel
theorem dX11_rainLeft_20 : decode cX11_rainLeft 20 = .ok (.goto 4, 3) := by decide +kernel
theorem dX11_rainLeft_23 : decode cX11_rainLeft 23 = .ok (.iconst 0, 1) := by decide +kernel
theorem dX11_rainLeft_24 : decode cX11_rainLeft 24 = .ok (.ireturn, 1) := by decide +kernel
theorem dX11_actOn_0 : decode cX11_actOn 0 = .ok (.iconst (-1), 1) := by decide +kernel
theorem dX11_actOn_1 : decode cX11_actOn 1 = .ok (.istore_n 2, 1) := by decide +kernel
theorem dX11_actOn_2 : decode cX11_actOn 2 = .ok (.iconst (-1), 1) := by decide +kernel
theorem dX11_actOn_3 : decode cX11_actOn 3 = .ok (.istore_n 3, 1) := by decide +kernel
theorem dX11_actOn_4 : decode cX11_actOn 4 = .ok (.iconst 0, 1) := by decide +kernel
theorem dX11_actOn_5 : decode cX11_actOn 5 = .ok (.istore 4, 2) := by decide +kernel
theorem dX11_actOn_7 : decode cX11_actOn 7 = .ok (.iload 4, 2) := by decide +kernel
theorem dX11_actOn_9 : decode cX11_actOn 9 = .ok (.aload_n 0, 1) := by decide +kernel
theorem dX11_actOn_10 : decode cX11_actOn 10 = .ok (.getfield 33, 3) := by decide +kernel
theorem dX11_actOn_13 : decode cX11_actOn 13 = .ok (.invokevirtual 80, 3) := by decide +kernel
theorem dX11_actOn_16 : decode cX11_actOn 16 = .ok (.if_icmp .ge 44, 3) := by decide +kernel
theorem dX11_actOn_19 : decode cX11_actOn 19 = .ok (.aload_n 0, 1) := by decide +kernel
theorem dX11_actOn_20 : decode cX11_actOn 20 = .ok (.getfield 33, 3) := by decide +kernel
theorem dX11_actOn_23 : decode cX11_actOn 23 = .ok (.iload 4, 2) := by decide +kernel
theorem dX11_actOn_25 : decode cX11_actOn 25 = .ok (.invokevirtual 125, 3) := by decide +kernel
theorem dX11_actOn_28 : decode cX11_actOn 28 = .ok (.checkcast 89, 3) := by decide +kernel
theorem dX11_actOn_31 : decode cX11_actOn 31 = .ok (.getfield 314, 3) := by decide +kernel
theorem dX11_actOn_34 : decode cX11_actOn 34 = .ok (.istore 5, 2) := by decide +kernel
theorem dX11_actOn_36 : decode cX11_actOn 36 = .ok (.iload 5, 2) := by decide +kernel
theorem dX11_actOn_38 : decode cX11_actOn 38 = .ok (.iload_n 1, 1) := by decide +kernel
theorem dX11_actOn_39 : decode cX11_actOn 39 = .ok (.if_icmp .gt 15, 3) := by decide +kernel
theorem dX11_actOn_42 : decode cX11_actOn 42 = .ok (.iload 5, 2) := by decide +kernel
theorem dX11_actOn_44 : decode cX11_actOn 44 = .ok (.iload_n 3, 1) := by decide +kernel
theorem dX11_actOn_45 : decode cX11_actOn 45 = .ok (.if_icmp .lt 9, 3) := by decide +kernel
theorem dX11_actOn_48 : decode cX11_actOn 48 = .ok (.iload 4, 2) := by decide +kernel
theorem dX11_actOn_50 : decode cX11_actOn 50 = .ok (.istore_n 2, 1) := by decide +kernel
theorem dX11_actOn_51 : decode cX11_actOn 51 = .ok (.iload 5, 2) := by decide +kernel
theorem dX11_actOn_53 : decode cX11_actOn 53 = .ok (.istore_n 3, 1) := by decide +kernel
theorem dX11_actOn_54 : decode cX11_actOn 54 = .ok (.iinc 4 1, 3) := by decide +kernel
theorem dX11_actOn_57 : decode cX11_actOn 57 = .ok (.goto (-50), 3) := by decide +kernel
theorem dX11_actOn_60 : decode cX11_actOn 60 = .ok (.iload_n 2, 1) := by decide +kernel
theorem dX11_actOn_61 : decode cX11_actOn 61 = .ok (.ireturn, 1) := by decide +kernel
theorem dX11_takeToll_0 : decode cX11_takeToll 0 = .ok (.aload_n 2, 1) := by decide +kernel
theorem dX11_takeToll_1 : decode cX11_takeToll 1 = .ok (.getfield 231, 3) := by decide +kernel
theorem dX11_takeToll_4 : decode cX11_takeToll 4 = .ok (.ifnull 20, 3) := by decide +kernel
theorem dX11_takeToll_7 : decode cX11_takeToll 7 = .ok (.aload_n 2, 1) := by decide +kernel
theorem dX11_takeToll_8 : decode cX11_takeToll 8 = .ok (.getfield 231, 3) := by decide +kernel
theorem dX11_takeToll_11 : decode cX11_takeToll 11 = .ok (.dup, 1) := by decide +kernel
theorem dX11_takeToll_12 : decode cX11_takeToll 12 = .ok (.getfield 298, 3) := by decide +kernel
theorem dX11_takeToll_15 : decode cX11_takeToll 15 = .ok (.iload_n 3, 1) := by decide +kernel
theorem dX11_takeToll_16 : decode cX11_takeToll 16 = .ok (.i2l, 1) := by decide +kernel
theorem dX11_takeToll_17 : decode cX11_takeToll 17 = .ok (.ladd, 1) := by decide +kernel
theorem dX11_takeToll_18 : decode cX11_takeToll 18 = .ok (.putfield 298, 3) := by decide +kernel
theorem dX11_takeToll_21 : decode cX11_takeToll 21 = .ok (.goto 22, 3) := by decide +kernel
theorem dX11_takeToll_24 : decode cX11_takeToll 24 = .ok (.iload_n 3, 1) := by decide +kernel
theorem dX11_takeToll_25 : decode cX11_takeToll 25 = .ok (.ifCond .le 18, 3) := by decide +kernel
theorem dX11_takeToll_28 : decode cX11_takeToll 28 = .ok (.aload_n 0, 1) := by decide +kernel
theorem dX11_takeToll_29 : decode cX11_takeToll 29 = .ok (.getfield 26, 3) := by decide +kernel
theorem dX11_takeToll_32 : decode cX11_takeToll 32 = .ok (.aload_n 0, 1) := by decide +kernel
theorem dX11_takeToll_33 : decode cX11_takeToll 33 = .ok (.getfield 52, 3) := by decide +kernel
theorem dX11_takeToll_36 : decode cX11_takeToll 36 = .ok (.iconst 0, 1) := by decide +kernel
theorem dX11_takeToll_37 : decode cX11_takeToll 37 = .ok (.iload_n 1, 1) := by decide +kernel
theorem dX11_takeToll_38 : decode cX11_takeToll 38 = .ok (.iload_n 3, 1) := by decide +kernel
theorem dX11_takeToll_39 : decode cX11_takeToll 39 = .ok (.i2l, 1) := by decide +kernel
theorem dX11_takeToll_40 : decode cX11_takeToll 40 = .ok (.invokevirtual 214, 3) := by decide +kernel
theorem dX11_takeToll_43 : decode cX11_takeToll 43 = .ok (.return_, 1) := by decide +kernel
theorem dX11_worthMost_0 : decode cX11_worthMost 0 = .ok (.aconst_null, 1) := by decide +kernel
theorem dX11_worthMost_1 : decode cX11_worthMost 1 = .ok (.astore_n 1, 1) := by decide +kernel
theorem dX11_worthMost_2 : decode cX11_worthMost 2 = .ok (.iconst 0, 1) := by decide +kernel
theorem dX11_worthMost_3 : decode cX11_worthMost 3 = .ok (.istore_n 2, 1) := by decide +kernel
theorem dX11_worthMost_4 : decode cX11_worthMost 4 = .ok (.iload_n 2, 1) := by decide +kernel
theorem dX11_worthMost_5 : decode cX11_worthMost 5 = .ok (.aload_n 0, 1) := by decide +kernel
theorem dX11_worthMost_6 : decode cX11_worthMost 6 = .ok (.getfield 37, 3) := by decide +kernel
theorem dX11_worthMost_9 : decode cX11_worthMost 9 = .ok (.invokevirtual 80, 3) := by decide +kernel
theorem dX11_worthMost_12 : decode cX11_worthMost 12 = .ok (.if_icmp .ge 44, 3) := by decide +kernel
theorem dX11_worthMost_15 : decode cX11_worthMost 15 = .ok (.aload_n 0, 1) := by decide +kernel
theorem dX11_worthMost_16 : decode cX11_worthMost 16 = .ok (.getfield 37, 3) := by decide +kernel
theorem dX11_worthMost_19 : decode cX11_worthMost 19 = .ok (.iload_n 2, 1) := by decide +kernel
theorem dX11_worthMost_20 : decode cX11_worthMost 20 = .ok (.invokevirtual 125, 3) := by decide +kernel
theorem dX11_worthMost_23 : decode cX11_worthMost 23 = .ok (.checkcast 111, 3) := by decide +kernel
theorem dX11_worthMost_26 : decode cX11_worthMost 26 = .ok (.astore_n 3, 1) := by decide +kernel
theorem dX11_worthMost_27 : decode cX11_worthMost 27 = .ok (.aload_n 3, 1) := by decide +kernel
theorem dX11_worthMost_28 : decode cX11_worthMost 28 = .ok (.getfield 172, 3) := by decide +kernel
theorem dX11_worthMost_31 : decode cX11_worthMost 31 = .ok (.lconst 0, 1) := by decide +kernel
theorem dX11_worthMost_32 : decode cX11_worthMost 32 = .ok (.lcmp, 1) := by decide +kernel
theorem dX11_worthMost_33 : decode cX11_worthMost 33 = .ok (.ifCond .le 17, 3) := by decide +kernel
theorem dX11_worthMost_36 : decode cX11_worthMost 36 = .ok (.aload_n 1, 1) := by decide +kernel
theorem dX11_worthMost_37 : decode cX11_worthMost 37 = .ok (.ifnull 11, 3) := by decide +kernel
theorem dX11_worthMost_40 : decode cX11_worthMost 40 = .ok (.aload_n 3, 1) := by decide +kernel
theorem dX11_worthMost_41 : decode cX11_worthMost 41 = .ok (.aload_n 1, 1) := by decide +kernel
theorem dX11_worthMost_42 : decode cX11_worthMost 42 = .ok (.invokevirtual 317, 3) := by decide +kernel
theorem dX11_worthMost_45 : decode cX11_worthMost 45 = .ok (.ifCond .eq 5, 3) := by decide +kernel
theorem dX11_worthMost_48 : decode cX11_worthMost 48 = .ok (.aload_n 3, 1) := by decide +kernel
theorem dX11_worthMost_49 : decode cX11_worthMost 49 = .ok (.astore_n 1, 1) := by decide +kernel
theorem dX11_worthMost_50 : decode cX11_worthMost 50 = .ok (.iinc 2 1, 3) := by decide +kernel
theorem dX11_worthMost_53 : decode cX11_worthMost 53 = .ok (.goto (-49), 3) := by decide +kernel
theorem dX11_worthMost_56 : decode cX11_worthMost 56 = .ok (.aload_n 1, 1) := by decide +kernel
theorem dX11_worthMost_57 : decode cX11_worthMost 57 = .ok (.areturn, 1) := by decide +kernel
theorem dX11_moveOn_0 : decode cX11_moveOn 0 = .ok (.aload_n 0, 1) := by decide +kernel
theorem dX11_moveOn_1 : decode cX11_moveOn 1 = .ok (.dup, 1) := by decide +kernel
theorem dX11_moveOn_2 : decode cX11_moveOn 2 = .ok (.getfield 52, 3) := by decide +kernel
theorem dX11_moveOn_5 : decode cX11_moveOn 5 = .ok (.iconst 1, 1) := by decide +kernel
theorem dX11_moveOn_6 : decode cX11_moveOn 6 = .ok (.iadd, 1) := by decide +kernel
theorem dX11_moveOn_7 : decode cX11_moveOn 7 = .ok (.putfield 52, 3) := by decide +kernel
theorem dX11_moveOn_10 : decode cX11_moveOn 10 = .ok (.aload_n 0, 1) := by decide +kernel
theorem dX11_moveOn_11 : decode cX11_moveOn 11 = .ok (.getfield 52, 3) := by decide +kernel
theorem dX11_moveOn_14 : decode cX11_moveOn 14 = .ok (.sipush 365, 3) := by decide +kernel
theorem dX11_moveOn_17 : decode cX11_moveOn 17 = .ok (.irem, 1) := by decide +kernel
theorem dX11_moveOn_18 : decode cX11_moveOn 18 = .ok (.ifCond .ne 7, 3) := by decide +kernel
theorem dX11_moveOn_21 : decode cX11_moveOn 21 = .ok (.aload_n 0, 1) := by decide +kernel
theorem dX11_moveOn_22 : decode cX11_moveOn 22 = .ok (.invokevirtual 321, 3) := by decide +kernel
theorem dX11_moveOn_25 : decode cX11_moveOn 25 = .ok (.iconst 0, 1) := by decide +kernel
theorem dX11_moveOn_26 : decode cX11_moveOn 26 = .ok (.istore_n 1, 1) := by decide +kernel
theorem dX11_moveOn_27 : decode cX11_moveOn 27 = .ok (.iload_n 1, 1) := by decide +kernel
theorem dX11_moveOn_28 : decode cX11_moveOn 28 = .ok (.aload_n 0, 1) := by decide +kernel
theorem dX11_moveOn_29 : decode cX11_moveOn 29 = .ok (.getfield 40, 3) := by decide +kernel
theorem dX11_moveOn_32 : decode cX11_moveOn 32 = .ok (.invokevirtual 80, 3) := by decide +kernel
theorem dX11_moveOn_35 : decode cX11_moveOn 35 = .ok (.if_icmp .ge 44, 3) := by decide +kernel
theorem dX11_moveOn_38 : decode cX11_moveOn 38 = .ok (.aload_n 0, 1) := by decide +kernel
theorem dX11_moveOn_39 : decode cX11_moveOn 39 = .ok (.getfield 40, 3) := by decide +kernel
theorem dX11_moveOn_42 : decode cX11_moveOn 42 = .ok (.iload_n 1, 1) := by decide +kernel
theorem dX11_moveOn_43 : decode cX11_moveOn 43 = .ok (.invokevirtual 125, 3) := by decide +kernel
theorem dX11_moveOn_46 : decode cX11_moveOn 46 = .ok (.checkcast 123, 3) := by decide +kernel
theorem dX11_moveOn_49 : decode cX11_moveOn 49 = .ok (.astore_n 2, 1) := by decide +kernel
theorem dX11_moveOn_50 : decode cX11_moveOn 50 = .ok (.aload_n 2, 1) := by decide +kernel
theorem dX11_moveOn_51 : decode cX11_moveOn 51 = .ok (.getfield 231, 3) := by decide +kernel
theorem dX11_moveOn_54 : decode cX11_moveOn 54 = .ok (.ifnull 19, 3) := by decide +kernel
theorem dX11_moveOn_57 : decode cX11_moveOn 57 = .ok (.aload_n 2, 1) := by decide +kernel
theorem dX11_moveOn_58 : decode cX11_moveOn 58 = .ok (.getfield 271, 3) := by decide +kernel
theorem dX11_moveOn_61 : decode cX11_moveOn 61 = .ok (.aload_n 0, 1) := by decide +kernel
theorem dX11_moveOn_62 : decode cX11_moveOn 62 = .ok (.getfield 52, 3) := by decide +kernel
theorem dX11_moveOn_65 : decode cX11_moveOn 65 = .ok (.if_icmp .ne 8, 3) := by decide +kernel
theorem dX11_moveOn_68 : decode cX11_moveOn 68 = .ok (.aload_n 0, 1) := by decide +kernel
theorem dX11_moveOn_69 : decode cX11_moveOn 69 = .ok (.aload_n 2, 1) := by decide +kernel
theorem dX11_moveOn_70 : decode cX11_moveOn 70 = .ok (.invokevirtual 257, 3) := by decide +kernel
theorem dX11_moveOn_73 : decode cX11_moveOn 73 = .ok (.iinc 1 1, 3) := by decide +kernel
theorem dX11_moveOn_76 : decode cX11_moveOn 76 = .ok (.goto (-49), 3) := by decide +kernel
theorem dX11_moveOn_79 : decode cX11_moveOn 79 = .ok (.return_, 1) := by decide +kernel
theorem dX11_keepLease_0 : decode cX11_keepLease 0 = .ok (.aload_n 1, 1) := by decide +kernel
theorem dX11_keepLease_1 : decode cX11_keepLease 1 = .ok (.getfield 231, 3) := by decide +kernel
theorem dX11_keepLease_4 : decode cX11_keepLease 4 = .ok (.astore_n 2, 1) := by decide +kernel
theorem dX11_keepLease_5 : decode cX11_keepLease 5 = .ok (.aload_n 2, 1) := by decide +kernel
theorem dX11_keepLease_6 : decode cX11_keepLease 6 = .ok (.ifnonnull 4, 3) := by decide +kernel
theorem dX11_keepLease_9 : decode cX11_keepLease 9 = .ok (.return_, 1) := by decide +kernel
theorem dX11_keepLease_10 : decode cX11_keepLease 10 = .ok (.aload_n 1, 1) := by decide +kernel
theorem dX11_keepLease_11 : decode cX11_keepLease 11 = .ok (.getfield 324, 3) := by decide +kernel
theorem dX11_keepLease_14 : decode cX11_keepLease 14 = .ok (.ifCond .gt 24, 3) := by decide +kernel
theorem dX11_keepLease_17 : decode cX11_keepLease 17 = .ok (.aload_n 2, 1) := by decide +kernel
theorem dX11_keepLease_18 : decode cX11_keepLease 18 = .ok (.dup, 1) := by decide +kernel
theorem dX11_keepLease_19 : decode cX11_keepLease 19 = .ok (.getfield 298, 3) := by decide +kernel
theorem dX11_keepLease_22 : decode cX11_keepLease 22 = .ok (.aload_n 1, 1) := by decide +kernel
theorem dX11_keepLease_23 : decode cX11_keepLease 23 = .ok (.getfield 268, 3) := by decide +kernel
theorem dX11_keepLease_26 : decode cX11_keepLease 26 = .ok (.i2l, 1) := by decide +kernel
theorem dX11_keepLease_27 : decode cX11_keepLease 27 = .ok (.ladd, 1) := by decide +kernel
theorem dX11_keepLease_28 : decode cX11_keepLease 28 = .ok (.putfield 298, 3) := by decide +kernel
theorem dX11_keepLease_31 : decode cX11_keepLease 31 = .ok (.aload_n 1, 1) := by decide +kernel
theorem dX11_keepLease_32 : decode cX11_keepLease 32 = .ok (.invokevirtual 327, 3) := by decide +kernel
theorem dX11_keepLease_35 : decode cX11_keepLease 35 = .ok (.goto 100, 3) := by decide +kernel
theorem dX11_keepLease_38 : decode cX11_keepLease 38 = .ok (.aload_n 2, 1) := by decide +kernel
theorem dX11_keepLease_39 : decode cX11_keepLease 39 = .ok (.getfield 298, 3) := by decide +kernel
theorem dX11_keepLease_42 : decode cX11_keepLease 42 = .ok (.aload_n 1, 1) := by decide +kernel
theorem dX11_keepLease_43 : decode cX11_keepLease 43 = .ok (.getfield 265, 3) := by decide +kernel
theorem dX11_keepLease_46 : decode cX11_keepLease 46 = .ok (.i2l, 1) := by decide +kernel
theorem dX11_keepLease_47 : decode cX11_keepLease 47 = .ok (.lcmp, 1) := by decide +kernel
theorem dX11_keepLease_48 : decode cX11_keepLease 48 = .ok (.ifCond .ge 31, 3) := by decide +kernel
theorem dX11_keepLease_51 : decode cX11_keepLease 51 = .ok (.aload_n 0, 1) := by decide +kernel
theorem dX11_keepLease_52 : decode cX11_keepLease 52 = .ok (.getfield 26, 3) := by decide +kernel
theorem dX11_keepLease_55 : decode cX11_keepLease 55 = .ok (.aload_n 0, 1) := by decide +kernel
theorem dX11_keepLease_56 : decode cX11_keepLease 56 = .ok (.getfield 52, 3) := by decide +kernel
theorem dX11_keepLease_59 : decode cX11_keepLease 59 = .ok (.iconst 2, 1) := by decide +kernel
theorem dX11_keepLease_60 : decode cX11_keepLease 60 = .ok (.aload_n 1, 1) := by decide +kernel
theorem dX11_keepLease_61 : decode cX11_keepLease 61 = .ok (.getfield 330, 3) := by decide +kernel
theorem dX11_keepLease_64 : decode cX11_keepLease 64 = .ok (.aload_n 1, 1) := by decide +kernel
theorem dX11_keepLease_65 : decode cX11_keepLease 65 = .ok (.getfield 268, 3) := by decide +kernel
theorem dX11_keepLease_68 : decode cX11_keepLease 68 = .ok (.i2l, 1) := by decide +kernel
theorem dX11_keepLease_69 : decode cX11_keepLease 69 = .ok (.invokevirtual 214, 3) := by decide +kernel
theorem dX11_keepLease_72 : decode cX11_keepLease 72 = .ok (.aload_n 1, 1) := by decide +kernel
theorem dX11_keepLease_73 : decode cX11_keepLease 73 = .ok (.invokevirtual 327, 3) := by decide +kernel
theorem dX11_keepLease_76 : decode cX11_keepLease 76 = .ok (.goto 59, 3) := by decide +kernel
theorem dX11_keepLease_79 : decode cX11_keepLease 79 = .ok (.aload_n 2, 1) := by decide +kernel
theorem dX11_keepLease_80 : decode cX11_keepLease 80 = .ok (.dup, 1) := by decide +kernel
theorem dX11_keepLease_81 : decode cX11_keepLease 81 = .ok (.getfield 298, 3) := by decide +kernel
theorem dX11_keepLease_84 : decode cX11_keepLease 84 = .ok (.aload_n 1, 1) := by decide +kernel
theorem dX11_keepLease_85 : decode cX11_keepLease 85 = .ok (.getfield 265, 3) := by decide +kernel
theorem dX11_keepLease_88 : decode cX11_keepLease 88 = .ok (.i2l, 1) := by decide +kernel
theorem dX11_keepLease_89 : decode cX11_keepLease 89 = .ok (.lsub, 1) := by decide +kernel
theorem dX11_keepLease_90 : decode cX11_keepLease 90 = .ok (.putfield 298, 3) := by decide +kernel
theorem dX11_keepLease_93 : decode cX11_keepLease 93 = .ok (.aload_n 0, 1) := by decide +kernel
theorem dX11_keepLease_94 : decode cX11_keepLease 94 = .ok (.getfield 26, 3) := by decide +kernel
theorem dX11_keepLease_97 : decode cX11_keepLease 97 = .ok (.aload_n 0, 1) := by decide +kernel
theorem dX11_keepLease_98 : decode cX11_keepLease 98 = .ok (.getfield 52, 3) := by decide +kernel
theorem dX11_keepLease_101 : decode cX11_keepLease 101 = .ok (.iconst 1, 1) := by decide +kernel
theorem dX11_keepLease_102 : decode cX11_keepLease 102 = .ok (.aload_n 1, 1) := by decide +kernel
theorem dX11_keepLease_103 : decode cX11_keepLease 103 = .ok (.getfield 330, 3) := by decide +kernel
theorem dX11_keepLease_106 : decode cX11_keepLease 106 = .ok (.aload_n 1, 1) := by decide +kernel
theorem dX11_keepLease_107 : decode cX11_keepLease 107 = .ok (.getfield 265, 3) := by decide +kernel
theorem dX11_keepLease_110 : decode cX11_keepLease 110 = .ok (.i2l, 1) := by decide +kernel
theorem dX11_keepLease_111 : decode cX11_keepLease 111 = .ok (.invokevirtual 214, 3) := by decide +kernel
theorem dX11_keepLease_114 : decode cX11_keepLease 114 = .ok (.aload_n 1, 1) := by decide +kernel
theorem dX11_keepLease_115 : decode cX11_keepLease 115 = .ok (.dup, 1) := by decide +kernel
theorem dX11_keepLease_116 : decode cX11_keepLease 116 = .ok (.getfield 324, 3) := by decide +kernel
theorem dX11_keepLease_119 : decode cX11_keepLease 119 = .ok (.iconst 1, 1) := by decide +kernel
theorem dX11_keepLease_120 : decode cX11_keepLease 120 = .ok (.isub, 1) := by decide +kernel
theorem dX11_keepLease_121 : decode cX11_keepLease 121 = .ok (.putfield 324, 3) := by decide +kernel
theorem dX11_keepLease_124 : decode cX11_keepLease 124 = .ok (.aload_n 1, 1) := by decide +kernel
theorem dX11_keepLease_125 : decode cX11_keepLease 125 = .ok (.dup, 1) := by decide +kernel
theorem dX11_keepLease_126 : decode cX11_keepLease 126 = .ok (.getfield 271, 3) := by decide +kernel
theorem dX11_keepLease_129 : decode cX11_keepLease 129 = .ok (.bipush 91, 2) := by decide +kernel
theorem dX11_keepLease_131 : decode cX11_keepLease 131 = .ok (.iadd, 1) := by decide +kernel
theorem dX11_keepLease_132 : decode cX11_keepLease 132 = .ok (.putfield 271, 3) := by decide +kernel
theorem dX11_keepLease_135 : decode cX11_keepLease 135 = .ok (.return_, 1) := by decide +kernel
theorem dX11_payInterest_0 : decode cX11_payInterest 0 = .ok (.iconst 0, 1) := by decide +kernel
theorem dX11_payInterest_1 : decode cX11_payInterest 1 = .ok (.istore_n 1, 1) := by decide +kernel
theorem dX11_payInterest_2 : decode cX11_payInterest 2 = .ok (.iload_n 1, 1) := by decide +kernel
theorem dX11_payInterest_3 : decode cX11_payInterest 3 = .ok (.aload_n 0, 1) := by decide +kernel
theorem dX11_payInterest_4 : decode cX11_payInterest 4 = .ok (.getfield 49, 3) := by decide +kernel
theorem dX11_payInterest_7 : decode cX11_payInterest 7 = .ok (.invokevirtual 80, 3) := by decide +kernel
theorem dX11_payInterest_10 : decode cX11_payInterest 10 = .ok (.if_icmp .ge 23, 3) := by decide +kernel
theorem dX11_payInterest_13 : decode cX11_payInterest 13 = .ok (.aload_n 0, 1) := by decide +kernel
theorem dX11_payInterest_14 : decode cX11_payInterest 14 = .ok (.getfield 49, 3) := by decide +kernel
theorem dX11_payInterest_17 : decode cX11_payInterest 17 = .ok (.iload_n 1, 1) := by decide +kernel
theorem dX11_payInterest_18 : decode cX11_payInterest 18 = .ok (.invokevirtual 125, 3) := by decide +kernel
theorem dX11_payInterest_21 : decode cX11_payInterest 21 = .ok (.checkcast 280, 3) := by decide +kernel
theorem dX11_payInterest_24 : decode cX11_payInterest 24 = .ok (.invokevirtual 331, 3) := by decide +kernel
theorem dX11_payInterest_27 : decode cX11_payInterest 27 = .ok (.iinc 1 1, 3) := by decide +kernel
theorem dX11_payInterest_30 : decode cX11_payInterest 30 = .ok (.goto (-28), 3) := by decide +kernel
theorem dX11_payInterest_33 : decode cX11_payInterest 33 = .ok (.iconst 0, 1) := by decide +kernel
theorem dX11_payInterest_34 : decode cX11_payInterest 34 = .ok (.istore_n 1, 1) := by decide +kernel
theorem dX11_payInterest_35 : decode cX11_payInterest 35 = .ok (.iload_n 1, 1) := by decide +kernel
theorem dX11_payInterest_36 : decode cX11_payInterest 36 = .ok (.iconst 4, 1) := by decide +kernel
theorem dX11_payInterest_37 : decode cX11_payInterest 37 = .ok (.if_icmp .ge 46, 3) := by decide +kernel
theorem dX11_payInterest_40 : decode cX11_payInterest 40 = .ok (.aload_n 0, 1) := by decide +kernel
theorem dX11_payInterest_41 : decode cX11_payInterest 41 = .ok (.iload_n 1, 1) := by decide +kernel
theorem dX11_payInterest_42 : decode cX11_payInterest 42 = .ok (.invokevirtual 334, 3) := by decide +kernel
theorem dX11_payInterest_45 : decode cX11_payInterest 45 = .ok (.lstore_n 2, 1) := by decide +kernel
theorem dX11_payInterest_46 : decode cX11_payInterest 46 = .ok (.aload_n 0, 1) := by decide +kernel
theorem dX11_payInterest_47 : decode cX11_payInterest 47 = .ok (.getfield 26, 3) := by decide +kernel
theorem dX11_payInterest_50 : decode cX11_payInterest 50 = .ok (.getfield 201, 3) := by decide +kernel
theorem dX11_payInterest_53 : decode cX11_payInterest 53 = .ok (.lload_n 2, 1) := by decide +kernel
theorem dX11_payInterest_54 : decode cX11_payInterest 54 = .ok (.lcmp, 1) := by decide +kernel
theorem dX11_payInterest_55 : decode cX11_payInterest 55 = .ok (.ifCond .lt 11, 3) := by decide +kernel
theorem dX11_payInterest_58 : decode cX11_payInterest 58 = .ok (.aload_n 0, 1) := by decide +kernel
theorem dX11_payInterest_59 : decode cX11_payInterest 59 = .ok (.iload_n 1, 1) := by decide +kernel
theorem dX11_payInterest_60 : decode cX11_payInterest 60 = .ok (.invokevirtual 337, 3) := by decide +kernel
theorem dX11_payInterest_63 : decode cX11_payInterest 63 = .ok (.goto 9, 3) := by decide +kernel
theorem dX11_payInterest_66 : decode cX11_payInterest 66 = .ok (.aload_n 0, 1) := by decide +kernel
theorem dX11_payInterest_67 : decode cX11_payInterest 67 = .ok (.iload_n 1, 1) := by decide +kernel
theorem dX11_payInterest_68 : decode cX11_payInterest 68 = .ok (.lload_n 2, 1) := by decide +kernel
theorem dX11_payInterest_69 : decode cX11_payInterest 69 = .ok (.invokevirtual 340, 3) := by decide +kernel
theorem dX11_payInterest_72 : decode cX11_payInterest 72 = .ok (.aload_n 0, 1) := by decide +kernel
theorem dX11_payInterest_73 : decode cX11_payInterest 73 = .ok (.iload_n 1, 1) := by decide +kernel
theorem dX11_payInterest_74 : decode cX11_payInterest 74 = .ok (.invokevirtual 344, 3) := by decide +kernel
theorem dX11_payInterest_77 : decode cX11_payInterest 77 = .ok (.iinc 1 1, 3) := by decide +kernel
theorem dX11_payInterest_80 : decode cX11_payInterest 80 = .ok (.goto (-45), 3) := by decide +kernel
theorem dX11_payInterest_83 : decode cX11_payInterest 83 = .ok (.return_, 1) := by decide +kernel
theorem dX11_dueOf_0 : decode cX11_dueOf 0 = .ok (.lconst 0, 1) := by decide +kernel
theorem dX11_dueOf_1 : decode cX11_dueOf 1 = .ok (.lstore_n 2, 1) := by decide +kernel
theorem dX11_dueOf_2 : decode cX11_dueOf 2 = .ok (.iconst 0, 1) := by decide +kernel
theorem dX11_dueOf_3 : decode cX11_dueOf 3 = .ok (.istore 4, 2) := by decide +kernel
theorem dX11_dueOf_5 : decode cX11_dueOf 5 = .ok (.iload 4, 2) := by decide +kernel
theorem dX11_dueOf_7 : decode cX11_dueOf 7 = .ok (.aload_n 0, 1) := by decide +kernel
theorem dX11_dueOf_8 : decode cX11_dueOf 8 = .ok (.getfield 49, 3) := by decide +kernel
theorem dX11_dueOf_11 : decode cX11_dueOf 11 = .ok (.invokevirtual 80, 3) := by decide +kernel
theorem dX11_dueOf_14 : decode cX11_dueOf 14 = .ok (.if_icmp .ge 44, 3) := by decide +kernel
theorem dX11_dueOf_17 : decode cX11_dueOf 17 = .ok (.aload_n 0, 1) := by decide +kernel
theorem dX11_dueOf_18 : decode cX11_dueOf 18 = .ok (.getfield 49, 3) := by decide +kernel
theorem dX11_dueOf_21 : decode cX11_dueOf 21 = .ok (.iload 4, 2) := by decide +kernel
theorem dX11_dueOf_23 : decode cX11_dueOf 23 = .ok (.invokevirtual 125, 3) := by decide +kernel
theorem dX11_dueOf_26 : decode cX11_dueOf 26 = .ok (.checkcast 280, 3) := by decide +kernel
theorem dX11_dueOf_29 : decode cX11_dueOf 29 = .ok (.astore 5, 2) := by decide +kernel
theorem dX11_dueOf_31 : decode cX11_dueOf 31 = .ok (.lload_n 2, 1) := by decide +kernel
theorem dX11_dueOf_32 : decode cX11_dueOf 32 = .ok (.aload 5, 2) := by decide +kernel
theorem dX11_dueOf_34 : decode cX11_dueOf 34 = .ok (.getfield 292, 3) := by decide +kernel
theorem dX11_dueOf_37 : decode cX11_dueOf 37 = .ok (.iload_n 1, 1) := by decide +kernel
theorem dX11_dueOf_38 : decode cX11_dueOf 38 = .ok (.if_icmp .ne 11, 3) := by decide +kernel
theorem dX11_dueOf_41 : decode cX11_dueOf 41 = .ok (.aload 5, 2) := by decide +kernel
theorem dX11_dueOf_43 : decode cX11_dueOf 43 = .ok (.getfield 295, 3) := by decide +kernel
theorem dX11_dueOf_46 : decode cX11_dueOf 46 = .ok (.goto 4, 3) := by decide +kernel
theorem dX11_dueOf_49 : decode cX11_dueOf 49 = .ok (.lconst 0, 1) := by decide +kernel
theorem dX11_dueOf_50 : decode cX11_dueOf 50 = .ok (.ladd, 1) := by decide +kernel
theorem dX11_dueOf_51 : decode cX11_dueOf 51 = .ok (.lstore_n 2, 1) := by decide +kernel
theorem dX11_dueOf_52 : decode cX11_dueOf 52 = .ok (.iinc 4 1, 3) := by decide +kernel
theorem dX11_dueOf_55 : decode cX11_dueOf 55 = .ok (.goto (-50), 3) := by decide +kernel
theorem dX11_dueOf_58 : decode cX11_dueOf 58 = .ok (.lload_n 2, 1) := by decide +kernel
theorem dX11_dueOf_59 : decode cX11_dueOf 59 = .ok (.lreturn, 1) := by decide +kernel
theorem dX11_grantAll_0 : decode cX11_grantAll 0 = .ok (.iconst 0, 1) := by decide +kernel
theorem dX11_grantAll_1 : decode cX11_grantAll 1 = .ok (.istore_n 2, 1) := by decide +kernel
theorem dX11_grantAll_2 : decode cX11_grantAll 2 = .ok (.iload_n 2, 1) := by decide +kernel
theorem dX11_grantAll_3 : decode cX11_grantAll 3 = .ok (.aload_n 0, 1) := by decide +kernel
theorem dX11_grantAll_4 : decode cX11_grantAll 4 = .ok (.getfield 49, 3) := by decide +kernel
theorem dX11_grantAll_7 : decode cX11_grantAll 7 = .ok (.invokevirtual 80, 3) := by decide +kernel
theorem dX11_grantAll_10 : decode cX11_grantAll 10 = .ok (.if_icmp .ge 37, 3) := by decide +kernel
theorem dX11_grantAll_13 : decode cX11_grantAll 13 = .ok (.aload_n 0, 1) := by decide +kernel
theorem dX11_grantAll_14 : decode cX11_grantAll 14 = .ok (.getfield 49, 3) := by decide +kernel
theorem dX11_grantAll_17 : decode cX11_grantAll 17 = .ok (.iload_n 2, 1) := by decide +kernel
theorem dX11_grantAll_18 : decode cX11_grantAll 18 = .ok (.invokevirtual 125, 3) := by decide +kernel
theorem dX11_grantAll_21 : decode cX11_grantAll 21 = .ok (.checkcast 280, 3) := by decide +kernel
theorem dX11_grantAll_24 : decode cX11_grantAll 24 = .ok (.astore_n 3, 1) := by decide +kernel
theorem dX11_grantAll_25 : decode cX11_grantAll 25 = .ok (.aload_n 3, 1) := by decide +kernel
theorem dX11_grantAll_26 : decode cX11_grantAll 26 = .ok (.getfield 292, 3) := by decide +kernel
theorem dX11_grantAll_29 : decode cX11_grantAll 29 = .ok (.iload_n 1, 1) := by decide +kernel
theorem dX11_grantAll_30 : decode cX11_grantAll 30 = .ok (.if_icmp .ne 11, 3) := by decide +kernel
theorem dX11_grantAll_33 : decode cX11_grantAll 33 = .ok (.aload_n 3, 1) := by decide +kernel
theorem dX11_grantAll_34 : decode cX11_grantAll 34 = .ok (.aload_n 3, 1) := by decide +kernel
theorem dX11_grantAll_35 : decode cX11_grantAll 35 = .ok (.getfield 295, 3) := by decide +kernel
theorem dX11_grantAll_38 : decode cX11_grantAll 38 = .ok (.putfield 347, 3) := by decide +kernel
theorem dX11_grantAll_41 : decode cX11_grantAll 41 = .ok (.iinc 2 1, 3) := by decide +kernel
theorem dX11_grantAll_44 : decode cX11_grantAll 44 = .ok (.goto (-42), 3) := by decide +kernel
theorem dX11_grantAll_47 : decode cX11_grantAll 47 = .ok (.return_, 1) := by decide +kernel
theorem dX11_grantParts_0 : decode cX11_grantParts 0 = .ok (.aload_n 0, 1) := by decide +kernel
theorem dX11_grantParts_1 : decode cX11_grantParts 1 = .ok (.getfield 26, 3) := by decide +kernel
theorem dX11_grantParts_4 : decode cX11_grantParts 4 = .ok (.getfield 201, 3) := by decide +kernel
theorem dX11_grantParts_7 : decode cX11_grantParts 7 = .ok (.lstore 4, 2) := by decide +kernel
theorem dX11_grantParts_9 : decode cX11_grantParts 9 = .ok (.iconst 0, 1) := by decide +kernel
theorem dX11_grantParts_10 : decode cX11_grantParts 10 = .ok (.istore 6, 2) := by decide +kernel
theorem dX11_grantParts_12 : decode cX11_grantParts 12 = .ok (.iload 6, 2) := by decide +kernel
theorem dX11_grantParts_14 : decode cX11_grantParts 14 = .ok (.aload_n 0, 1) := by decide +kernel
theorem dX11_grantParts_15 : decode cX11_grantParts 15 = .ok (.getfield 49, 3) := by decide +kernel
theorem dX11_grantParts_18 : decode cX11_grantParts 18 = .ok (.invokevirtual 80, 3) := by decide +kernel
theorem dX11_grantParts_21 : decode cX11_grantParts 21 = .ok (.if_icmp .ge 55, 3) := by decide +kernel
theorem dX11_grantParts_24 : decode cX11_grantParts 24 = .ok (.aload_n 0, 1) := by decide +kernel
theorem dX11_grantParts_25 : decode cX11_grantParts 25 = .ok (.getfield 49, 3) := by decide +kernel
theorem dX11_grantParts_28 : decode cX11_grantParts 28 = .ok (.iload 6, 2) := by decide +kernel
theorem dX11_grantParts_30 : decode cX11_grantParts 30 = .ok (.invokevirtual 125, 3) := by decide +kernel
theorem dX11_grantParts_33 : decode cX11_grantParts 33 = .ok (.checkcast 280, 3) := by decide +kernel
theorem dX11_grantParts_36 : decode cX11_grantParts 36 = .ok (.astore 7, 2) := by decide +kernel
theorem dX11_grantParts_38 : decode cX11_grantParts 38 = .ok (.aload 7, 2) := by decide +kernel
theorem dX11_grantParts_40 : decode cX11_grantParts 40 = .ok (.getfield 292, 3) := by decide +kernel
theorem dX11_grantParts_43 : decode cX11_grantParts 43 = .ok (.iload_n 1, 1) := by decide +kernel
theorem dX11_grantParts_44 : decode cX11_grantParts 44 = .ok (.if_icmp .ne 26, 3) := by decide +kernel
theorem dX11_grantParts_47 : decode cX11_grantParts 47 = .ok (.aload 7, 2) := by decide +kernel
theorem dX11_grantParts_49 : decode cX11_grantParts 49 = .ok (.aload_n 0, 1) := by decide +kernel
theorem dX11_grantParts_50 : decode cX11_grantParts 50 = .ok (.getfield 26, 3) := by decide +kernel
theorem dX11_grantParts_53 : decode cX11_grantParts 53 = .ok (.getfield 201, 3) := by decide +kernel
theorem dX11_grantParts_56 : decode cX11_grantParts 56 = .ok (.lload_n 2, 1) := by decide +kernel
theorem dX11_grantParts_57 : decode cX11_grantParts 57 = .ok (.invokevirtual 350, 3) := by decide +kernel
theorem dX11_grantParts_60 : decode cX11_grantParts 60 = .ok (.lload 4, 2) := by decide +kernel
theorem dX11_grantParts_62 : decode cX11_grantParts 62 = .ok (.aload 7, 2) := by decide +kernel
theorem dX11_grantParts_64 : decode cX11_grantParts 64 = .ok (.getfield 347, 3) := by decide +kernel
theorem dX11_grantParts_67 : decode cX11_grantParts 67 = .ok (.lsub, 1) := by decide +kernel
theorem dX11_grantParts_68 : decode cX11_grantParts 68 = .ok (.lstore 4, 2) := by decide +kernel
theorem dX11_grantParts_70 : decode cX11_grantParts 70 = .ok (.iinc 6 1, 3) := by decide +kernel
theorem dX11_grantParts_73 : decode cX11_grantParts 73 = .ok (.goto (-61), 3) := by decide +kernel
theorem dX11_grantParts_76 : decode cX11_grantParts 76 = .ok (.iconst 0, 1) := by decide +kernel
theorem dX11_grantParts_77 : decode cX11_grantParts 77 = .ok (.istore 6, 2) := by decide +kernel
theorem dX11_grantParts_79 : decode cX11_grantParts 79 = .ok (.iload 6, 2) := by decide +kernel
theorem dX11_grantParts_81 : decode cX11_grantParts 81 = .ok (.aload_n 0, 1) := by decide +kernel
theorem dX11_grantParts_82 : decode cX11_grantParts 82 = .ok (.getfield 49, 3) := by decide +kernel
theorem dX11_grantParts_85 : decode cX11_grantParts 85 = .ok (.invokevirtual 80, 3) := by decide +kernel
theorem dX11_grantParts_88 : decode cX11_grantParts 88 = .ok (.if_icmp .ge 52, 3) := by decide +kernel
theorem dX11_grantParts_91 : decode cX11_grantParts 91 = .ok (.lload 4, 2) := by decide +kernel
theorem dX11_grantParts_93 : decode cX11_grantParts 93 = .ok (.lconst 0, 1) := by decide +kernel
theorem dX11_grantParts_94 : decode cX11_grantParts 94 = .ok (.lcmp, 1) := by decide +kernel
theorem dX11_grantParts_95 : decode cX11_grantParts 95 = .ok (.ifCond .le 45, 3) := by decide +kernel
theorem dX11_grantParts_98 : decode cX11_grantParts 98 = .ok (.aload_n 0, 1) := by decide +kernel
theorem dX11_grantParts_99 : decode cX11_grantParts 99 = .ok (.iload_n 1, 1) := by decide +kernel
theorem dX11_grantParts_100 : decode cX11_grantParts 100 = .ok (.invokevirtual 354, 3) := by decide +kernel
theorem dX11_grantParts_103 : decode cX11_grantParts 103 = .ok (.astore 7, 2) := by decide +kernel
theorem dX11_grantParts_105 : decode cX11_grantParts 105 = .ok (.aload 7, 2) := by decide +kernel
theorem dX11_grantParts_107 : decode cX11_grantParts 107 = .ok (.ifnonnull 4, 3) := by decide +kernel
theorem dX11_grantParts_110 : decode cX11_grantParts 110 = .ok (.return_, 1) := by decide +kernel
theorem dX11_grantParts_111 : decode cX11_grantParts 111 = .ok (.aload 7, 2) := by decide +kernel
theorem dX11_grantParts_113 : decode cX11_grantParts 113 = .ok (.dup, 1) := by decide +kernel
theorem dX11_grantParts_114 : decode cX11_grantParts 114 = .ok (.getfield 347, 3) := by decide +kernel
theorem dX11_grantParts_117 : decode cX11_grantParts 117 = .ok (.lconst 1, 1) := by decide +kernel
theorem dX11_grantParts_118 : decode cX11_grantParts 118 = .ok (.ladd, 1) := by decide +kernel
theorem dX11_grantParts_119 : decode cX11_grantParts 119 = .ok (.putfield 347, 3) := by decide +kernel
theorem dX11_grantParts_122 : decode cX11_grantParts 122 = .ok (.aload 7, 2) := by decide +kernel
theorem dX11_grantParts_124 : decode cX11_grantParts 124 = .ok (.lconst 0, 1) := by decide +kernel
theorem dX11_grantParts_125 : decode cX11_grantParts 125 = .ok (.putfield 358, 3) := by decide +kernel
theorem dX11_grantParts_128 : decode cX11_grantParts 128 = .ok (.lload 4, 2) := by decide +kernel
theorem dX11_grantParts_130 : decode cX11_grantParts 130 = .ok (.lconst 1, 1) := by decide +kernel
theorem dX11_grantParts_131 : decode cX11_grantParts 131 = .ok (.lsub, 1) := by decide +kernel
theorem dX11_grantParts_132 : decode cX11_grantParts 132 = .ok (.lstore 4, 2) := by decide +kernel
theorem dX11_grantParts_134 : decode cX11_grantParts 134 = .ok (.iinc 6 1, 3) := by decide +kernel
theorem dX11_grantParts_137 : decode cX11_grantParts 137 = .ok (.goto (-58), 3) := by decide +kernel
theorem dX11_grantParts_140 : decode cX11_grantParts 140 = .ok (.return_, 1) := by decide +kernel
theorem dX11_mostCut_0 : decode cX11_mostCut 0 = .ok (.aconst_null, 1) := by decide +kernel
theorem dX11_mostCut_1 : decode cX11_mostCut 1 = .ok (.astore_n 2, 1) := by decide +kernel
theorem dX11_mostCut_2 : decode cX11_mostCut 2 = .ok (.iconst 0, 1) := by decide +kernel
theorem dX11_mostCut_3 : decode cX11_mostCut 3 = .ok (.istore_n 3, 1) := by decide +kernel
theorem dX11_mostCut_4 : decode cX11_mostCut 4 = .ok (.iload_n 3, 1) := by decide +kernel
theorem dX11_mostCut_5 : decode cX11_mostCut 5 = .ok (.aload_n 0, 1) := by decide +kernel
theorem dX11_mostCut_6 : decode cX11_mostCut 6 = .ok (.getfield 49, 3) := by decide +kernel
theorem dX11_mostCut_9 : decode cX11_mostCut 9 = .ok (.invokevirtual 80, 3) := by decide +kernel
theorem dX11_mostCut_12 : decode cX11_mostCut 12 = .ok (.if_icmp .ge 61, 3) := by decide +kernel
theorem dX11_mostCut_15 : decode cX11_mostCut 15 = .ok (.aload_n 0, 1) := by decide +kernel
theorem dX11_mostCut_16 : decode cX11_mostCut 16 = .ok (.getfield 49, 3) := by decide +kernel
theorem dX11_mostCut_19 : decode cX11_mostCut 19 = .ok (.iload_n 3, 1) := by decide +kernel
theorem dX11_mostCut_20 : decode cX11_mostCut 20 = .ok (.invokevirtual 125, 3) := by decide +kernel
theorem dX11_mostCut_23 : decode cX11_mostCut 23 = .ok (.checkcast 280, 3) := by decide +kernel
theorem dX11_mostCut_26 : decode cX11_mostCut 26 = .ok (.astore 4, 2) := by decide +kernel
theorem dX11_mostCut_28 : decode cX11_mostCut 28 = .ok (.aload 4, 2) := by decide +kernel
theorem dX11_mostCut_30 : decode cX11_mostCut 30 = .ok (.getfield 292, 3) := by decide +kernel
theorem dX11_mostCut_33 : decode cX11_mostCut 33 = .ok (.iload_n 1, 1) := by decide +kernel
theorem dX11_mostCut_34 : decode cX11_mostCut 34 = .ok (.if_icmp .ne 33, 3) := by decide +kernel
theorem dX11_mostCut_37 : decode cX11_mostCut 37 = .ok (.aload 4, 2) := by decide +kernel
theorem dX11_mostCut_39 : decode cX11_mostCut 39 = .ok (.getfield 358, 3) := by decide +kernel
theorem dX11_mostCut_42 : decode cX11_mostCut 42 = .ok (.lconst 0, 1) := by decide +kernel
theorem dX11_mostCut_43 : decode cX11_mostCut 43 = .ok (.lcmp, 1) := by decide +kernel
theorem dX11_mostCut_44 : decode cX11_mostCut 44 = .ok (.ifCond .le 23, 3) := by decide +kernel
theorem dX11_mostCut_47 : decode cX11_mostCut 47 = .ok (.aload_n 2, 1) := by decide +kernel
theorem dX11_mostCut_48 : decode cX11_mostCut 48 = .ok (.ifnull 16, 3) := by decide +kernel
theorem dX11_mostCut_51 : decode cX11_mostCut 51 = .ok (.aload 4, 2) := by decide +kernel
theorem dX11_mostCut_53 : decode cX11_mostCut 53 = .ok (.getfield 358, 3) := by decide +kernel
theorem dX11_mostCut_56 : decode cX11_mostCut 56 = .ok (.aload_n 2, 1) := by decide +kernel
theorem dX11_mostCut_57 : decode cX11_mostCut 57 = .ok (.getfield 358, 3) := by decide +kernel
theorem dX11_mostCut_60 : decode cX11_mostCut 60 = .ok (.lcmp, 1) := by decide +kernel
theorem dX11_mostCut_61 : decode cX11_mostCut 61 = .ok (.ifCond .le 6, 3) := by decide +kernel
theorem dX11_mostCut_64 : decode cX11_mostCut 64 = .ok (.aload 4, 2) := by decide +kernel
theorem dX11_mostCut_66 : decode cX11_mostCut 66 = .ok (.astore_n 2, 1) := by decide +kernel
theorem dX11_mostCut_67 : decode cX11_mostCut 67 = .ok (.iinc 3 1, 3) := by decide +kernel
theorem dX11_mostCut_70 : decode cX11_mostCut 70 = .ok (.goto (-66), 3) := by decide +kernel
theorem dX11_mostCut_73 : decode cX11_mostCut 73 = .ok (.aload_n 2, 1) := by decide +kernel
theorem dX11_mostCut_74 : decode cX11_mostCut 74 = .ok (.areturn, 1) := by decide +kernel
theorem dX11_payGranted_0 : decode cX11_payGranted 0 = .ok (.iconst 0, 1) := by decide +kernel
theorem dX11_payGranted_1 : decode cX11_payGranted 1 = .ok (.istore_n 2, 1) := by decide +kernel
theorem dX11_payGranted_2 : decode cX11_payGranted 2 = .ok (.iload_n 2, 1) := by decide +kernel
theorem dX11_payGranted_3 : decode cX11_payGranted 3 = .ok (.aload_n 0, 1) := by decide +kernel
theorem dX11_payGranted_4 : decode cX11_payGranted 4 = .ok (.getfield 49, 3) := by decide +kernel
theorem dX11_payGranted_7 : decode cX11_payGranted 7 = .ok (.invokevirtual 80, 3) := by decide +kernel
theorem dX11_payGranted_10 : decode cX11_payGranted 10 = .ok (.if_icmp .ge 69, 3) := by decide +kernel
theorem dX11_payGranted_13 : decode cX11_payGranted 13 = .ok (.aload_n 0, 1) := by decide +kernel
theorem dX11_payGranted_14 : decode cX11_payGranted 14 = .ok (.getfield 49, 3) := by decide +kernel
theorem dX11_payGranted_17 : decode cX11_payGranted 17 = .ok (.iload_n 2, 1) := by decide +kernel
theorem dX11_payGranted_18 : decode cX11_payGranted 18 = .ok (.invokevirtual 125, 3) := by decide +kernel
theorem dX11_payGranted_21 : decode cX11_payGranted 21 = .ok (.checkcast 280, 3) := by decide +kernel
theorem dX11_payGranted_24 : decode cX11_payGranted 24 = .ok (.astore_n 3, 1) := by decide +kernel
theorem dX11_payGranted_25 : decode cX11_payGranted 25 = .ok (.aload_n 3, 1) := by decide +kernel
theorem dX11_payGranted_26 : decode cX11_payGranted 26 = .ok (.getfield 292, 3) := by decide +kernel
theorem dX11_payGranted_29 : decode cX11_payGranted 29 = .ok (.iload_n 1, 1) := by decide +kernel
theorem dX11_payGranted_30 : decode cX11_payGranted 30 = .ok (.if_icmp .ne 43, 3) := by decide +kernel
theorem dX11_payGranted_33 : decode cX11_payGranted 33 = .ok (.aload_n 3, 1) := by decide +kernel
theorem dX11_payGranted_34 : decode cX11_payGranted 34 = .ok (.getfield 347, 3) := by decide +kernel
theorem dX11_payGranted_37 : decode cX11_payGranted 37 = .ok (.lconst 0, 1) := by decide +kernel
theorem dX11_payGranted_38 : decode cX11_payGranted 38 = .ok (.lcmp, 1) := by decide +kernel
theorem dX11_payGranted_39 : decode cX11_payGranted 39 = .ok (.ifCond .le 34, 3) := by decide +kernel
theorem dX11_payGranted_42 : decode cX11_payGranted 42 = .ok (.aload_n 3, 1) := by decide +kernel
theorem dX11_payGranted_43 : decode cX11_payGranted 43 = .ok (.dup, 1) := by decide +kernel
theorem dX11_payGranted_44 : decode cX11_payGranted 44 = .ok (.getfield 295, 3) := by decide +kernel
theorem dX11_payGranted_47 : decode cX11_payGranted 47 = .ok (.aload_n 3, 1) := by decide +kernel
theorem dX11_payGranted_48 : decode cX11_payGranted 48 = .ok (.getfield 347, 3) := by decide +kernel
theorem dX11_payGranted_51 : decode cX11_payGranted 51 = .ok (.lsub, 1) := by decide +kernel
theorem dX11_payGranted_52 : decode cX11_payGranted 52 = .ok (.putfield 295, 3) := by decide +kernel
theorem dX11_payGranted_55 : decode cX11_payGranted 55 = .ok (.aload_n 0, 1) := by decide +kernel
theorem dX11_payGranted_56 : decode cX11_payGranted 56 = .ok (.getfield 26, 3) := by decide +kernel
theorem dX11_payGranted_59 : decode cX11_payGranted 59 = .ok (.aload_n 0, 1) := by decide +kernel
theorem dX11_payGranted_60 : decode cX11_payGranted 60 = .ok (.getfield 52, 3) := by decide +kernel
theorem dX11_payGranted_63 : decode cX11_payGranted 63 = .ok (.iconst 4, 1) := by decide +kernel
theorem dX11_payGranted_64 : decode cX11_payGranted 64 = .ok (.iload_n 2, 1) := by decide +kernel
theorem dX11_payGranted_65 : decode cX11_payGranted 65 = .ok (.aload_n 3, 1) := by decide +kernel
theorem dX11_payGranted_66 : decode cX11_payGranted 66 = .ok (.getfield 347, 3) := by decide +kernel
theorem dX11_payGranted_69 : decode cX11_payGranted 69 = .ok (.lneg, 1) := by decide +kernel
theorem dX11_payGranted_70 : decode cX11_payGranted 70 = .ok (.invokevirtual 214, 3) := by decide +kernel
theorem dX11_payGranted_73 : decode cX11_payGranted 73 = .ok (.iinc 2 1, 3) := by decide +kernel
theorem dX11_payGranted_76 : decode cX11_payGranted 76 = .ok (.goto (-74), 3) := by decide +kernel
theorem dX11_payGranted_79 : decode cX11_payGranted 79 = .ok (.return_, 1) := by decide +kernel
theorem dX12_init_0 : decode cX12_init 0 = .ok (.aload_n 0, 1) := by decide +kernel
theorem dX12_init_1 : decode cX12_init 1 = .ok (.invokespecial 1, 3) := by decide +kernel
theorem dX12_init_4 : decode cX12_init 4 = .ok (.aload_n 0, 1) := by decide +kernel
theorem dX12_init_5 : decode cX12_init 5 = .ok (.sipush 2000, 3) := by decide +kernel
theorem dX12_init_8 : decode cX12_init 8 = .ok (.newarray .byte, 2) := by decide +kernel
theorem dX12_init_10 : decode cX12_init 10 = .ok (.putfield 7, 3) := by decide +kernel
theorem dX12_init_13 : decode cX12_init 13 = .ok (.aload_n 0, 1) := by decide +kernel
theorem dX12_init_14 : decode cX12_init 14 = .ok (.iconst (-1), 1) := by decide +kernel
theorem dX12_init_15 : decode cX12_init 15 = .ok (.putfield 13, 3) := by decide +kernel
theorem dX12_init_18 : decode cX12_init 18 = .ok (.aload_n 0, 1) := by decide +kernel
theorem dX12_init_19 : decode cX12_init 19 = .ok (.bipush 12, 2) := by decide +kernel
theorem dX12_init_21 : decode cX12_init 21 = .ok (.newarray .int, 2) := by decide +kernel
theorem dX12_init_23 : decode cX12_init 23 = .ok (.putfield 17, 3) := by decide +kernel
theorem dX12_init_26 : decode cX12_init 26 = .ok (.aload_n 0, 1) := by decide +kernel
theorem dX12_init_27 : decode cX12_init 27 = .ok (.bipush 12, 2) := by decide +kernel
theorem dX12_init_29 : decode cX12_init 29 = .ok (.newarray .int, 2) := by decide +kernel
theorem dX12_init_31 : decode cX12_init 31 = .ok (.putfield 21, 3) := by decide +kernel
theorem dX12_init_34 : decode cX12_init 34 = .ok (.aload_n 0, 1) := by decide +kernel
theorem dX12_init_35 : decode cX12_init 35 = .ok (.sipush 480, 3) := by decide +kernel
theorem dX12_init_38 : decode cX12_init 38 = .ok (.newarray .int, 2) := by decide +kernel
theorem dX12_init_40 : decode cX12_init 40 = .ok (.putfield 24, 3) := by decide +kernel
theorem dX12_init_43 : decode cX12_init 43 = .ok (.aload_n 0, 1) := by decide +kernel
theorem dX12_init_44 : decode cX12_init 44 = .ok (.sipush 480, 3) := by decide +kernel
theorem dX12_init_47 : decode cX12_init 47 = .ok (.newarray .int, 2) := by decide +kernel
theorem dX12_init_49 : decode cX12_init 49 = .ok (.putfield 27, 3) := by decide +kernel
theorem dX12_init_52 : decode cX12_init 52 = .ok (.aload_n 0, 1) := by decide +kernel
theorem dX12_init_53 : decode cX12_init 53 = .ok (.sipush 480, 3) := by decide +kernel
theorem dX12_init_56 : decode cX12_init 56 = .ok (.newarray .int, 2) := by decide +kernel
theorem dX12_init_58 : decode cX12_init 58 = .ok (.putfield 30, 3) := by decide +kernel
theorem dX12_init_61 : decode cX12_init 61 = .ok (.aload_n 0, 1) := by decide +kernel
theorem dX12_init_62 : decode cX12_init 62 = .ok (.sipush 481, 3) := by decide +kernel
theorem dX12_init_65 : decode cX12_init 65 = .ok (.newarray .int, 2) := by decide +kernel
theorem dX12_init_67 : decode cX12_init 67 = .ok (.putfield 33, 3) := by decide +kernel
theorem dX12_init_70 : decode cX12_init 70 = .ok (.aload_n 0, 1) := by decide +kernel
theorem dX12_init_71 : decode cX12_init 71 = .ok (.sipush 480, 3) := by decide +kernel
theorem dX12_init_74 : decode cX12_init 74 = .ok (.newarray .int, 2) := by decide +kernel
theorem dX12_init_76 : decode cX12_init 76 = .ok (.putfield 36, 3) := by decide +kernel
theorem dX12_init_79 : decode cX12_init 79 = .ok (.aload_n 0, 1) := by decide +kernel
theorem dX12_init_80 : decode cX12_init 80 = .ok (.sipush 400, 3) := by decide +kernel
theorem dX12_init_83 : decode cX12_init 83 = .ok (.newarray .int, 2) := by decide +kernel
theorem dX12_init_85 : decode cX12_init 85 = .ok (.putfield 39, 3) := by decide +kernel
theorem dX12_init_88 : decode cX12_init 88 = .ok (.aload_n 0, 1) := by decide +kernel
theorem dX12_init_89 : decode cX12_init 89 = .ok (.sipush 400, 3) := by decide +kernel
theorem dX12_init_92 : decode cX12_init 92 = .ok (.newarray .int, 2) := by decide +kernel
theorem dX12_init_94 : decode cX12_init 94 = .ok (.putfield 42, 3) := by decide +kernel
theorem dX12_init_97 : decode cX12_init 97 = .ok (.aload_n 0, 1) := by decide +kernel
theorem dX12_init_98 : decode cX12_init 98 = .ok (.bipush 60, 2) := by decide +kernel
theorem dX12_init_100 : decode cX12_init 100 = .ok (.newarray .int, 2) := by decide +kernel
theorem dX12_init_102 : decode cX12_init 102 = .ok (.putfield 45, 3) := by decide +kernel
theorem dX12_init_105 : decode cX12_init 105 = .ok (.aload_n 0, 1) := by decide +kernel
theorem dX12_init_106 : decode cX12_init 106 = .ok (.bipush 60, 2) := by decide +kernel
theorem dX12_init_108 : decode cX12_init 108 = .ok (.newarray .int, 2) := by decide +kernel
theorem dX12_init_110 : decode cX12_init 110 = .ok (.putfield 48, 3) := by decide +kernel
theorem dX12_init_113 : decode cX12_init 113 = .ok (.aload_n 0, 1) := by decide +kernel
theorem dX12_init_114 : decode cX12_init 114 = .ok (.bipush 60, 2) := by decide +kernel
theorem dX12_init_116 : decode cX12_init 116 = .ok (.newarray .int, 2) := by decide +kernel
theorem dX12_init_118 : decode cX12_init 118 = .ok (.putfield 51, 3) := by decide +kernel
theorem dX12_init_121 : decode cX12_init 121 = .ok (.aload_n 0, 1) := by decide +kernel
theorem dX12_init_122 : decode cX12_init 122 = .ok (.bipush 60, 2) := by decide +kernel
theorem dX12_init_124 : decode cX12_init 124 = .ok (.newarray .int, 2) := by decide +kernel
theorem dX12_init_126 : decode cX12_init 126 = .ok (.putfield 54, 3) := by decide +kernel
theorem dX12_init_129 : decode cX12_init 129 = .ok (.aload_n 0, 1) := by decide +kernel
theorem dX12_init_130 : decode cX12_init 130 = .ok (.sipush 480, 3) := by decide +kernel
theorem dX12_init_133 : decode cX12_init 133 = .ok (.newarray .int, 2) := by decide +kernel
theorem dX12_init_135 : decode cX12_init 135 = .ok (.putfield 57, 3) := by decide +kernel
theorem dX12_init_138 : decode cX12_init 138 = .ok (.aload_n 0, 1) := by decide +kernel
theorem dX12_init_139 : decode cX12_init 139 = .ok (.sipush 480, 3) := by decide +kernel
theorem dX12_init_142 : decode cX12_init 142 = .ok (.newarray .int, 2) := by decide +kernel
theorem dX12_init_144 : decode cX12_init 144 = .ok (.putfield 60, 3) := by decide +kernel
theorem dX12_init_147 : decode cX12_init 147 = .ok (.aload_n 0, 1) := by decide +kernel
theorem dX12_init_148 : decode cX12_init 148 = .ok (.bipush 12, 2) := by decide +kernel
theorem dX12_init_150 : decode cX12_init 150 = .ok (.newarray .int, 2) := by decide +kernel
theorem dX12_init_152 : decode cX12_init 152 = .ok (.putfield 63, 3) := by decide +kernel
theorem dX12_init_155 : decode cX12_init 155 = .ok (.aload_n 0, 1) := by decide +kernel
theorem dX12_init_156 : decode cX12_init 156 = .ok (.bipush 12, 2) := by decide +kernel
theorem dX12_init_158 : decode cX12_init 158 = .ok (.newarray .long, 2) := by decide +kernel
theorem dX12_init_160 : decode cX12_init 160 = .ok (.putfield 66, 3) := by decide +kernel
theorem dX12_init_163 : decode cX12_init 163 = .ok (.aload_n 0, 1) := by decide +kernel
theorem dX12_init_164 : decode cX12_init 164 = .ok (.bipush 8, 2) := by decide +kernel
theorem dX12_init_166 : decode cX12_init 166 = .ok (.newarray .int, 2) := by decide +kernel
theorem dX12_init_168 : decode cX12_init 168 = .ok (.putfield 70, 3) := by decide +kernel
theorem dX12_init_171 : decode cX12_init 171 = .ok (.aload_n 0, 1) := by decide +kernel
theorem dX12_init_172 : decode cX12_init 172 = .ok (.bipush 8, 2) := by decide +kernel
theorem dX12_init_174 : decode cX12_init 174 = .ok (.newarray .int, 2) := by decide +kernel
theorem dX12_init_176 : decode cX12_init 176 = .ok (.putfield 73, 3) := by decide +kernel
theorem dX12_init_179 : decode cX12_init 179 = .ok (.aload_n 0, 1) := by decide +kernel
theorem dX12_init_180 : decode cX12_init 180 = .ok (.bipush 64, 2) := by decide +kernel
theorem dX12_init_182 : decode cX12_init 182 = .ok (.newarray .boolean, 2) := by decide +kernel
theorem dX12_init_184 : decode cX12_init 184 = .ok (.putfield 76, 3) := by decide +kernel
theorem dX12_init_187 : decode cX12_init 187 = .ok (.aload_n 0, 1) := by decide +kernel
theorem dX12_init_188 : decode cX12_init 188 = .ok (.bipush 40, 2) := by decide +kernel
theorem dX12_init_190 : decode cX12_init 190 = .ok (.newarray .int, 2) := by decide +kernel
theorem dX12_init_192 : decode cX12_init 192 = .ok (.putfield 80, 3) := by decide +kernel
theorem dX12_init_195 : decode cX12_init 195 = .ok (.aload_n 0, 1) := by decide +kernel
theorem dX12_init_196 : decode cX12_init 196 = .ok (.iconst (-1), 1) := by decide +kernel
theorem dX12_init_197 : decode cX12_init 197 = .ok (.putfield 83, 3) := by decide +kernel
theorem dX12_init_200 : decode cX12_init 200 = .ok (.aload_n 0, 1) := by decide +kernel
theorem dX12_init_201 : decode cX12_init 201 = .ok (.sipush 600, 3) := by decide +kernel
theorem dX12_init_204 : decode cX12_init 204 = .ok (.newarray .int, 2) := by decide +kernel
theorem dX12_init_206 : decode cX12_init 206 = .ok (.putfield 86, 3) := by decide +kernel
theorem dX12_init_209 : decode cX12_init 209 = .ok (.aload_n 0, 1) := by decide +kernel
theorem dX12_init_210 : decode cX12_init 210 = .ok (.sipush 600, 3) := by decide +kernel
theorem dX12_init_213 : decode cX12_init 213 = .ok (.newarray .int, 2) := by decide +kernel
theorem dX12_init_215 : decode cX12_init 215 = .ok (.putfield 89, 3) := by decide +kernel
theorem dX12_init_218 : decode cX12_init 218 = .ok (.aload_n 0, 1) := by decide +kernel
theorem dX12_init_219 : decode cX12_init 219 = .ok (.sipush 600, 3) := by decide +kernel
theorem dX12_init_222 : decode cX12_init 222 = .ok (.newarray .int, 2) := by decide +kernel
theorem dX12_init_224 : decode cX12_init 224 = .ok (.putfield 92, 3) := by decide +kernel
theorem dX12_init_227 : decode cX12_init 227 = .ok (.aload_n 0, 1) := by decide +kernel
theorem dX12_init_228 : decode cX12_init 228 = .ok (.sipush 600, 3) := by decide +kernel
theorem dX12_init_231 : decode cX12_init 231 = .ok (.newarray .int, 2) := by decide +kernel
theorem dX12_init_233 : decode cX12_init 233 = .ok (.putfield 95, 3) := by decide +kernel
theorem dX12_init_236 : decode cX12_init 236 = .ok (.aload_n 0, 1) := by decide +kernel
theorem dX12_init_237 : decode cX12_init 237 = .ok (.bipush 8, 2) := by decide +kernel
theorem dX12_init_239 : decode cX12_init 239 = .ok (.newarray .long, 2) := by decide +kernel
theorem dX12_init_241 : decode cX12_init 241 = .ok (.putfield 98, 3) := by decide +kernel
theorem dX12_init_244 : decode cX12_init 244 = .ok (.aload_n 0, 1) := by decide +kernel
theorem dX12_init_245 : decode cX12_init 245 = .ok (.bipush 8, 2) := by decide +kernel
theorem dX12_init_247 : decode cX12_init 247 = .ok (.newarray .int, 2) := by decide +kernel
theorem dX12_init_249 : decode cX12_init 249 = .ok (.putfield 101, 3) := by decide +kernel
theorem dX12_init_252 : decode cX12_init 252 = .ok (.aload_n 0, 1) := by decide +kernel
theorem dX12_init_253 : decode cX12_init 253 = .ok (.bipush 80, 2) := by decide +kernel
theorem dX12_init_255 : decode cX12_init 255 = .ok (.newarray .int, 2) := by decide +kernel
theorem dX12_init_257 : decode cX12_init 257 = .ok (.putfield 104, 3) := by decide +kernel
theorem dX12_init_260 : decode cX12_init 260 = .ok (.aload_n 0, 1) := by decide +kernel
theorem dX12_init_261 : decode cX12_init 261 = .ok (.bipush 80, 2) := by decide +kernel
theorem dX12_init_263 : decode cX12_init 263 = .ok (.newarray .int, 2) := by decide +kernel
theorem dX12_init_265 : decode cX12_init 265 = .ok (.putfield 107, 3) := by decide +kernel
theorem dX12_init_268 : decode cX12_init 268 = .ok (.aload_n 0, 1) := by decide +kernel
theorem dX12_init_269 : decode cX12_init 269 = .ok (.bipush 80, 2) := by decide +kernel
theorem dX12_init_271 : decode cX12_init 271 = .ok (.newarray .int, 2) := by decide +kernel
theorem dX12_init_273 : decode cX12_init 273 = .ok (.putfield 110, 3) := by decide +kernel
theorem dX12_init_276 : decode cX12_init 276 = .ok (.aload_n 0, 1) := by decide +kernel
theorem dX12_init_277 : decode cX12_init 277 = .ok (.bipush 8, 2) := by decide +kernel
theorem dX12_init_279 : decode cX12_init 279 = .ok (.newarray .int, 2) := by decide +kernel
theorem dX12_init_281 : decode cX12_init 281 = .ok (.putfield 113, 3) := by decide +kernel
theorem dX12_init_284 : decode cX12_init 284 = .ok (.aload_n 0, 1) := by decide +kernel
theorem dX12_init_285 : decode cX12_init 285 = .ok (.bipush 8, 2) := by decide +kernel
theorem dX12_init_287 : decode cX12_init 287 = .ok (.newarray .int, 2) := by decide +kernel
theorem dX12_init_289 : decode cX12_init 289 = .ok (.putfield 116, 3) := by decide +kernel
theorem dX12_init_292 : decode cX12_init 292 = .ok (.aload_n 0, 1) := by decide +kernel
theorem dX12_init_293 : decode cX12_init 293 = .ok (.bipush 8, 2) := by decide +kernel
theorem dX12_init_295 : decode cX12_init 295 = .ok (.newarray .int, 2) := by decide +kernel
theorem dX12_init_297 : decode cX12_init 297 = .ok (.putfield 119, 3) := by decide +kernel
theorem dX12_init_300 : decode cX12_init 300 = .ok (.aload_n 0, 1) := by decide +kernel
theorem dX12_init_301 : decode cX12_init 301 = .ok (.bipush 8, 2) := by decide +kernel
theorem dX12_init_303 : decode cX12_init 303 = .ok (.newarray .int, 2) := by decide +kernel
theorem dX12_init_305 : decode cX12_init 305 = .ok (.putfield 122, 3) := by decide +kernel
theorem dX12_init_308 : decode cX12_init 308 = .ok (.aload_n 0, 1) := by decide +kernel
theorem dX12_init_309 : decode cX12_init 309 = .ok (.bipush 8, 2) := by decide +kernel
theorem dX12_init_311 : decode cX12_init 311 = .ok (.newarray .int, 2) := by decide +kernel
theorem dX12_init_313 : decode cX12_init 313 = .ok (.putfield 125, 3) := by decide +kernel
theorem dX12_init_316 : decode cX12_init 316 = .ok (.aload_n 0, 1) := by decide +kernel
theorem dX12_init_317 : decode cX12_init 317 = .ok (.bipush 10, 2) := by decide +kernel
theorem dX12_init_319 : decode cX12_init 319 = .ok (.newarray .int, 2) := by decide +kernel
theorem dX12_init_321 : decode cX12_init 321 = .ok (.putfield 128, 3) := by decide +kernel
theorem dX12_init_324 : decode cX12_init 324 = .ok (.aload_n 0, 1) := by decide +kernel
theorem dX12_init_325 : decode cX12_init 325 = .ok (.bipush 10, 2) := by decide +kernel
theorem dX12_init_327 : decode cX12_init 327 = .ok (.newarray .int, 2) := by decide +kernel
theorem dX12_init_329 : decode cX12_init 329 = .ok (.putfield 131, 3) := by decide +kernel
theorem dX12_init_332 : decode cX12_init 332 = .ok (.aload_n 0, 1) := by decide +kernel
theorem dX12_init_333 : decode cX12_init 333 = .ok (.bipush 10, 2) := by decide +kernel
theorem dX12_init_335 : decode cX12_init 335 = .ok (.newarray .int, 2) := by decide +kernel
theorem dX12_init_337 : decode cX12_init 337 = .ok (.putfield 134, 3) := by decide +kernel
theorem dX12_init_340 : decode cX12_init 340 = .ok (.aload_n 0, 1) := by decide +kernel
theorem dX12_init_341 : decode cX12_init 341 = .ok (.bipush 10, 2) := by decide +kernel
theorem dX12_init_343 : decode cX12_init 343 = .ok (.newarray .long, 2) := by decide +kernel
theorem dX12_init_345 : decode cX12_init 345 = .ok (.putfield 137, 3) := by decide +kernel
theorem dX12_init_348 : decode cX12_init 348 = .ok (.aload_n 0, 1) := by decide +kernel
theorem dX12_init_349 : decode cX12_init 349 = .ok (.bipush 10, 2) := by decide +kernel
theorem dX12_init_351 : decode cX12_init 351 = .ok (.newarray .long, 2) := by decide +kernel
theorem dX12_init_353 : decode cX12_init 353 = .ok (.putfield 140, 3) := by decide +kernel
theorem dX12_init_356 : decode cX12_init 356 = .ok (.aload_n 0, 1) := by decide +kernel
theorem dX12_init_357 : decode cX12_init 357 = .ok (.bipush 10, 2) := by decide +kernel
theorem dX12_init_359 : decode cX12_init 359 = .ok (.newarray .long, 2) := by decide +kernel
theorem dX12_init_361 : decode cX12_init 361 = .ok (.putfield 143, 3) := by decide +kernel
theorem dX12_init_364 : decode cX12_init 364 = .ok (.return_, 1) := by decide +kernel
theorem dX12_thrown_0 : decode cX12_thrown 0 = .ok (.aload_n 0, 1) := by decide +kernel
theorem dX12_thrown_1 : decode cX12_thrown 1 = .ok (.getfield 146, 3) := by decide +kernel
theorem dX12_thrown_4 : decode cX12_thrown 4 = .ok (.ireturn, 1) := by decide +kernel
theorem dX12_bad_0 : decode cX12_bad 0 = .ok (.iload_n 1, 1) := by decide +kernel
theorem dX12_bad_1 : decode cX12_bad 1 = .ok (.ifCond .eq 8, 3) := by decide +kernel
theorem dX12_bad_4 : decode cX12_bad 4 = .ok (.aload_n 0, 1) := by decide +kernel
theorem dX12_bad_5 : decode cX12_bad 5 = .ok (.iload_n 2, 1) := by decide +kernel
theorem dX12_bad_6 : decode cX12_bad 6 = .ok (.putfield 146, 3) := by decide +kernel
theorem dX12_bad_9 : decode cX12_bad 9 = .ok (.iload_n 1, 1) := by decide +kernel
theorem dX12_bad_10 : decode cX12_bad 10 = .ok (.ireturn, 1) := by decide +kernel
theorem dX12_feed_0 : decode cX12_feed 0 = .ok (.aload_n 0, 1) := by decide +kernel
theorem dX12_feed_1 : decode cX12_feed 1 = .ok (.iconst 0, 1) := by decide +kernel
theorem dX12_feed_2 : decode cX12_feed 2 = .ok (.putfield 146, 3) := by decide +kernel
theorem dX12_feed_5 : decode cX12_feed 5 = .ok (.aload_n 0, 1) := by decide +kernel
theorem dX12_feed_6 : decode cX12_feed 6 = .ok (.getfield 149, 3) := by decide +kernel
theorem dX12_feed_9 : decode cX12_feed 9 = .ok (.bipush 20, 2) := by decide +kernel
theorem dX12_feed_11 : decode cX12_feed 11 = .ok (.iadd, 1) := by decide +kernel
theorem dX12_feed_12 : decode cX12_feed 12 = .ok (.sipush 2000, 3) := by decide +kernel
theorem dX12_feed_15 : decode cX12_feed 15 = .ok (.if_icmp .le 5, 3) := by decide +kernel
theorem dX12_feed_18 : decode cX12_feed 18 = .ok (.iconst (-1), 1) := by decide +kernel
theorem dX12_feed_19 : decode cX12_feed 19 = .ok (.ireturn, 1) := by decide +kernel
theorem dX12_feed_20 : decode cX12_feed 20 = .ok (.iconst 0, 1) := by decide +kernel
theorem dX12_feed_21 : decode cX12_feed 21 = .ok (.istore 6, 2) := by decide +kernel
theorem dX12_feed_23 : decode cX12_feed 23 = .ok (.iload 6, 2) := by decide +kernel
theorem dX12_feed_25 : decode cX12_feed 25 = .ok (.iconst 5, 1) := by decide +kernel
theorem dX12_feed_26 : decode cX12_feed 26 = .ok (.if_icmp .ge 93, 3) := by decide +kernel
theorem dX12_feed_29 : decode cX12_feed 29 = .ok (.iload 6, 2) := by decide +kernel
theorem dX12_feed_31 : decode cX12_feed 31 = .ok (.ifCond .ne 7, 3) := by decide +kernel
theorem dX12_feed_34 : decode cX12_feed 34 = .ok (.iload_n 1, 1) := by decide +kernel
theorem dX12_feed_35 : decode cX12_feed 35 = .ok (.goto 36, 3) := by decide +kernel
theorem dX12_feed_38 : decode cX12_feed 38 = .ok (.iload 6, 2) := by decide +kernel
theorem dX12_feed_40 : decode cX12_feed 40 = .ok (.iconst 1, 1) := by decide +kernel
theorem dX12_feed_41 : decode cX12_feed 41 = .ok (.if_icmp .ne 7, 3) := by decide +kernel
theorem dX12_feed_44 : decode cX12_feed 44 = .ok (.iload_n 2, 1) := by decide +kernel
theorem dX12_feed_45 : decode cX12_feed 45 = .ok (.goto 26, 3) := by decide +kernel
theorem dX12_feed_48 : decode cX12_feed 48 = .ok (.iload 6, 2) := by decide +kernel
theorem dX12_feed_50 : decode cX12_feed 50 = .ok (.iconst 2, 1) := by decide +kernel
theorem dX12_feed_51 : decode cX12_feed 51 = .ok (.if_icmp .ne 7, 3) := by decide +kernel
theorem dX12_feed_54 : decode cX12_feed 54 = .ok (.iload_n 3, 1) := by decide +kernel
theorem dX12_feed_55 : decode cX12_feed 55 = .ok (.goto 16, 3) := by decide +kernel
theorem dX12_feed_58 : decode cX12_feed 58 = .ok (.iload 6, 2) := by decide +kernel
theorem dX12_feed_60 : decode cX12_feed 60 = .ok (.iconst 3, 1) := by decide +kernel
theorem dX12_feed_61 : decode cX12_feed 61 = .ok (.if_icmp .ne 8, 3) := by decide +kernel
theorem dX12_feed_64 : decode cX12_feed 64 = .ok (.iload 4, 2) := by decide +kernel
theorem dX12_feed_66 : decode cX12_feed 66 = .ok (.goto 5, 3) := by decide +kernel
theorem dX12_feed_69 : decode cX12_feed 69 = .ok (.iload 5, 2) := by decide +kernel
theorem dX12_feed_71 : decode cX12_feed 71 = .ok (.istore 7, 2) := by decide +kernel
theorem dX12_feed_73 : decode cX12_feed 73 = .ok (.bipush 24, 2) := by decide +kernel
theorem dX12_feed_75 : decode cX12_feed 75 = .ok (.istore 8, 2) := by decide +kernel
theorem dX12_feed_77 : decode cX12_feed 77 = .ok (.iload 8, 2) := by decide +kernel
theorem dX12_feed_79 : decode cX12_feed 79 = .ok (.ifCond .lt 34, 3) := by decide +kernel
theorem dX12_feed_82 : decode cX12_feed 82 = .ok (.aload_n 0, 1) := by decide +kernel
theorem dX12_feed_83 : decode cX12_feed 83 = .ok (.getfield 7, 3) := by decide +kernel
theorem dX12_feed_86 : decode cX12_feed 86 = .ok (.aload_n 0, 1) := by decide +kernel
theorem dX12_feed_87 : decode cX12_feed 87 = .ok (.getfield 149, 3) := by decide +kernel
theorem dX12_feed_90 : decode cX12_feed 90 = .ok (.iload 7, 2) := by decide +kernel
theorem dX12_feed_92 : decode cX12_feed 92 = .ok (.iload 8, 2) := by decide +kernel
theorem dX12_feed_94 : decode cX12_feed 94 = .ok (.ishr, 1) := by decide +kernel
theorem dX12_feed_95 : decode cX12_feed 95 = .ok (.i2b, 1) := by decide +kernel
theorem dX12_feed_96 : decode cX12_feed 96 = .ok (.bastore, 1) := by decide +kernel
theorem dX12_feed_97 : decode cX12_feed 97 = .ok (.aload_n 0, 1) := by decide +kernel
theorem dX12_feed_98 : decode cX12_feed 98 = .ok (.dup, 1) := by decide +kernel
theorem dX12_feed_99 : decode cX12_feed 99 = .ok (.getfield 149, 3) := by decide +kernel
theorem dX12_feed_102 : decode cX12_feed 102 = .ok (.iconst 1, 1) := by decide +kernel
theorem dX12_feed_103 : decode cX12_feed 103 = .ok (.iadd, 1) := by decide +kernel
theorem dX12_feed_104 : decode cX12_feed 104 = .ok (.putfield 149, 3) := by decide +kernel
theorem dX12_feed_107 : decode cX12_feed 107 = .ok (.iinc 8 (-8), 3) := by decide +kernel
theorem dX12_feed_110 : decode cX12_feed 110 = .ok (.goto (-33), 3) := by decide +kernel
theorem dX12_feed_113 : decode cX12_feed 113 = .ok (.iinc 6 1, 3) := by decide +kernel
theorem dX12_feed_116 : decode cX12_feed 116 = .ok (.goto (-93), 3) := by decide +kernel
theorem dX12_feed_119 : decode cX12_feed 119 = .ok (.aload_n 0, 1) := by decide +kernel
theorem dX12_feed_120 : decode cX12_feed 120 = .ok (.getfield 149, 3) := by decide +kernel
theorem dX12_feed_123 : decode cX12_feed 123 = .ok (.ireturn, 1) := by decide +kernel
theorem dX12_byteAt_0 : decode cX12_byteAt 0 = .ok (.iload_n 1, 1) := by decide +kernel
theorem dX12_byteAt_1 : decode cX12_byteAt 1 = .ok (.aload_n 0, 1) := by decide +kernel
theorem dX12_byteAt_2 : decode cX12_byteAt 2 = .ok (.getfield 152, 3) := by decide +kernel
theorem dX12_byteAt_5 : decode cX12_byteAt 5 = .ok (.if_icmp .ge 16, 3) := by decide +kernel
theorem dX12_byteAt_8 : decode cX12_byteAt 8 = .ok (.aload_n 0, 1) := by decide +kernel
theorem dX12_byteAt_9 : decode cX12_byteAt 9 = .ok (.getfield 7, 3) := by decide +kernel
theorem dX12_byteAt_12 : decode cX12_byteAt 12 = .ok (.iload_n 1, 1) := by decide +kernel
theorem dX12_byteAt_13 : decode cX12_byteAt 13 = .ok (.baload, 1) := by decide +kernel
theorem dX12_byteAt_14 : decode cX12_byteAt 14 = .ok (.sipush 255, 3) := by decide +kernel
theorem dX12_byteAt_17 : decode cX12_byteAt 17 = .ok (.iand, 1) := by decide +kernel
theorem dX12_byteAt_18 : decode cX12_byteAt 18 = .ok (.goto 4, 3) := by decide +kernel
theorem dX12_byteAt_21 : decode cX12_byteAt 21 = .ok (.iconst 0, 1) := by decide +kernel
theorem dX12_byteAt_22 : decode cX12_byteAt 22 = .ok (.ireturn, 1) := by decide +kernel
theorem dX12_blanks_0 : decode cX12_blanks 0 = .ok (.aload_n 0, 1) := by decide +kernel
theorem dX12_blanks_1 : decode cX12_blanks 1 = .ok (.getfield 155, 3) := by decide +kernel
theorem dX12_blanks_4 : decode cX12_blanks 4 = .ok (.aload_n 0, 1) := by decide +kernel
theorem dX12_blanks_5 : decode cX12_blanks 5 = .ok (.getfield 152, 3) := by decide +kernel
theorem dX12_blanks_8 : decode cX12_blanks 8 = .ok (.if_icmp .ge 42, 3) := by decide +kernel
theorem dX12_blanks_11 : decode cX12_blanks 11 = .ok (.aload_n 0, 1) := by decide +kernel
theorem dX12_blanks_12 : decode cX12_blanks 12 = .ok (.aload_n 0, 1) := by decide +kernel
theorem dX12_blanks_13 : decode cX12_blanks 13 = .ok (.getfield 155, 3) := by decide +kernel
theorem dX12_blanks_16 : decode cX12_blanks 16 = .ok (.invokevirtual 158, 3) := by decide +kernel
theorem dX12_blanks_19 : decode cX12_blanks 19 = .ok (.bipush 32, 2) := by decide +kernel
theorem dX12_blanks_21 : decode cX12_blanks 21 = .ok (.if_icmp .eq 16, 3) := by decide +kernel
theorem dX12_blanks_24 : decode cX12_blanks 24 = .ok (.aload_n 0, 1) := by decide +kernel
theorem dX12_blanks_25 : decode cX12_blanks 25 = .ok (.aload_n 0, 1) := by decide +kernel
theorem dX12_blanks_26 : decode cX12_blanks 26 = .ok (.getfield 155, 3) := by decide +kernel
theorem dX12_blanks_29 : decode cX12_blanks 29 = .ok (.invokevirtual 158, 3) := by decide +kernel
theorem dX12_blanks_32 : decode cX12_blanks 32 = .ok (.bipush 10, 2) := by decide +kernel
theorem dX12_blanks_34 : decode cX12_blanks 34 = .ok (.if_icmp .ne 16, 3) := by decide +kernel
theorem dX12_blanks_37 : decode cX12_blanks 37 = .ok (.aload_n 0, 1) := by decide +kernel
theorem dX12_blanks_38 : decode cX12_blanks 38 = .ok (.dup, 1) := by decide +kernel
theorem dX12_blanks_39 : decode cX12_blanks 39 = .ok (.getfield 155, 3) := by decide +kernel
theorem dX12_blanks_42 : decode cX12_blanks 42 = .ok (.iconst 1, 1) := by decide +kernel
theorem dX12_blanks_43 : decode cX12_blanks 43 = .ok (.iadd, 1) := by decide +kernel
theorem dX12_blanks_44 : decode cX12_blanks 44 = .ok (.putfield 155, 3) := by decide +kernel
theorem dX12_blanks_47 : decode cX12_blanks 47 = .ok (.goto (-47), 3) := by decide +kernel
theorem dX12_blanks_50 : decode cX12_blanks 50 = .ok (.return_, 1) := by decide +kernel
theorem dX12_isSmall_0 : decode cX12_isSmall 0 = .ok (.iload_n 0, 1) := by decide +kernel
theorem dX12_isSmall_1 : decode cX12_isSmall 1 = .ok (.bipush 97, 2) := by decide +kernel
theorem dX12_isSmall_3 : decode cX12_isSmall 3 = .ok (.if_icmp .lt 13, 3) := by decide +kernel
theorem dX12_isSmall_6 : decode cX12_isSmall 6 = .ok (.iload_n 0, 1) := by decide +kernel
theorem dX12_isSmall_7 : decode cX12_isSmall 7 = .ok (.bipush 122, 2) := by decide +kernel
theorem dX12_isSmall_9 : decode cX12_isSmall 9 = .ok (.if_icmp .gt 7, 3) := by decide +kernel
theorem dX12_isSmall_12 : decode cX12_isSmall 12 = .ok (.iconst 1, 1) := by decide +kernel
theorem dX12_isSmall_13 : decode cX12_isSmall 13 = .ok (.goto 4, 3) := by decide +kernel
theorem dX12_isSmall_16 : decode cX12_isSmall 16 = .ok (.iconst 0, 1) := by decide +kernel
theorem dX12_isSmall_17 : decode cX12_isSmall 17 = .ok (.ireturn, 1) := by decide +kernel
theorem dX12_isDigit_0 : decode cX12_isDigit 0 = .ok (.iload_n 0, 1) := by decide +kernel
theorem dX12_isDigit_1 : decode cX12_isDigit 1 = .ok (.bipush 48, 2) := by decide +kernel
theorem dX12_isDigit_3 : decode cX12_isDigit 3 = .ok (.if_icmp .lt 13, 3) := by decide +kernel
theorem dX12_isDigit_6 : decode cX12_isDigit 6 = .ok (.iload_n 0, 1) := by decide +kernel
theorem dX12_isDigit_7 : decode cX12_isDigit 7 = .ok (.bipush 57, 2) := by decide +kernel
theorem dX12_isDigit_9 : decode cX12_isDigit 9 = .ok (.if_icmp .gt 7, 3) := by decide +kernel
theorem dX12_isDigit_12 : decode cX12_isDigit 12 = .ok (.iconst 1, 1) := by decide +kernel
theorem dX12_isDigit_13 : decode cX12_isDigit 13 = .ok (.goto 4, 3) := by decide +kernel
theorem dX12_isDigit_16 : decode cX12_isDigit 16 = .ok (.iconst 0, 1) := by decide +kernel
theorem dX12_isDigit_17 : decode cX12_isDigit 17 = .ok (.ireturn, 1) := by decide +kernel
theorem dX12_wrong_0 : decode cX12_wrong 0 = .ok (.aload_n 0, 1) := by decide +kernel
theorem dX12_wrong_1 : decode cX12_wrong 1 = .ok (.getfield 162, 3) := by decide +kernel
theorem dX12_wrong_4 : decode cX12_wrong 4 = .ok (.ifCond .ne 13, 3) := by decide +kernel
theorem dX12_wrong_7 : decode cX12_wrong 7 = .ok (.aload_n 0, 1) := by decide +kernel
theorem dX12_wrong_8 : decode cX12_wrong 8 = .ok (.iload_n 1, 1) := by decide +kernel
theorem dX12_wrong_9 : decode cX12_wrong 9 = .ok (.putfield 162, 3) := by decide +kernel
theorem dX12_wrong_12 : decode cX12_wrong 12 = .ok (.aload_n 0, 1) := by decide +kernel
theorem dX12_wrong_13 : decode cX12_wrong 13 = .ok (.iload_n 2, 1) := by decide +kernel
theorem dX12_wrong_14 : decode cX12_wrong 14 = .ok (.putfield 13, 3) := by decide +kernel
theorem dX12_wrong_17 : decode cX12_wrong 17 = .ok (.iconst 0, 1) := by decide +kernel
theorem dX12_wrong_18 : decode cX12_wrong 18 = .ok (.ireturn, 1) := by decide +kernel
theorem dX12_isWord_0 : decode cX12_isWord 0 = .ok (.aload_n 0, 1) := by decide +kernel
theorem dX12_isWord_1 : decode cX12_isWord 1 = .ok (.invokevirtual 165, 3) := by decide +kernel
theorem dX12_isWord_4 : decode cX12_isWord 4 = .ok (.aload_n 1, 1) := by decide +kernel
theorem dX12_isWord_5 : decode cX12_isWord 5 = .ok (.invokevirtual 168, 3) := by decide +kernel
theorem dX12_isWord_8 : decode cX12_isWord 8 = .ok (.istore_n 2, 1) := by decide +kernel
theorem dX12_isWord_9 : decode cX12_isWord 9 = .ok (.iconst 0, 1) := by decide +kernel
theorem dX12_isWord_10 : decode cX12_isWord 10 = .ok (.istore_n 3, 1) := by decide +kernel
theorem dX12_isWord_11 : decode cX12_isWord 11 = .ok (.iload_n 3, 1) := by decide +kernel
theorem dX12_isWord_12 : decode cX12_isWord 12 = .ok (.iload_n 2, 1) := by decide +kernel
theorem dX12_isWord_13 : decode cX12_isWord 13 = .ok (.if_icmp .ge 29, 3) := by decide +kernel
theorem dX12_isWord_16 : decode cX12_isWord 16 = .ok (.aload_n 0, 1) := by decide +kernel
theorem dX12_isWord_17 : decode cX12_isWord 17 = .ok (.aload_n 0, 1) := by decide +kernel
theorem dX12_isWord_18 : decode cX12_isWord 18 = .ok (.getfield 155, 3) := by decide +kernel
theorem dX12_isWord_21 : decode cX12_isWord 21 = .ok (.iload_n 3, 1) := by decide +kernel
theorem dX12_isWord_22 : decode cX12_isWord 22 = .ok (.iadd, 1) := by decide +kernel
theorem dX12_isWord_23 : decode cX12_isWord 23 = .ok (.invokevirtual 158, 3) := by decide +kernel
theorem dX12_isWord_26 : decode cX12_isWord 26 = .ok (.aload_n 1, 1) := by decide +kernel
theorem dX12_isWord_27 : decode cX12_isWord 27 = .ok (.iload_n 3, 1) := by decide +kernel
theorem dX12_isWord_28 : decode cX12_isWord 28 = .ok (.invokevirtual 174, 3) := by decide +kernel
theorem dX12_isWord_31 : decode cX12_isWord 31 = .ok (.if_icmp .eq 5, 3) := by decide +kernel
theorem dX12_isWord_34 : decode cX12_isWord 34 = .ok (.iconst 0, 1) := by decide +kernel
theorem dX12_isWord_35 : decode cX12_isWord 35 = .ok (.ireturn, 1) := by decide +kernel
theorem dX12_isWord_36 : decode cX12_isWord 36 = .ok (.iinc 3 1, 3) := by decide +kernel
theorem dX12_isWord_39 : decode cX12_isWord 39 = .ok (.goto (-28), 3) := by decide +kernel
theorem dX12_isWord_42 : decode cX12_isWord 42 = .ok (.aload_n 0, 1) := by decide +kernel
theorem dX12_isWord_43 : decode cX12_isWord 43 = .ok (.aload_n 0, 1) := by decide +kernel
theorem dX12_isWord_44 : decode cX12_isWord 44 = .ok (.getfield 155, 3) := by decide +kernel
theorem dX12_isWord_47 : decode cX12_isWord 47 = .ok (.iload_n 2, 1) := by decide +kernel
theorem dX12_isWord_48 : decode cX12_isWord 48 = .ok (.iadd, 1) := by decide +kernel
theorem dX12_isWord_49 : decode cX12_isWord 49 = .ok (.invokevirtual 158, 3) := by decide +kernel
theorem dX12_isWord_52 : decode cX12_isWord 52 = .ok (.invokestatic 178, 3) := by decide +kernel
theorem dX12_isWord_55 : decode cX12_isWord 55 = .ok (.ifCond .ne 7, 3) := by decide +kernel
theorem dX12_isWord_58 : decode cX12_isWord 58 = .ok (.iconst 1, 1) := by decide +kernel
theorem dX12_isWord_59 : decode cX12_isWord 59 = .ok (.goto 4, 3) := by decide +kernel
theorem dX12_isWord_62 : decode cX12_isWord 62 = .ok (.iconst 0, 1) := by decide +kernel
theorem dX12_isWord_63 : decode cX12_isWord 63 = .ok (.ireturn, 1) := by decide +kernel
theorem dX12_eat_0 : decode cX12_eat 0 = .ok (.aload_n 0, 1) := by decide +kernel
theorem dX12_eat_1 : decode cX12_eat 1 = .ok (.getfield 162, 3) := by decide +kernel
theorem dX12_eat_4 : decode cX12_eat 4 = .ok (.ifCond .ne 15, 3) := by decide +kernel
theorem dX12_eat_7 : decode cX12_eat 7 = .ok (.aload_n 0, 1) := by decide +kernel
theorem dX12_eat_8 : decode cX12_eat 8 = .ok (.aload_n 1, 1) := by decide +kernel
theorem dX12_eat_9 : decode cX12_eat 9 = .ok (.invokevirtual 182, 3) := by decide +kernel
theorem dX12_eat_12 : decode cX12_eat 12 = .ok (.ifCond .eq 7, 3) := by decide +kernel
theorem dX12_eat_15 : decode cX12_eat 15 = .ok (.iconst 1, 1) := by decide +kernel
theorem dX12_eat_16 : decode cX12_eat 16 = .ok (.goto 4, 3) := by decide +kernel
theorem dX12_eat_19 : decode cX12_eat 19 = .ok (.iconst 0, 1) := by decide +kernel
theorem dX12_eat_20 : decode cX12_eat 20 = .ok (.istore_n 2, 1) := by decide +kernel
theorem dX12_eat_21 : decode cX12_eat 21 = .ok (.iload_n 2, 1) := by decide +kernel
theorem dX12_eat_22 : decode cX12_eat 22 = .ok (.ifCond .eq 16, 3) := by decide +kernel
theorem dX12_eat_25 : decode cX12_eat 25 = .ok (.aload_n 0, 1) := by decide +kernel
theorem dX12_eat_26 : decode cX12_eat 26 = .ok (.dup, 1) := by decide +kernel
theorem dX12_eat_27 : decode cX12_eat 27 = .ok (.getfield 155, 3) := by decide +kernel
theorem dX12_eat_30 : decode cX12_eat 30 = .ok (.aload_n 1, 1) := by decide +kernel
theorem dX12_eat_31 : decode cX12_eat 31 = .ok (.invokevirtual 168, 3) := by decide +kernel
theorem dX12_eat_34 : decode cX12_eat 34 = .ok (.iadd, 1) := by decide +kernel
theorem dX12_eat_35 : decode cX12_eat 35 = .ok (.putfield 155, 3) := by decide +kernel
theorem dX12_eat_38 : decode cX12_eat 38 = .ok (.iload_n 2, 1) := by decide +kernel
theorem dX12_eat_39 : decode cX12_eat 39 = .ok (.ireturn, 1) := by decide +kernel
theorem dX12_isSign_0 : decode cX12_isSign 0 = .ok (.aload_n 0, 1) := by decide +kernel
theorem dX12_isSign_1 : decode cX12_isSign 1 = .ok (.invokevirtual 165, 3) := by decide +kernel
theorem dX12_isSign_4 : decode cX12_isSign 4 = .ok (.aload_n 0, 1) := by decide +kernel
theorem dX12_isSign_5 : decode cX12_isSign 5 = .ok (.getfield 162, 3) := by decide +kernel
theorem dX12_isSign_8 : decode cX12_isSign 8 = .ok (.ifCond .ne 30, 3) := by decide +kernel
theorem dX12_isSign_11 : decode cX12_isSign 11 = .ok (.aload_n 0, 1) := by decide +kernel
theorem dX12_isSign_12 : decode cX12_isSign 12 = .ok (.aload_n 0, 1) := by decide +kernel
theorem dX12_isSign_13 : decode cX12_isSign 13 = .ok (.getfield 155, 3) := by decide +kernel
theorem dX12_isSign_16 : decode cX12_isSign 16 = .ok (.invokevirtual 158, 3) := by decide +kernel
theorem dX12_isSign_19 : decode cX12_isSign 19 = .ok (.iload_n 1, 1) := by decide +kernel
theorem dX12_isSign_20 : decode cX12_isSign 20 = .ok (.if_icmp .ne 18, 3) := by decide +kernel
theorem dX12_isSign_23 : decode cX12_isSign 23 = .ok (.aload_n 0, 1) := by decide +kernel
theorem dX12_isSign_24 : decode cX12_isSign 24 = .ok (.getfield 155, 3) := by decide +kernel
theorem dX12_isSign_27 : decode cX12_isSign 27 = .ok (.aload_n 0, 1) := by decide +kernel
theorem dX12_isSign_28 : decode cX12_isSign 28 = .ok (.getfield 152, 3) := by decide +kernel
theorem dX12_isSign_31 : decode cX12_isSign 31 = .ok (.if_icmp .ge 7, 3) := by decide +kernel
theorem dX12_isSign_34 : decode cX12_isSign 34 = .ok (.iconst 1, 1) := by decide +kernel
theorem dX12_isSign_35 : decode cX12_isSign 35 = .ok (.goto 4, 3) := by decide +kernel
theorem dX12_isSign_38 : decode cX12_isSign 38 = .ok (.iconst 0, 1) := by decide +kernel
theorem dX12_isSign_39 : decode cX12_isSign 39 = .ok (.ireturn, 1) := by decide +kernel
theorem dX12_need_0 : decode cX12_need 0 = .ok (.aload_n 0, 1) := by decide +kernel
theorem dX12_need_1 : decode cX12_need 1 = .ok (.getfield 162, 3) := by decide +kernel
theorem dX12_need_4 : decode cX12_need 4 = .ok (.ifCond .le 5, 3) := by decide +kernel
theorem dX12_need_7 : decode cX12_need 7 = .ok (.iconst 0, 1) := by decide +kernel
theorem dX12_need_8 : decode cX12_need 8 = .ok (.ireturn, 1) := by decide +kernel
theorem dX12_need_9 : decode cX12_need 9 = .ok (.aload_n 0, 1) := by decide +kernel
theorem dX12_need_10 : decode cX12_need 10 = .ok (.iload_n 1, 1) := by decide +kernel
theorem dX12_need_11 : decode cX12_need 11 = .ok (.invokevirtual 186, 3) := by decide +kernel
theorem dX12_need_14 : decode cX12_need 14 = .ok (.ifCond .ne 13, 3) := by decide +kernel
theorem dX12_need_17 : decode cX12_need 17 = .ok (.aload_n 0, 1) := by decide +kernel
theorem dX12_need_18 : decode cX12_need 18 = .ok (.iconst 1, 1) := by decide +kernel
theorem dX12_need_19 : decode cX12_need 19 = .ok (.aload_n 0, 1) := by decide +kernel
theorem dX12_need_20 : decode cX12_need 20 = .ok (.getfield 155, 3) := by decide +kernel
theorem dX12_need_23 : decode cX12_need 23 = .ok (.invokevirtual 189, 3) := by decide +kernel
theorem dX12_need_26 : decode cX12_need 26 = .ok (.ireturn, 1) := by decide +kernel
theorem dX12_need_27 : decode cX12_need 27 = .ok (.aload_n 0, 1) := by decide +kernel
theorem dX12_need_28 : decode cX12_need 28 = .ok (.dup, 1) := by decide +kernel
theorem dX12_need_29 : decode cX12_need 29 = .ok (.getfield 155, 3) := by decide +kernel
theorem dX12_need_32 : decode cX12_need 32 = .ok (.iconst 1, 1) := by decide +kernel
theorem dX12_need_33 : decode cX12_need 33 = .ok (.iadd, 1) := by decide +kernel
theorem dX12_need_34 : decode cX12_need 34 = .ok (.putfield 155, 3) := by decide +kernel
theorem dX12_need_37 : decode cX12_need 37 = .ok (.iconst 1, 1) := by decide +kernel
theorem dX12_need_38 : decode cX12_need 38 = .ok (.ireturn, 1) := by decide +kernel
theorem dX12_number_0 : decode cX12_number 0 = .ok (.aload_n 0, 1) := by decide +kernel
theorem dX12_number_1 : decode cX12_number 1 = .ok (.getfield 162, 3) := by decide +kernel
theorem dX12_number_4 : decode cX12_number 4 = .ok (.ifCond .le 5, 3) := by decide +kernel
theorem dX12_number_7 : decode cX12_number 7 = .ok (.iconst 0, 1) := by decide +kernel
theorem dX12_number_8 : decode cX12_number 8 = .ok (.ireturn, 1) := by decide +kernel
theorem dX12_number_9 : decode cX12_number 9 = .ok (.aload_n 0, 1) := by decide +kernel
theorem dX12_number_10 : decode cX12_number 10 = .ok (.invokevirtual 165, 3) := by decide +kernel
theorem dX12_number_13 : decode cX12_number 13 = .ok (.aload_n 0, 1) := by decide +kernel
theorem dX12_number_14 : decode cX12_number 14 = .ok (.getfield 155, 3) := by decide +kernel
theorem dX12_number_17 : decode cX12_number 17 = .ok (.istore_n 2, 1) := by decide +kernel
theorem dX12_number_18 : decode cX12_number 18 = .ok (.aload_n 0, 1) := by decide +kernel
theorem dX12_number_19 : decode cX12_number 19 = .ok (.aload_n 0, 1) := by decide +kernel
theorem dX12_number_20 : decode cX12_number 20 = .ok (.getfield 155, 3) := by decide +kernel
theorem dX12_number_23 : decode cX12_number 23 = .ok (.invokevirtual 158, 3) := by decide +kernel
theorem dX12_number_26 : decode cX12_number 26 = .ok (.invokestatic 193, 3) := by decide +kernel
theorem dX12_number_29 : decode cX12_number 29 = .ok (.ifCond .ne 15, 3) := by decide +kernel
theorem dX12_number_32 : decode cX12_number 32 = .ok (.aload_n 0, 1) := by decide +kernel
theorem dX12_number_33 : decode cX12_number 33 = .ok (.iconst 1, 1) := by decide +kernel
theorem dX12_number_34 : decode cX12_number 34 = .ok (.aload_n 0, 1) := by decide +kernel
theorem dX12_number_35 : decode cX12_number 35 = .ok (.getfield 155, 3) := by decide +kernel
theorem dX12_number_38 : decode cX12_number 38 = .ok (.invokevirtual 189, 3) := by decide +kernel
theorem dX12_number_41 : decode cX12_number 41 = .ok (.pop, 1) := by decide +kernel
theorem dX12_number_42 : decode cX12_number 42 = .ok (.iconst 0, 1) := by decide +kernel
theorem dX12_number_43 : decode cX12_number 43 = .ok (.ireturn, 1) := by decide +kernel
theorem dX12_number_44 : decode cX12_number 44 = .ok (.lconst 0, 1) := by decide +kernel
theorem dX12_number_45 : decode cX12_number 45 = .ok (.lstore_n 3, 1) := by decide +kernel
theorem dX12_number_46 : decode cX12_number 46 = .ok (.aload_n 0, 1) := by decide +kernel
theorem dX12_number_47 : decode cX12_number 47 = .ok (.aload_n 0, 1) := by decide +kernel
theorem dX12_number_48 : decode cX12_number 48 = .ok (.getfield 155, 3) := by decide +kernel
theorem dX12_number_51 : decode cX12_number 51 = .ok (.invokevirtual 158, 3) := by decide +kernel
theorem dX12_number_54 : decode cX12_number 54 = .ok (.invokestatic 193, 3) := by decide +kernel
theorem dX12_number_57 : decode cX12_number 57 = .ok (.ifCond .eq 48, 3) := by decide +kernel
theorem dX12_number_60 : decode cX12_number 60 = .ok (.lload_n 3, 1) := by decide +kernel
theorem dX12_number_61 : decode cX12_number 61 = .ok (.ldc2_w 196, 3) := by decide +kernel
theorem dX12_number_64 : decode cX12_number 64 = .ok (.lcmp, 1) := by decide +kernel
theorem dX12_number_65 : decode cX12_number 65 = .ok (.ifCond .le 7, 3) := by decide +kernel
theorem dX12_number_68 : decode cX12_number 68 = .ok (.lload_n 3, 1) := by decide +kernel
theorem dX12_number_69 : decode cX12_number 69 = .ok (.goto 22, 3) := by decide +kernel
theorem dX12_number_72 : decode cX12_number 72 = .ok (.ldc2_w 198, 3) := by decide +kernel
theorem dX12_number_75 : decode cX12_number 75 = .ok (.lload_n 3, 1) := by decide +kernel
theorem dX12_number_76 : decode cX12_number 76 = .ok (.lmul, 1) := by decide +kernel
theorem dX12_number_77 : decode cX12_number 77 = .ok (.aload_n 0, 1) := by decide +kernel
theorem dX12_number_78 : decode cX12_number 78 = .ok (.aload_n 0, 1) := by decide +kernel
theorem dX12_number_79 : decode cX12_number 79 = .ok (.getfield 155, 3) := by decide +kernel
theorem dX12_number_82 : decode cX12_number 82 = .ok (.invokevirtual 158, 3) := by decide +kernel
theorem dX12_number_85 : decode cX12_number 85 = .ok (.i2l, 1) := by decide +kernel
theorem dX12_number_86 : decode cX12_number 86 = .ok (.ladd, 1) := by decide +kernel
theorem dX12_number_87 : decode cX12_number 87 = .ok (.ldc2_w 200, 3) := by decide +kernel
theorem dX12_number_90 : decode cX12_number 90 = .ok (.lsub, 1) := by decide +kernel
theorem dX12_number_91 : decode cX12_number 91 = .ok (.lstore_n 3, 1) := by decide +kernel
theorem dX12_number_92 : decode cX12_number 92 = .ok (.aload_n 0, 1) := by decide +kernel
theorem dX12_number_93 : decode cX12_number 93 = .ok (.dup, 1) := by decide +kernel
theorem dX12_number_94 : decode cX12_number 94 = .ok (.getfield 155, 3) := by decide +kernel
theorem dX12_number_97 : decode cX12_number 97 = .ok (.iconst 1, 1) := by decide +kernel
theorem dX12_number_98 : decode cX12_number 98 = .ok (.iadd, 1) := by decide +kernel
theorem dX12_number_99 : decode cX12_number 99 = .ok (.putfield 155, 3) := by decide +kernel
theorem dX12_number_102 : decode cX12_number 102 = .ok (.goto (-56), 3) := by decide +kernel
theorem dX12_number_105 : decode cX12_number 105 = .ok (.lload_n 3, 1) := by decide +kernel
theorem dX12_number_106 : decode cX12_number 106 = .ok (.ldc2_w 202, 3) := by decide +kernel
theorem dX12_number_109 : decode cX12_number 109 = .ok (.lcmp, 1) := by decide +kernel
theorem dX12_number_110 : decode cX12_number 110 = .ok (.ifCond .gt 13, 3) := by decide +kernel
theorem dX12_number_113 : decode cX12_number 113 = .ok (.iload_n 1, 1) := by decide +kernel
theorem dX12_number_114 : decode cX12_number 114 = .ok (.ifCond .eq 16, 3) := by decide +kernel
theorem dX12_number_117 : decode cX12_number 117 = .ok (.lload_n 3, 1) := by decide +kernel
theorem dX12_number_118 : decode cX12_number 118 = .ok (.lconst 0, 1) := by decide +kernel
theorem dX12_number_119 : decode cX12_number 119 = .ok (.lcmp, 1) := by decide +kernel
theorem dX12_number_120 : decode cX12_number 120 = .ok (.ifCond .ne 10, 3) := by decide +kernel
theorem dX12_number_123 : decode cX12_number 123 = .ok (.aload_n 0, 1) := by decide +kernel
theorem dX12_number_124 : decode cX12_number 124 = .ok (.iconst 2, 1) := by decide +kernel
theorem dX12_number_125 : decode cX12_number 125 = .ok (.iload_n 2, 1) := by decide +kernel
theorem dX12_number_126 : decode cX12_number 126 = .ok (.invokevirtual 189, 3) := by decide +kernel
theorem dX12_number_129 : decode cX12_number 129 = .ok (.pop, 1) := by decide +kernel
theorem dX12_number_130 : decode cX12_number 130 = .ok (.aload_n 0, 1) := by decide +kernel
theorem dX12_number_131 : decode cX12_number 131 = .ok (.getfield 162, 3) := by decide +kernel
theorem dX12_number_134 : decode cX12_number 134 = .ok (.ifCond .le 7, 3) := by decide +kernel
theorem dX12_number_137 : decode cX12_number 137 = .ok (.iconst 0, 1) := by decide +kernel
theorem dX12_number_138 : decode cX12_number 138 = .ok (.goto 5, 3) := by decide +kernel
theorem dX12_number_141 : decode cX12_number 141 = .ok (.lload_n 3, 1) := by decide +kernel
theorem dX12_number_142 : decode cX12_number 142 = .ok (.l2i, 1) := by decide +kernel
theorem dX12_number_143 : decode cX12_number 143 = .ok (.ireturn, 1) := by decide +kernel
theorem dX12_emits_0 : decode cX12_emits 0 = .ok (.aload_n 0, 1) := by decide +kernel
theorem dX12_emits_1 : decode cX12_emits 1 = .ok (.getfield 204, 3) := by decide +kernel
theorem dX12_emits_4 : decode cX12_emits 4 = .ok (.aload_n 0, 1) := by decide +kernel
theorem dX12_emits_5 : decode cX12_emits 5 = .ok (.getfield 39, 3) := by decide +kernel
theorem dX12_emits_8 : decode cX12_emits 8 = .ok (.arraylength, 1) := by decide +kernel
theorem dX12_emits_9 : decode cX12_emits 9 = .ok (.if_icmp .ne 25, 3) := by decide +kernel
theorem dX12_emits_12 : decode cX12_emits 12 = .ok (.aload_n 0, 1) := by decide +kernel
theorem dX12_emits_13 : decode cX12_emits 13 = .ok (.aload_n 0, 1) := by decide +kernel
theorem dX12_emits_14 : decode cX12_emits 14 = .ok (.getfield 39, 3) := by decide +kernel
theorem dX12_emits_17 : decode cX12_emits 17 = .ok (.invokestatic 207, 3) := by decide +kernel
theorem dX12_emits_20 : decode cX12_emits 20 = .ok (.putfield 39, 3) := by decide +kernel
theorem dX12_emits_23 : decode cX12_emits 23 = .ok (.aload_n 0, 1) := by decide +kernel
theorem dX12_emits_24 : decode cX12_emits 24 = .ok (.aload_n 0, 1) := by decide +kernel
theorem dX12_emits_25 : decode cX12_emits 25 = .ok (.getfield 42, 3) := by decide +kernel
theorem dX12_emits_28 : decode cX12_emits 28 = .ok (.invokestatic 207, 3) := by decide +kernel
theorem dX12_emits_31 : decode cX12_emits 31 = .ok (.putfield 42, 3) := by decide +kernel
theorem dX12_emits_34 : decode cX12_emits 34 = .ok (.aload_n 0, 1) := by decide +kernel
theorem dX12_emits_35 : decode cX12_emits 35 = .ok (.getfield 39, 3) := by decide +kernel
theorem dX12_emits_38 : decode cX12_emits 38 = .ok (.aload_n 0, 1) := by decide +kernel
theorem dX12_emits_39 : decode cX12_emits 39 = .ok (.getfield 204, 3) := by decide +kernel
theorem dX12_emits_42 : decode cX12_emits 42 = .ok (.iload_n 1, 1) := by decide +kernel
theorem dX12_emits_43 : decode cX12_emits 43 = .ok (.iastore, 1) := by decide +kernel
theorem dX12_emits_44 : decode cX12_emits 44 = .ok (.aload_n 0, 1) := by decide +kernel
theorem dX12_emits_45 : decode cX12_emits 45 = .ok (.getfield 42, 3) := by decide +kernel
theorem dX12_emits_48 : decode cX12_emits 48 = .ok (.aload_n 0, 1) := by decide +kernel
theorem dX12_emits_49 : decode cX12_emits 49 = .ok (.getfield 204, 3) := by decide +kernel
theorem dX12_emits_52 : decode cX12_emits 52 = .ok (.iload_n 2, 1) := by decide +kernel
theorem dX12_emits_53 : decode cX12_emits 53 = .ok (.iastore, 1) := by decide +kernel
theorem dX12_emits_54 : decode cX12_emits 54 = .ok (.aload_n 0, 1) := by decide +kernel
theorem dX12_emits_55 : decode cX12_emits 55 = .ok (.dup, 1) := by decide +kernel
theorem dX12_emits_56 : decode cX12_emits 56 = .ok (.getfield 204, 3) := by decide +kernel
theorem dX12_emits_59 : decode cX12_emits 59 = .ok (.iconst 1, 1) := by decide +kernel
theorem dX12_emits_60 : decode cX12_emits 60 = .ok (.iadd, 1) := by decide +kernel
theorem dX12_emits_61 : decode cX12_emits 61 = .ok (.putfield 204, 3) := by decide +kernel
theorem dX12_emits_64 : decode cX12_emits 64 = .ok (.return_, 1) := by decide +kernel
theorem dX12_longer_0 : decode cX12_longer 0 = .ok (.iconst 2, 1) := by decide +kernel
theorem dX12_longer_1 : decode cX12_longer 1 = .ok (.aload_n 0, 1) := by decide +kernel
theorem dX12_longer_2 : decode cX12_longer 2 = .ok (.arraylength, 1) := by decide +kernel
theorem dX12_longer_3 : decode cX12_longer 3 = .ok (.imul, 1) := by decide +kernel
theorem dX12_longer_4 : decode cX12_longer 4 = .ok (.newarray .int, 2) := by decide +kernel
theorem dX12_longer_6 : decode cX12_longer 6 = .ok (.astore_n 1, 1) := by decide +kernel
theorem dX12_longer_7 : decode cX12_longer 7 = .ok (.iconst 0, 1) := by decide +kernel
theorem dX12_longer_8 : decode cX12_longer 8 = .ok (.istore_n 2, 1) := by decide +kernel
theorem dX12_longer_9 : decode cX12_longer 9 = .ok (.iload_n 2, 1) := by decide +kernel
theorem dX12_longer_10 : decode cX12_longer 10 = .ok (.aload_n 0, 1) := by decide +kernel
theorem dX12_longer_11 : decode cX12_longer 11 = .ok (.arraylength, 1) := by decide +kernel
theorem dX12_longer_12 : decode cX12_longer 12 = .ok (.if_icmp .ge 15, 3) := by decide +kernel
theorem dX12_longer_15 : decode cX12_longer 15 = .ok (.aload_n 1, 1) := by decide +kernel
theorem dX12_longer_16 : decode cX12_longer 16 = .ok (.iload_n 2, 1) := by decide +kernel
theorem dX12_longer_17 : decode cX12_longer 17 = .ok (.aload_n 0, 1) := by decide +kernel
theorem dX12_longer_18 : decode cX12_longer 18 = .ok (.iload_n 2, 1) := by decide +kernel
theorem dX12_longer_19 : decode cX12_longer 19 = .ok (.iaload, 1) := by decide +kernel
theorem dX12_longer_20 : decode cX12_longer 20 = .ok (.iastore, 1) := by decide +kernel
theorem dX12_longer_21 : decode cX12_longer 21 = .ok (.iinc 2 1, 3) := by decide +kernel
theorem dX12_longer_24 : decode cX12_longer 24 = .ok (.goto (-15), 3) := by decide +kernel
theorem dX12_longer_27 : decode cX12_longer 27 = .ok (.aload_n 1, 1) := by decide +kernel
theorem dX12_longer_28 : decode cX12_longer 28 = .ok (.areturn, 1) := by decide +kernel
theorem dX12_condition_0 : decode cX12_condition 0 = .ok (.aload_n 0, 1) := by decide +kernel
theorem dX12_condition_1 : decode cX12_condition 1 = .ok (.invokevirtual 211, 3) := by decide +kernel
theorem dX12_condition_4 : decode cX12_condition 4 = .ok (.aload_n 0, 1) := by decide +kernel
theorem dX12_condition_5 : decode cX12_condition 5 = .ok (.ldc 214, 2) := by decide +kernel
theorem dX12_condition_7 : decode cX12_condition 7 = .ok (.invokevirtual 216, 3) := by decide +kernel
theorem dX12_condition_10 : decode cX12_condition 10 = .ok (.ifCond .eq 16, 3) := by decide +kernel
theorem dX12_condition_13 : decode cX12_condition 13 = .ok (.aload_n 0, 1) := by decide +kernel
theorem dX12_condition_14 : decode cX12_condition 14 = .ok (.invokevirtual 211, 3) := by decide +kernel
theorem dX12_condition_17 : decode cX12_condition 17 = .ok (.aload_n 0, 1) := by decide +kernel
theorem dX12_condition_18 : decode cX12_condition 18 = .ok (.iconst 1, 1) := by decide +kernel
theorem dX12_condition_19 : decode cX12_condition 19 = .ok (.iconst 0, 1) := by decide +kernel
theorem dX12_condition_20 : decode cX12_condition 20 = .ok (.invokevirtual 219, 3) := by decide +kernel
theorem dX12_condition_23 : decode cX12_condition 23 = .ok (.goto (-19), 3) := by decide +kernel
theorem dX12_condition_26 : decode cX12_condition 26 = .ok (.return_, 1) := by decide +kernel
theorem dX12_joined_0 : decode cX12_joined 0 = .ok (.aload_n 0, 1) := by decide +kernel
theorem dX12_joined_1 : decode cX12_joined 1 = .ok (.invokevirtual 223, 3) := by decide +kernel
theorem dX12_joined_4 : decode cX12_joined 4 = .ok (.aload_n 0, 1) := by decide +kernel
theorem dX12_joined_5 : decode cX12_joined 5 = .ok (.ldc 226, 2) := by decide +kernel
theorem dX12_joined_7 : decode cX12_joined 7 = .ok (.invokevirtual 216, 3) := by decide +kernel
theorem dX12_joined_10 : decode cX12_joined 10 = .ok (.ifCond .eq 16, 3) := by decide +kernel
theorem dX12_joined_13 : decode cX12_joined 13 = .ok (.aload_n 0, 1) := by decide +kernel
theorem dX12_joined_14 : decode cX12_joined 14 = .ok (.invokevirtual 223, 3) := by decide +kernel
theorem dX12_joined_17 : decode cX12_joined 17 = .ok (.aload_n 0, 1) := by decide +kernel
theorem dX12_joined_18 : decode cX12_joined 18 = .ok (.iconst 0, 1) := by decide +kernel
theorem dX12_joined_19 : decode cX12_joined 19 = .ok (.iconst 0, 1) := by decide +kernel
theorem dX12_joined_20 : decode cX12_joined 20 = .ok (.invokevirtual 219, 3) := by decide +kernel
theorem dX12_joined_23 : decode cX12_joined 23 = .ok (.goto (-19), 3) := by decide +kernel
theorem dX12_joined_26 : decode cX12_joined 26 = .ok (.return_, 1) := by decide +kernel
theorem dX12_opens_0 : decode cX12_opens 0 = .ok (.aload_n 0, 1) := by decide +kernel
theorem dX12_opens_1 : decode cX12_opens 1 = .ok (.getfield 228, 3) := by decide +kernel
theorem dX12_opens_4 : decode cX12_opens 4 = .ok (.bipush 10, 2) := by decide +kernel
theorem dX12_opens_6 : decode cX12_opens 6 = .ok (.if_icmp .ne 13, 3) := by decide +kernel
theorem dX12_opens_9 : decode cX12_opens 9 = .ok (.aload_n 0, 1) := by decide +kernel
theorem dX12_opens_10 : decode cX12_opens 10 = .ok (.iconst 3, 1) := by decide +kernel
theorem dX12_opens_11 : decode cX12_opens 11 = .ok (.aload_n 0, 1) := by decide +kernel
theorem dX12_opens_12 : decode cX12_opens 12 = .ok (.getfield 155, 3) := by decide +kernel
theorem dX12_opens_15 : decode cX12_opens 15 = .ok (.invokevirtual 189, 3) := by decide +kernel
theorem dX12_opens_18 : decode cX12_opens 18 = .ok (.ireturn, 1) := by decide +kernel
theorem dX12_opens_19 : decode cX12_opens 19 = .ok (.aload_n 0, 1) := by decide +kernel
theorem dX12_opens_20 : decode cX12_opens 20 = .ok (.dup, 1) := by decide +kernel
theorem dX12_opens_21 : decode cX12_opens 21 = .ok (.getfield 228, 3) := by decide +kernel
theorem dX12_opens_24 : decode cX12_opens 24 = .ok (.iconst 1, 1) := by decide +kernel
theorem dX12_opens_25 : decode cX12_opens 25 = .ok (.iadd, 1) := by decide +kernel
theorem dX12_opens_26 : decode cX12_opens 26 = .ok (.putfield 228, 3) := by decide +kernel
theorem dX12_opens_29 : decode cX12_opens 29 = .ok (.iconst 1, 1) := by decide +kernel
theorem dX12_opens_30 : decode cX12_opens 30 = .ok (.ireturn, 1) := by decide +kernel
theorem dX12_one_0 : decode cX12_one 0 = .ok (.aload_n 0, 1) := by decide +kernel
theorem dX12_one_1 : decode cX12_one 1 = .ok (.getfield 162, 3) := by decide +kernel
theorem dX12_one_4 : decode cX12_one 4 = .ok (.ifCond .le 4, 3) := by decide +kernel
theorem dX12_one_7 : decode cX12_one 7 = .ok (.return_, 1) := by decide +kernel
theorem dX12_one_8 : decode cX12_one 8 = .ok (.aload_n 0, 1) := by decide +kernel
theorem dX12_one_9 : decode cX12_one 9 = .ok (.ldc 231, 2) := by decide +kernel
theorem dX12_one_11 : decode cX12_one 11 = .ok (.invokevirtual 182, 3) := by decide +kernel
theorem dX12_one_14 : decode cX12_one 14 = .ok (.ifCond .eq 42, 3) := by decide +kernel
theorem dX12_one_17 : decode cX12_one 17 = .ok (.aload_n 0, 1) := by decide +kernel
theorem dX12_one_18 : decode cX12_one 18 = .ok (.invokevirtual 233, 3) := by decide +kernel
theorem dX12_one_21 : decode cX12_one 21 = .ok (.ifCond .ne 4, 3) := by decide +kernel
theorem dX12_one_24 : decode cX12_one 24 = .ok (.return_, 1) := by decide +kernel
theorem dX12_one_25 : decode cX12_one 25 = .ok (.aload_n 0, 1) := by decide +kernel
theorem dX12_one_26 : decode cX12_one 26 = .ok (.dup, 1) := by decide +kernel
theorem dX12_one_27 : decode cX12_one 27 = .ok (.getfield 155, 3) := by decide +kernel
theorem dX12_one_30 : decode cX12_one 30 = .ok (.iconst 3, 1) := by decide +kernel
theorem dX12_one_31 : decode cX12_one 31 = .ok (.iadd, 1) := by decide +kernel
theorem dX12_one_32 : decode cX12_one 32 = .ok (.putfield 155, 3) := by decide +kernel
theorem dX12_one_35 : decode cX12_one 35 = .ok (.aload_n 0, 1) := by decide +kernel
theorem dX12_one_36 : decode cX12_one 36 = .ok (.invokevirtual 223, 3) := by decide +kernel
theorem dX12_one_39 : decode cX12_one 39 = .ok (.aload_n 0, 1) := by decide +kernel
theorem dX12_one_40 : decode cX12_one 40 = .ok (.dup, 1) := by decide +kernel
theorem dX12_one_41 : decode cX12_one 41 = .ok (.getfield 228, 3) := by decide +kernel
theorem dX12_one_44 : decode cX12_one 44 = .ok (.iconst 1, 1) := by decide +kernel
theorem dX12_one_45 : decode cX12_one 45 = .ok (.isub, 1) := by decide +kernel
theorem dX12_one_46 : decode cX12_one 46 = .ok (.putfield 228, 3) := by decide +kernel
theorem dX12_one_49 : decode cX12_one 49 = .ok (.aload_n 0, 1) := by decide +kernel
theorem dX12_one_50 : decode cX12_one 50 = .ok (.iconst 2, 1) := by decide +kernel
theorem dX12_one_51 : decode cX12_one 51 = .ok (.iconst 0, 1) := by decide +kernel
theorem dX12_one_52 : decode cX12_one 52 = .ok (.invokevirtual 219, 3) := by decide +kernel
theorem dX12_one_55 : decode cX12_one 55 = .ok (.return_, 1) := by decide +kernel
theorem dX12_one_56 : decode cX12_one 56 = .ok (.aload_n 0, 1) := by decide +kernel
theorem dX12_one_57 : decode cX12_one 57 = .ok (.bipush 40, 2) := by decide +kernel
theorem dX12_one_59 : decode cX12_one 59 = .ok (.invokevirtual 186, 3) := by decide +kernel
theorem dX12_one_62 : decode cX12_one 62 = .ok (.ifCond .eq 43, 3) := by decide +kernel
theorem dX12_one_65 : decode cX12_one 65 = .ok (.aload_n 0, 1) := by decide +kernel
theorem dX12_one_66 : decode cX12_one 66 = .ok (.invokevirtual 233, 3) := by decide +kernel
theorem dX12_one_69 : decode cX12_one 69 = .ok (.ifCond .ne 4, 3) := by decide +kernel
theorem dX12_one_72 : decode cX12_one 72 = .ok (.return_, 1) := by decide +kernel
theorem dX12_one_73 : decode cX12_one 73 = .ok (.aload_n 0, 1) := by decide +kernel
theorem dX12_one_74 : decode cX12_one 74 = .ok (.dup, 1) := by decide +kernel
theorem dX12_one_75 : decode cX12_one 75 = .ok (.getfield 155, 3) := by decide +kernel
theorem dX12_one_78 : decode cX12_one 78 = .ok (.iconst 1, 1) := by decide +kernel
theorem dX12_one_79 : decode cX12_one 79 = .ok (.iadd, 1) := by decide +kernel
theorem dX12_one_80 : decode cX12_one 80 = .ok (.putfield 155, 3) := by decide +kernel
theorem dX12_one_83 : decode cX12_one 83 = .ok (.aload_n 0, 1) := by decide +kernel
theorem dX12_one_84 : decode cX12_one 84 = .ok (.invokevirtual 237, 3) := by decide +kernel
theorem dX12_one_87 : decode cX12_one 87 = .ok (.aload_n 0, 1) := by decide +kernel
theorem dX12_one_88 : decode cX12_one 88 = .ok (.bipush 41, 2) := by decide +kernel
theorem dX12_one_90 : decode cX12_one 90 = .ok (.invokevirtual 240, 3) := by decide +kernel
theorem dX12_one_93 : decode cX12_one 93 = .ok (.pop, 1) := by decide +kernel
theorem dX12_one_94 : decode cX12_one 94 = .ok (.aload_n 0, 1) := by decide +kernel
theorem dX12_one_95 : decode cX12_one 95 = .ok (.dup, 1) := by decide +kernel
theorem dX12_one_96 : decode cX12_one 96 = .ok (.getfield 228, 3) := by decide +kernel
theorem dX12_one_99 : decode cX12_one 99 = .ok (.iconst 1, 1) := by decide +kernel
theorem dX12_one_100 : decode cX12_one 100 = .ok (.isub, 1) := by decide +kernel
theorem dX12_one_101 : decode cX12_one 101 = .ok (.putfield 228, 3) := by decide +kernel
theorem dX12_one_104 : decode cX12_one 104 = .ok (.return_, 1) := by decide +kernel
theorem dX12_one_105 : decode cX12_one 105 = .ok (.aload_n 0, 1) := by decide +kernel
theorem dX12_one_106 : decode cX12_one 106 = .ok (.ldc 243, 2) := by decide +kernel
theorem dX12_one_108 : decode cX12_one 108 = .ok (.invokevirtual 216, 3) := by decide +kernel
theorem dX12_one_111 : decode cX12_one 111 = .ok (.ifCond .eq 12, 3) := by decide +kernel
theorem dX12_one_114 : decode cX12_one 114 = .ok (.aload_n 0, 1) := by decide +kernel
theorem dX12_one_115 : decode cX12_one 115 = .ok (.iconst 3, 1) := by decide +kernel
theorem dX12_one_116 : decode cX12_one 116 = .ok (.iconst 1, 1) := by decide +kernel
theorem dX12_one_117 : decode cX12_one 117 = .ok (.invokevirtual 219, 3) := by decide +kernel
theorem dX12_one_120 : decode cX12_one 120 = .ok (.goto 179, 3) := by decide +kernel
theorem dX12_one_123 : decode cX12_one 123 = .ok (.aload_n 0, 1) := by decide +kernel
theorem dX12_one_124 : decode cX12_one 124 = .ok (.ldc 245, 2) := by decide +kernel
theorem dX12_one_126 : decode cX12_one 126 = .ok (.invokevirtual 216, 3) := by decide +kernel
theorem dX12_one_129 : decode cX12_one 129 = .ok (.ifCond .eq 12, 3) := by decide +kernel
theorem dX12_one_132 : decode cX12_one 132 = .ok (.aload_n 0, 1) := by decide +kernel
theorem dX12_one_133 : decode cX12_one 133 = .ok (.iconst 3, 1) := by decide +kernel
theorem dX12_one_134 : decode cX12_one 134 = .ok (.iconst 2, 1) := by decide +kernel
theorem dX12_one_135 : decode cX12_one 135 = .ok (.invokevirtual 219, 3) := by decide +kernel
theorem dX12_one_138 : decode cX12_one 138 = .ok (.goto 161, 3) := by decide +kernel
theorem dX12_one_141 : decode cX12_one 141 = .ok (.aload_n 0, 1) := by decide +kernel
theorem dX12_one_142 : decode cX12_one 142 = .ok (.ldc 247, 2) := by decide +kernel
theorem dX12_one_144 : decode cX12_one 144 = .ok (.invokevirtual 216, 3) := by decide +kernel
theorem dX12_one_147 : decode cX12_one 147 = .ok (.ifCond .eq 12, 3) := by decide +kernel
theorem dX12_one_150 : decode cX12_one 150 = .ok (.aload_n 0, 1) := by decide +kernel
theorem dX12_one_151 : decode cX12_one 151 = .ok (.iconst 3, 1) := by decide +kernel
theorem dX12_one_152 : decode cX12_one 152 = .ok (.iconst 4, 1) := by decide +kernel
theorem dX12_one_153 : decode cX12_one 153 = .ok (.invokevirtual 219, 3) := by decide +kernel
theorem dX12_one_156 : decode cX12_one 156 = .ok (.goto 143, 3) := by decide +kernel
theorem dX12_one_159 : decode cX12_one 159 = .ok (.aload_n 0, 1) := by decide +kernel
theorem dX12_one_160 : decode cX12_one 160 = .ok (.ldc 249, 2) := by decide +kernel
theorem dX12_one_162 : decode cX12_one 162 = .ok (.invokevirtual 216, 3) := by decide +kernel
theorem dX12_one_165 : decode cX12_one 165 = .ok (.ifCond .eq 13, 3) := by decide +kernel
theorem dX12_one_168 : decode cX12_one 168 = .ok (.aload_n 0, 1) := by decide +kernel
theorem dX12_one_169 : decode cX12_one 169 = .ok (.iconst 3, 1) := by decide +kernel
theorem dX12_one_170 : decode cX12_one 170 = .ok (.bipush 8, 2) := by decide +kernel
theorem dX12_one_172 : decode cX12_one 172 = .ok (.invokevirtual 219, 3) := by decide +kernel
theorem dX12_one_175 : decode cX12_one 175 = .ok (.goto 124, 3) := by decide +kernel
theorem dX12_one_178 : decode cX12_one 178 = .ok (.aload_n 0, 1) := by decide +kernel
theorem dX12_one_179 : decode cX12_one 179 = .ok (.ldc 251, 2) := by decide +kernel
theorem dX12_one_181 : decode cX12_one 181 = .ok (.invokevirtual 216, 3) := by decide +kernel
theorem dX12_one_184 : decode cX12_one 184 = .ok (.ifCond .eq 13, 3) := by decide +kernel
theorem dX12_one_187 : decode cX12_one 187 = .ok (.aload_n 0, 1) := by decide +kernel
theorem dX12_one_188 : decode cX12_one 188 = .ok (.bipush 8, 2) := by decide +kernel
theorem dX12_one_190 : decode cX12_one 190 = .ok (.iconst 0, 1) := by decide +kernel
theorem dX12_one_191 : decode cX12_one 191 = .ok (.invokevirtual 219, 3) := by decide +kernel
theorem dX12_one_194 : decode cX12_one 194 = .ok (.goto 105, 3) := by decide +kernel
theorem dX12_one_197 : decode cX12_one 197 = .ok (.aload_n 0, 1) := by decide +kernel
theorem dX12_one_198 : decode cX12_one 198 = .ok (.ldc 253, 2) := by decide +kernel
theorem dX12_one_200 : decode cX12_one 200 = .ok (.invokevirtual 216, 3) := by decide +kernel
theorem dX12_one_203 : decode cX12_one 203 = .ok (.ifCond .eq 12, 3) := by decide +kernel
theorem dX12_one_206 : decode cX12_one 206 = .ok (.aload_n 0, 1) := by decide +kernel
theorem dX12_one_207 : decode cX12_one 207 = .ok (.bipush 10, 2) := by decide +kernel
theorem dX12_one_209 : decode cX12_one 209 = .ok (.invokevirtual 254, 3) := by decide +kernel
theorem dX12_one_212 : decode cX12_one 212 = .ok (.goto 87, 3) := by decide +kernel
theorem dX12_one_215 : decode cX12_one 215 = .ok (.aload_n 0, 1) := by decide +kernel
theorem dX12_one_216 : decode cX12_one 216 = .ok (.ldc_w 258, 3) := by decide +kernel
theorem dX12_one_219 : decode cX12_one 219 = .ok (.invokevirtual 216, 3) := by decide +kernel
theorem dX12_one_222 : decode cX12_one 222 = .ok (.ifCond .eq 12, 3) := by decide +kernel
theorem dX12_one_225 : decode cX12_one 225 = .ok (.aload_n 0, 1) := by decide +kernel
theorem dX12_one_226 : decode cX12_one 226 = .ok (.bipush 13, 2) := by decide +kernel
theorem dX12_one_228 : decode cX12_one 228 = .ok (.invokevirtual 254, 3) := by decide +kernel
theorem dX12_one_231 : decode cX12_one 231 = .ok (.goto 68, 3) := by decide +kernel
theorem dX12_one_234 : decode cX12_one 234 = .ok (.aload_n 0, 1) := by decide +kernel
theorem dX12_one_235 : decode cX12_one 235 = .ok (.ldc_w 259, 3) := by decide +kernel
theorem dX12_one_238 : decode cX12_one 238 = .ok (.invokevirtual 216, 3) := by decide +kernel
theorem dX12_one_241 : decode cX12_one 241 = .ok (.ifCond .eq 12, 3) := by decide +kernel
theorem dX12_one_244 : decode cX12_one 244 = .ok (.aload_n 0, 1) := by decide +kernel
theorem dX12_one_245 : decode cX12_one 245 = .ok (.bipush 16, 2) := by decide +kernel
theorem dX12_one_247 : decode cX12_one 247 = .ok (.invokevirtual 254, 3) := by decide +kernel
theorem dX12_one_250 : decode cX12_one 250 = .ok (.goto 49, 3) := by decide +kernel
theorem dX12_one_253 : decode cX12_one 253 = .ok (.aload_n 0, 1) := by decide +kernel
theorem dX12_one_254 : decode cX12_one 254 = .ok (.ldc_w 261, 3) := by decide +kernel
theorem dX12_one_257 : decode cX12_one 257 = .ok (.invokevirtual 216, 3) := by decide +kernel
theorem dX12_one_260 : decode cX12_one 260 = .ok (.ifCond .eq 12, 3) := by decide +kernel
theorem dX12_one_263 : decode cX12_one 263 = .ok (.aload_n 0, 1) := by decide +kernel
theorem dX12_one_264 : decode cX12_one 264 = .ok (.bipush 19, 2) := by decide +kernel
theorem dX12_one_266 : decode cX12_one 266 = .ok (.invokevirtual 254, 3) := by decide +kernel
theorem dX12_one_269 : decode cX12_one 269 = .ok (.goto 30, 3) := by decide +kernel
theorem dX12_one_272 : decode cX12_one 272 = .ok (.aload_n 0, 1) := by decide +kernel
theorem dX12_one_273 : decode cX12_one 273 = .ok (.ldc_w 263, 3) := by decide +kernel
theorem dX12_one_276 : decode cX12_one 276 = .ok (.invokevirtual 216, 3) := by decide +kernel
theorem dX12_one_279 : decode cX12_one 279 = .ok (.ifCond .eq 10, 3) := by decide +kernel
theorem dX12_one_282 : decode cX12_one 282 = .ok (.aload_n 0, 1) := by decide +kernel
theorem dX12_one_283 : decode cX12_one 283 = .ok (.invokevirtual 265, 3) := by decide +kernel
theorem dX12_one_286 : decode cX12_one 286 = .ok (.goto 13, 3) := by decide +kernel
theorem dX12_one_289 : decode cX12_one 289 = .ok (.aload_n 0, 1) := by decide +kernel
theorem dX12_one_290 : decode cX12_one 290 = .ok (.iconst 1, 1) := by decide +kernel
theorem dX12_one_291 : decode cX12_one 291 = .ok (.aload_n 0, 1) := by decide +kernel
theorem dX12_one_292 : decode cX12_one 292 = .ok (.getfield 155, 3) := by decide +kernel
theorem dX12_one_295 : decode cX12_one 295 = .ok (.invokevirtual 189, 3) := by decide +kernel
theorem dX12_one_298 : decode cX12_one 298 = .ok (.pop, 1) := by decide +kernel
theorem dX12_one_299 : decode cX12_one 299 = .ok (.return_, 1) := by decide +kernel
theorem dX12_relation_0 : decode cX12_relation 0 = .ok (.aload_n 0, 1) := by decide +kernel
theorem dX12_relation_1 : decode cX12_relation 1 = .ok (.bipush 61, 2) := by decide +kernel
theorem dX12_relation_3 : decode cX12_relation 3 = .ok (.invokevirtual 186, 3) := by decide +kernel
theorem dX12_relation_6 : decode cX12_relation 6 = .ok (.ifCond .eq 7, 3) := by decide +kernel
theorem dX12_relation_9 : decode cX12_relation 9 = .ok (.iconst 0, 1) := by decide +kernel
theorem dX12_relation_10 : decode cX12_relation 10 = .ok (.goto 30, 3) := by decide +kernel
theorem dX12_relation_13 : decode cX12_relation 13 = .ok (.aload_n 0, 1) := by decide +kernel
theorem dX12_relation_14 : decode cX12_relation 14 = .ok (.bipush 60, 2) := by decide +kernel
theorem dX12_relation_16 : decode cX12_relation 16 = .ok (.invokevirtual 186, 3) := by decide +kernel
theorem dX12_relation_19 : decode cX12_relation 19 = .ok (.ifCond .eq 7, 3) := by decide +kernel
theorem dX12_relation_22 : decode cX12_relation 22 = .ok (.iconst 1, 1) := by decide +kernel
theorem dX12_relation_23 : decode cX12_relation 23 = .ok (.goto 17, 3) := by decide +kernel
theorem dX12_relation_26 : decode cX12_relation 26 = .ok (.aload_n 0, 1) := by decide +kernel
theorem dX12_relation_27 : decode cX12_relation 27 = .ok (.bipush 62, 2) := by decide +kernel
theorem dX12_relation_29 : decode cX12_relation 29 = .ok (.invokevirtual 186, 3) := by decide +kernel
theorem dX12_relation_32 : decode cX12_relation 32 = .ok (.ifCond .eq 7, 3) := by decide +kernel
theorem dX12_relation_35 : decode cX12_relation 35 = .ok (.iconst 2, 1) := by decide +kernel
theorem dX12_relation_36 : decode cX12_relation 36 = .ok (.goto 4, 3) := by decide +kernel
theorem dX12_relation_39 : decode cX12_relation 39 = .ok (.iconst (-1), 1) := by decide +kernel
theorem dX12_relation_40 : decode cX12_relation 40 = .ok (.istore_n 2, 1) := by decide +kernel
theorem dX12_relation_41 : decode cX12_relation 41 = .ok (.iload_n 2, 1) := by decide +kernel
theorem dX12_relation_42 : decode cX12_relation 42 = .ok (.ifCond .ge 14, 3) := by decide +kernel
theorem dX12_relation_45 : decode cX12_relation 45 = .ok (.aload_n 0, 1) := by decide +kernel
theorem dX12_relation_46 : decode cX12_relation 46 = .ok (.iconst 1, 1) := by decide +kernel
theorem dX12_relation_47 : decode cX12_relation 47 = .ok (.aload_n 0, 1) := by decide +kernel
theorem dX12_relation_48 : decode cX12_relation 48 = .ok (.getfield 155, 3) := by decide +kernel
theorem dX12_relation_51 : decode cX12_relation 51 = .ok (.invokevirtual 189, 3) := by decide +kernel
theorem dX12_relation_54 : decode cX12_relation 54 = .ok (.pop, 1) := by decide +kernel
theorem dX12_relation_55 : decode cX12_relation 55 = .ok (.return_, 1) := by decide +kernel
theorem dX12_relation_56 : decode cX12_relation 56 = .ok (.aload_n 0, 1) := by decide +kernel
theorem dX12_relation_57 : decode cX12_relation 57 = .ok (.dup, 1) := by decide +kernel
theorem dX12_relation_58 : decode cX12_relation 58 = .ok (.getfield 155, 3) := by decide +kernel
theorem dX12_relation_61 : decode cX12_relation 61 = .ok (.iconst 1, 1) := by decide +kernel
theorem dX12_relation_62 : decode cX12_relation 62 = .ok (.iadd, 1) := by decide +kernel
theorem dX12_relation_63 : decode cX12_relation 63 = .ok (.putfield 155, 3) := by decide +kernel
theorem dX12_relation_66 : decode cX12_relation 66 = .ok (.aload_n 0, 1) := by decide +kernel
theorem dX12_relation_67 : decode cX12_relation 67 = .ok (.iload_n 1, 1) := by decide +kernel
theorem dX12_relation_68 : decode cX12_relation 68 = .ok (.iload_n 2, 1) := by decide +kernel
theorem dX12_relation_69 : decode cX12_relation 69 = .ok (.iadd, 1) := by decide +kernel
theorem dX12_relation_70 : decode cX12_relation 70 = .ok (.aload_n 0, 1) := by decide +kernel
theorem dX12_relation_71 : decode cX12_relation 71 = .ok (.iconst 0, 1) := by decide +kernel
theorem dX12_relation_72 : decode cX12_relation 72 = .ok (.invokevirtual 267, 3) := by decide +kernel
theorem dX12_relation_75 : decode cX12_relation 75 = .ok (.invokevirtual 219, 3) := by decide +kernel
theorem dX12_relation_78 : decode cX12_relation 78 = .ok (.return_, 1) := by decide +kernel
theorem dX12_kind_0 : decode cX12_kind 0 = .ok (.aload_n 0, 1) := by decide +kernel
theorem dX12_kind_1 : decode cX12_kind 1 = .ok (.bipush 61, 2) := by decide +kernel
theorem dX12_kind_3 : decode cX12_kind 3 = .ok (.invokevirtual 240, 3) := by decide +kernel
theorem dX12_kind_6 : decode cX12_kind 6 = .ok (.pop, 1) := by decide +kernel
theorem dX12_kind_7 : decode cX12_kind 7 = .ok (.iconst 0, 1) := by decide +kernel
theorem dX12_kind_8 : decode cX12_kind 8 = .ok (.istore_n 1, 1) := by decide +kernel
theorem dX12_kind_9 : decode cX12_kind 9 = .ok (.iload_n 1, 1) := by decide +kernel
theorem dX12_kind_10 : decode cX12_kind 10 = .ok (.bipush 7, 2) := by decide +kernel
theorem dX12_kind_12 : decode cX12_kind 12 = .ok (.if_icmp .ge 31, 3) := by decide +kernel
theorem dX12_kind_15 : decode cX12_kind 15 = .ok (.aload_n 0, 1) := by decide +kernel
theorem dX12_kind_16 : decode cX12_kind 16 = .ok (.iload_n 1, 1) := by decide +kernel
theorem dX12_kind_17 : decode cX12_kind 17 = .ok (.invokestatic 271, 3) := by decide +kernel
theorem dX12_kind_20 : decode cX12_kind 20 = .ok (.invokevirtual 216, 3) := by decide +kernel
theorem dX12_kind_23 : decode cX12_kind 23 = .ok (.ifCond .ne 6, 3) := by decide +kernel
theorem dX12_kind_26 : decode cX12_kind 26 = .ok (.goto 11, 3) := by decide +kernel
theorem dX12_kind_29 : decode cX12_kind 29 = .ok (.aload_n 0, 1) := by decide +kernel
theorem dX12_kind_30 : decode cX12_kind 30 = .ok (.bipush 22, 2) := by decide +kernel
theorem dX12_kind_32 : decode cX12_kind 32 = .ok (.iload_n 1, 1) := by decide +kernel
theorem dX12_kind_33 : decode cX12_kind 33 = .ok (.invokevirtual 219, 3) := by decide +kernel
theorem dX12_kind_36 : decode cX12_kind 36 = .ok (.return_, 1) := by decide +kernel
theorem dX12_kind_37 : decode cX12_kind 37 = .ok (.iinc 1 1, 3) := by decide +kernel
theorem dX12_kind_40 : decode cX12_kind 40 = .ok (.goto (-31), 3) := by decide +kernel
theorem dX12_kind_43 : decode cX12_kind 43 = .ok (.aload_n 0, 1) := by decide +kernel
theorem dX12_kind_44 : decode cX12_kind 44 = .ok (.iconst 1, 1) := by decide +kernel
theorem dX12_kind_45 : decode cX12_kind 45 = .ok (.aload_n 0, 1) := by decide +kernel
theorem dX12_kind_46 : decode cX12_kind 46 = .ok (.getfield 155, 3) := by decide +kernel
theorem dX12_kind_49 : decode cX12_kind 49 = .ok (.invokevirtual 189, 3) := by decide +kernel
theorem dX12_kind_52 : decode cX12_kind 52 = .ok (.pop, 1) := by decide +kernel
theorem dX12_kind_53 : decode cX12_kind 53 = .ok (.return_, 1) := by decide +kernel
theorem dX12_kindName_0 : decode cX12_kindName 0 = .ok (.iload_n 0, 1) := by decide +kernel
theorem dX12_kindName_1 : decode cX12_kindName 1 = .ok (.tableswitch 63 0 5 #[39, 43, 47, 51, 55, 59], 39) := by decide +kernel
theorem dX12_kindName_40 : decode cX12_kindName 40 = .ok (.ldc_w 275, 3) := by decide +kernel
theorem dX12_kindName_43 : decode cX12_kindName 43 = .ok (.areturn, 1) := by decide +kernel
theorem dX12_kindName_44 : decode cX12_kindName 44 = .ok (.ldc_w 277, 3) := by decide +kernel
theorem dX12_kindName_47 : decode cX12_kindName 47 = .ok (.areturn, 1) := by decide +kernel
theorem dX12_kindName_48 : decode cX12_kindName 48 = .ok (.ldc_w 279, 3) := by decide +kernel
theorem dX12_kindName_51 : decode cX12_kindName 51 = .ok (.areturn, 1) := by decide +kernel
theorem dX12_kindName_52 : decode cX12_kindName 52 = .ok (.ldc_w 281, 3) := by decide +kernel
theorem dX12_kindName_55 : decode cX12_kindName 55 = .ok (.areturn, 1) := by decide +kernel
theorem dX12_kindName_56 : decode cX12_kindName 56 = .ok (.ldc_w 283, 3) := by decide +kernel
theorem dX12_kindName_59 : decode cX12_kindName 59 = .ok (.areturn, 1) := by decide +kernel
theorem dX12_kindName_60 : decode cX12_kindName 60 = .ok (.ldc_w 285, 3) := by decide +kernel
theorem dX12_kindName_63 : decode cX12_kindName 63 = .ok (.areturn, 1) := by decide +kernel
theorem dX12_kindName_64 : decode cX12_kindName 64 = .ok (.ldc_w 287, 3) := by decide +kernel
theorem dX12_kindName_67 : decode cX12_kindName 67 = .ok (.areturn, 1) := by decide +kernel
theorem dX12_clause_0 : decode cX12_clause 0 = .ok (.bipush 40, 2) := by decide +kernel
theorem dX12_clause_2 : decode cX12_clause 2 = .ok (.aload_n 0, 1) := by decide +kernel
theorem dX12_clause_3 : decode cX12_clause 3 = .ok (.getfield 289, 3) := by decide +kernel
theorem dX12_clause_6 : decode cX12_clause 6 = .ok (.imul, 1) := by decide +kernel
theorem dX12_clause_7 : decode cX12_clause 7 = .ok (.iload_n 1, 1) := by decide +kernel
theorem dX12_clause_8 : decode cX12_clause 8 = .ok (.iadd, 1) := by decide +kernel
theorem dX12_clause_9 : decode cX12_clause 9 = .ok (.istore_n 2, 1) := by decide +kernel
theorem dX12_clause_10 : decode cX12_clause 10 = .ok (.aload_n 0, 1) := by decide +kernel
theorem dX12_clause_11 : decode cX12_clause 11 = .ok (.ldc_w 292, 3) := by decide +kernel
theorem dX12_clause_14 : decode cX12_clause 14 = .ok (.invokevirtual 182, 3) := by decide +kernel
theorem dX12_clause_17 : decode cX12_clause 17 = .ok (.ifCond .ne 33, 3) := by decide +kernel
theorem dX12_clause_20 : decode cX12_clause 20 = .ok (.aload_n 0, 1) := by decide +kernel
theorem dX12_clause_21 : decode cX12_clause 21 = .ok (.ldc_w 294, 3) := by decide +kernel
theorem dX12_clause_24 : decode cX12_clause 24 = .ok (.invokevirtual 182, 3) := by decide +kernel
theorem dX12_clause_27 : decode cX12_clause 27 = .ok (.ifCond .ne 23, 3) := by decide +kernel
theorem dX12_clause_30 : decode cX12_clause 30 = .ok (.aload_n 0, 1) := by decide +kernel
theorem dX12_clause_31 : decode cX12_clause 31 = .ok (.ldc_w 296, 3) := by decide +kernel
theorem dX12_clause_34 : decode cX12_clause 34 = .ok (.invokevirtual 182, 3) := by decide +kernel
theorem dX12_clause_37 : decode cX12_clause 37 = .ok (.ifCond .ne 13, 3) := by decide +kernel
theorem dX12_clause_40 : decode cX12_clause 40 = .ok (.aload_n 0, 1) := by decide +kernel
theorem dX12_clause_41 : decode cX12_clause 41 = .ok (.ldc_w 298, 3) := by decide +kernel
theorem dX12_clause_44 : decode cX12_clause 44 = .ok (.invokevirtual 182, 3) := by decide +kernel
theorem dX12_clause_47 : decode cX12_clause 47 = .ok (.ifCond .eq 7, 3) := by decide +kernel
theorem dX12_clause_50 : decode cX12_clause 50 = .ok (.iconst 1, 1) := by decide +kernel
theorem dX12_clause_51 : decode cX12_clause 51 = .ok (.goto 4, 3) := by decide +kernel
theorem dX12_clause_54 : decode cX12_clause 54 = .ok (.iconst 0, 1) := by decide +kernel
theorem dX12_clause_55 : decode cX12_clause 55 = .ok (.istore_n 3, 1) := by decide +kernel
theorem dX12_clause_56 : decode cX12_clause 56 = .ok (.iload_n 3, 1) := by decide +kernel
theorem dX12_clause_57 : decode cX12_clause 57 = .ok (.ifCond .eq 9, 3) := by decide +kernel
theorem dX12_clause_60 : decode cX12_clause 60 = .ok (.iload_n 1, 1) := by decide +kernel
theorem dX12_clause_61 : decode cX12_clause 61 = .ok (.bipush 40, 2) := by decide +kernel
theorem dX12_clause_63 : decode cX12_clause 63 = .ok (.if_icmp .ne 22, 3) := by decide +kernel
theorem dX12_clause_66 : decode cX12_clause 66 = .ok (.aload_n 0, 1) := by decide +kernel
theorem dX12_clause_67 : decode cX12_clause 67 = .ok (.iload_n 3, 1) := by decide +kernel
theorem dX12_clause_68 : decode cX12_clause 68 = .ok (.ifCond .eq 7, 3) := by decide +kernel
theorem dX12_clause_71 : decode cX12_clause 71 = .ok (.iconst 3, 1) := by decide +kernel
theorem dX12_clause_72 : decode cX12_clause 72 = .ok (.goto 4, 3) := by decide +kernel
theorem dX12_clause_75 : decode cX12_clause 75 = .ok (.iconst 1, 1) := by decide +kernel
theorem dX12_clause_76 : decode cX12_clause 76 = .ok (.aload_n 0, 1) := by decide +kernel
theorem dX12_clause_77 : decode cX12_clause 77 = .ok (.getfield 155, 3) := by decide +kernel
theorem dX12_clause_80 : decode cX12_clause 80 = .ok (.invokevirtual 189, 3) := by decide +kernel
theorem dX12_clause_83 : decode cX12_clause 83 = .ok (.pop, 1) := by decide +kernel
theorem dX12_clause_84 : decode cX12_clause 84 = .ok (.return_, 1) := by decide +kernel
theorem dX12_clause_85 : decode cX12_clause 85 = .ok (.aload_n 0, 1) := by decide +kernel
theorem dX12_clause_86 : decode cX12_clause 86 = .ok (.ldc_w 292, 3) := by decide +kernel
theorem dX12_clause_89 : decode cX12_clause 89 = .ok (.invokevirtual 216, 3) := by decide +kernel
theorem dX12_clause_92 : decode cX12_clause 92 = .ok (.ifCond .eq 13, 3) := by decide +kernel
theorem dX12_clause_95 : decode cX12_clause 95 = .ok (.aload_n 0, 1) := by decide +kernel
theorem dX12_clause_96 : decode cX12_clause 96 = .ok (.getfield 24, 3) := by decide +kernel
theorem dX12_clause_99 : decode cX12_clause 99 = .ok (.iload_n 2, 1) := by decide +kernel
theorem dX12_clause_100 : decode cX12_clause 100 = .ok (.iconst 0, 1) := by decide +kernel
theorem dX12_clause_101 : decode cX12_clause 101 = .ok (.iastore, 1) := by decide +kernel
theorem dX12_clause_102 : decode cX12_clause 102 = .ok (.goto 143, 3) := by decide +kernel
theorem dX12_clause_105 : decode cX12_clause 105 = .ok (.aload_n 0, 1) := by decide +kernel
theorem dX12_clause_106 : decode cX12_clause 106 = .ok (.ldc_w 294, 3) := by decide +kernel
theorem dX12_clause_109 : decode cX12_clause 109 = .ok (.invokevirtual 216, 3) := by decide +kernel
theorem dX12_clause_112 : decode cX12_clause 112 = .ok (.ifCond .eq 52, 3) := by decide +kernel
theorem dX12_clause_115 : decode cX12_clause 115 = .ok (.aload_n 0, 1) := by decide +kernel
theorem dX12_clause_116 : decode cX12_clause 116 = .ok (.getfield 27, 3) := by decide +kernel
theorem dX12_clause_119 : decode cX12_clause 119 = .ok (.iload_n 2, 1) := by decide +kernel
theorem dX12_clause_120 : decode cX12_clause 120 = .ok (.aload_n 0, 1) := by decide +kernel
theorem dX12_clause_121 : decode cX12_clause 121 = .ok (.iconst 0, 1) := by decide +kernel
theorem dX12_clause_122 : decode cX12_clause 122 = .ok (.invokevirtual 267, 3) := by decide +kernel
theorem dX12_clause_125 : decode cX12_clause 125 = .ok (.iastore, 1) := by decide +kernel
theorem dX12_clause_126 : decode cX12_clause 126 = .ok (.aload_n 0, 1) := by decide +kernel
theorem dX12_clause_127 : decode cX12_clause 127 = .ok (.getfield 24, 3) := by decide +kernel
theorem dX12_clause_130 : decode cX12_clause 130 = .ok (.iload_n 2, 1) := by decide +kernel
theorem dX12_clause_131 : decode cX12_clause 131 = .ok (.aload_n 0, 1) := by decide +kernel
theorem dX12_clause_132 : decode cX12_clause 132 = .ok (.ldc_w 300, 3) := by decide +kernel
theorem dX12_clause_135 : decode cX12_clause 135 = .ok (.invokevirtual 216, 3) := by decide +kernel
theorem dX12_clause_138 : decode cX12_clause 138 = .ok (.ifCond .eq 7, 3) := by decide +kernel
theorem dX12_clause_141 : decode cX12_clause 141 = .ok (.iconst 2, 1) := by decide +kernel
theorem dX12_clause_142 : decode cX12_clause 142 = .ok (.goto 18, 3) := by decide +kernel
theorem dX12_clause_145 : decode cX12_clause 145 = .ok (.aload_n 0, 1) := by decide +kernel
theorem dX12_clause_146 : decode cX12_clause 146 = .ok (.ldc_w 302, 3) := by decide +kernel
theorem dX12_clause_149 : decode cX12_clause 149 = .ok (.invokevirtual 216, 3) := by decide +kernel
theorem dX12_clause_152 : decode cX12_clause 152 = .ok (.ifCond .eq 7, 3) := by decide +kernel
theorem dX12_clause_155 : decode cX12_clause 155 = .ok (.iconst 3, 1) := by decide +kernel
theorem dX12_clause_156 : decode cX12_clause 156 = .ok (.goto 4, 3) := by decide +kernel
theorem dX12_clause_159 : decode cX12_clause 159 = .ok (.iconst 1, 1) := by decide +kernel
theorem dX12_clause_160 : decode cX12_clause 160 = .ok (.iastore, 1) := by decide +kernel
theorem dX12_clause_161 : decode cX12_clause 161 = .ok (.goto 84, 3) := by decide +kernel
theorem dX12_clause_164 : decode cX12_clause 164 = .ok (.aload_n 0, 1) := by decide +kernel
theorem dX12_clause_165 : decode cX12_clause 165 = .ok (.ldc_w 296, 3) := by decide +kernel
theorem dX12_clause_168 : decode cX12_clause 168 = .ok (.invokevirtual 216, 3) := by decide +kernel
theorem dX12_clause_171 : decode cX12_clause 171 = .ok (.ifCond .eq 42, 3) := by decide +kernel
theorem dX12_clause_174 : decode cX12_clause 174 = .ok (.aload_n 0, 1) := by decide +kernel
theorem dX12_clause_175 : decode cX12_clause 175 = .ok (.getfield 24, 3) := by decide +kernel
theorem dX12_clause_178 : decode cX12_clause 178 = .ok (.iload_n 2, 1) := by decide +kernel
theorem dX12_clause_179 : decode cX12_clause 179 = .ok (.iconst 4, 1) := by decide +kernel
theorem dX12_clause_180 : decode cX12_clause 180 = .ok (.iastore, 1) := by decide +kernel
theorem dX12_clause_181 : decode cX12_clause 181 = .ok (.aload_n 0, 1) := by decide +kernel
theorem dX12_clause_182 : decode cX12_clause 182 = .ok (.getfield 27, 3) := by decide +kernel
theorem dX12_clause_185 : decode cX12_clause 185 = .ok (.iload_n 2, 1) := by decide +kernel
theorem dX12_clause_186 : decode cX12_clause 186 = .ok (.aload_n 0, 1) := by decide +kernel
theorem dX12_clause_187 : decode cX12_clause 187 = .ok (.iconst 0, 1) := by decide +kernel
theorem dX12_clause_188 : decode cX12_clause 188 = .ok (.invokevirtual 267, 3) := by decide +kernel
theorem dX12_clause_191 : decode cX12_clause 191 = .ok (.iastore, 1) := by decide +kernel
theorem dX12_clause_192 : decode cX12_clause 192 = .ok (.aload_n 0, 1) := by decide +kernel
theorem dX12_clause_193 : decode cX12_clause 193 = .ok (.bipush 47, 2) := by decide +kernel
theorem dX12_clause_195 : decode cX12_clause 195 = .ok (.invokevirtual 240, 3) := by decide +kernel
theorem dX12_clause_198 : decode cX12_clause 198 = .ok (.pop, 1) := by decide +kernel
theorem dX12_clause_199 : decode cX12_clause 199 = .ok (.aload_n 0, 1) := by decide +kernel
theorem dX12_clause_200 : decode cX12_clause 200 = .ok (.getfield 30, 3) := by decide +kernel
theorem dX12_clause_203 : decode cX12_clause 203 = .ok (.iload_n 2, 1) := by decide +kernel
theorem dX12_clause_204 : decode cX12_clause 204 = .ok (.aload_n 0, 1) := by decide +kernel
theorem dX12_clause_205 : decode cX12_clause 205 = .ok (.iconst 1, 1) := by decide +kernel
theorem dX12_clause_206 : decode cX12_clause 206 = .ok (.invokevirtual 267, 3) := by decide +kernel
theorem dX12_clause_209 : decode cX12_clause 209 = .ok (.iastore, 1) := by decide +kernel
theorem dX12_clause_210 : decode cX12_clause 210 = .ok (.goto 35, 3) := by decide +kernel
theorem dX12_clause_213 : decode cX12_clause 213 = .ok (.aload_n 0, 1) := by decide +kernel
theorem dX12_clause_214 : decode cX12_clause 214 = .ok (.ldc_w 298, 3) := by decide +kernel
theorem dX12_clause_217 : decode cX12_clause 217 = .ok (.invokevirtual 216, 3) := by decide +kernel
theorem dX12_clause_220 : decode cX12_clause 220 = .ok (.ifCond .eq 25, 3) := by decide +kernel
theorem dX12_clause_223 : decode cX12_clause 223 = .ok (.aload_n 0, 1) := by decide +kernel
theorem dX12_clause_224 : decode cX12_clause 224 = .ok (.getfield 24, 3) := by decide +kernel
theorem dX12_clause_227 : decode cX12_clause 227 = .ok (.iload_n 2, 1) := by decide +kernel
theorem dX12_clause_228 : decode cX12_clause 228 = .ok (.aload_n 0, 1) := by decide +kernel
theorem dX12_clause_229 : decode cX12_clause 229 = .ok (.ldc_w 304, 3) := by decide +kernel
theorem dX12_clause_232 : decode cX12_clause 232 = .ok (.invokevirtual 216, 3) := by decide +kernel
theorem dX12_clause_235 : decode cX12_clause 235 = .ok (.ifCond .eq 8, 3) := by decide +kernel
theorem dX12_clause_238 : decode cX12_clause 238 = .ok (.bipush 6, 2) := by decide +kernel
theorem dX12_clause_240 : decode cX12_clause 240 = .ok (.goto 4, 3) := by decide +kernel
theorem dX12_clause_243 : decode cX12_clause 243 = .ok (.iconst 5, 1) := by decide +kernel
theorem dX12_clause_244 : decode cX12_clause 244 = .ok (.iastore, 1) := by decide +kernel
theorem dX12_clause_245 : decode cX12_clause 245 = .ok (.aload_n 0, 1) := by decide +kernel
theorem dX12_clause_246 : decode cX12_clause 246 = .ok (.getfield 33, 3) := by decide +kernel
theorem dX12_clause_249 : decode cX12_clause 249 = .ok (.iload_n 2, 1) := by decide +kernel
theorem dX12_clause_250 : decode cX12_clause 250 = .ok (.aload_n 0, 1) := by decide +kernel
theorem dX12_clause_251 : decode cX12_clause 251 = .ok (.getfield 204, 3) := by decide +kernel
theorem dX12_clause_254 : decode cX12_clause 254 = .ok (.iastore, 1) := by decide +kernel
theorem dX12_clause_255 : decode cX12_clause 255 = .ok (.aload_n 0, 1) := by decide +kernel
theorem dX12_clause_256 : decode cX12_clause 256 = .ok (.iconst 0, 1) := by decide +kernel
theorem dX12_clause_257 : decode cX12_clause 257 = .ok (.putfield 228, 3) := by decide +kernel
theorem dX12_clause_260 : decode cX12_clause 260 = .ok (.aload_n 0, 1) := by decide +kernel
theorem dX12_clause_261 : decode cX12_clause 261 = .ok (.ldc_w 306, 3) := by decide +kernel
theorem dX12_clause_264 : decode cX12_clause 264 = .ok (.invokevirtual 216, 3) := by decide +kernel
theorem dX12_clause_267 : decode cX12_clause 267 = .ok (.ifCond .eq 7, 3) := by decide +kernel
theorem dX12_clause_270 : decode cX12_clause 270 = .ok (.aload_n 0, 1) := by decide +kernel
theorem dX12_clause_271 : decode cX12_clause 271 = .ok (.invokevirtual 237, 3) := by decide +kernel
theorem dX12_clause_274 : decode cX12_clause 274 = .ok (.aload_n 0, 1) := by decide +kernel
theorem dX12_clause_275 : decode cX12_clause 275 = .ok (.getfield 36, 3) := by decide +kernel
theorem dX12_clause_278 : decode cX12_clause 278 = .ok (.iload_n 2, 1) := by decide +kernel
theorem dX12_clause_279 : decode cX12_clause 279 = .ok (.aload_n 0, 1) := by decide +kernel
theorem dX12_clause_280 : decode cX12_clause 280 = .ok (.getfield 204, 3) := by decide +kernel
theorem dX12_clause_283 : decode cX12_clause 283 = .ok (.iastore, 1) := by decide +kernel
theorem dX12_clause_284 : decode cX12_clause 284 = .ok (.aload_n 0, 1) := by decide +kernel
theorem dX12_clause_285 : decode cX12_clause 285 = .ok (.bipush 59, 2) := by decide +kernel
theorem dX12_clause_287 : decode cX12_clause 287 = .ok (.invokevirtual 240, 3) := by decide +kernel
theorem dX12_clause_290 : decode cX12_clause 290 = .ok (.pop, 1) := by decide +kernel
theorem dX12_clause_291 : decode cX12_clause 291 = .ok (.return_, 1) := by decide +kernel
theorem dX12_act_0 : decode cX12_act 0 = .ok (.aload_n 0, 1) := by decide +kernel
theorem dX12_act_1 : decode cX12_act 1 = .ok (.iconst 0, 1) := by decide +kernel
theorem dX12_act_2 : decode cX12_act 2 = .ok (.putfield 146, 3) := by decide +kernel
theorem dX12_act_5 : decode cX12_act 5 = .ok (.aload_n 0, 1) := by decide +kernel
theorem dX12_act_6 : decode cX12_act 6 = .ok (.iload_n 1, 1) := by decide +kernel
theorem dX12_act_7 : decode cX12_act 7 = .ok (.ifCond .lt 22, 3) := by decide +kernel
theorem dX12_act_10 : decode cX12_act 10 = .ok (.iload_n 1, 1) := by decide +kernel
theorem dX12_act_11 : decode cX12_act 11 = .ok (.aload_n 0, 1) := by decide +kernel
theorem dX12_act_12 : decode cX12_act 12 = .ok (.getfield 149, 3) := by decide +kernel
theorem dX12_act_15 : decode cX12_act 15 = .ok (.if_icmp .gt 14, 3) := by decide +kernel
theorem dX12_act_18 : decode cX12_act 18 = .ok (.iload_n 2, 1) := by decide +kernel
theorem dX12_act_19 : decode cX12_act 19 = .ok (.ifCond .lt 10, 3) := by decide +kernel
theorem dX12_act_22 : decode cX12_act 22 = .ok (.iload_n 2, 1) := by decide +kernel
theorem dX12_act_23 : decode cX12_act 23 = .ok (.sipush 9999, 3) := by decide +kernel
theorem dX12_act_26 : decode cX12_act 26 = .ok (.if_icmp .le 7, 3) := by decide +kernel
theorem dX12_act_29 : decode cX12_act 29 = .ok (.iconst 1, 1) := by decide +kernel
theorem dX12_act_30 : decode cX12_act 30 = .ok (.goto 4, 3) := by decide +kernel
theorem dX12_act_33 : decode cX12_act 33 = .ok (.iconst 0, 1) := by decide +kernel
theorem dX12_act_34 : decode cX12_act 34 = .ok (.iconst 1, 1) := by decide +kernel
theorem dX12_act_35 : decode cX12_act 35 = .ok (.invokevirtual 308, 3) := by decide +kernel
theorem dX12_act_38 : decode cX12_act 38 = .ok (.ifCond .ne 25, 3) := by decide +kernel
theorem dX12_act_41 : decode cX12_act 41 = .ok (.aload_n 0, 1) := by decide +kernel
theorem dX12_act_42 : decode cX12_act 42 = .ok (.aload_n 0, 1) := by decide +kernel
theorem dX12_act_43 : decode cX12_act 43 = .ok (.getfield 289, 3) := by decide +kernel
theorem dX12_act_46 : decode cX12_act 46 = .ok (.bipush 12, 2) := by decide +kernel
theorem dX12_act_48 : decode cX12_act 48 = .ok (.if_icmp .ne 7, 3) := by decide +kernel
theorem dX12_act_51 : decode cX12_act 51 = .ok (.iconst 1, 1) := by decide +kernel
theorem dX12_act_52 : decode cX12_act 52 = .ok (.goto 4, 3) := by decide +kernel
theorem dX12_act_55 : decode cX12_act 55 = .ok (.iconst 0, 1) := by decide +kernel
theorem dX12_act_56 : decode cX12_act 56 = .ok (.iconst 2, 1) := by decide +kernel
theorem dX12_act_57 : decode cX12_act 57 = .ok (.invokevirtual 308, 3) := by decide +kernel
theorem dX12_act_60 : decode cX12_act 60 = .ok (.ifCond .eq 5, 3) := by decide +kernel
theorem dX12_act_63 : decode cX12_act 63 = .ok (.iconst 0, 1) := by decide +kernel
theorem dX12_act_64 : decode cX12_act 64 = .ok (.ireturn, 1) := by decide +kernel
theorem dX12_act_65 : decode cX12_act 65 = .ok (.aload_n 0, 1) := by decide +kernel
theorem dX12_act_66 : decode cX12_act 66 = .ok (.iload_n 1, 1) := by decide +kernel
theorem dX12_act_67 : decode cX12_act 67 = .ok (.putfield 152, 3) := by decide +kernel
theorem dX12_act_70 : decode cX12_act 70 = .ok (.aload_n 0, 1) := by decide +kernel
theorem dX12_act_71 : decode cX12_act 71 = .ok (.iconst 0, 1) := by decide +kernel
theorem dX12_act_72 : decode cX12_act 72 = .ok (.putfield 149, 3) := by decide +kernel
theorem dX12_act_75 : decode cX12_act 75 = .ok (.aload_n 0, 1) := by decide +kernel
theorem dX12_act_76 : decode cX12_act 76 = .ok (.iconst 0, 1) := by decide +kernel
theorem dX12_act_77 : decode cX12_act 77 = .ok (.putfield 155, 3) := by decide +kernel
theorem dX12_act_80 : decode cX12_act 80 = .ok (.aload_n 0, 1) := by decide +kernel
theorem dX12_act_81 : decode cX12_act 81 = .ok (.iconst 0, 1) := by decide +kernel
theorem dX12_act_82 : decode cX12_act 82 = .ok (.putfield 162, 3) := by decide +kernel
theorem dX12_act_85 : decode cX12_act 85 = .ok (.aload_n 0, 1) := by decide +kernel
theorem dX12_act_86 : decode cX12_act 86 = .ok (.iconst (-1), 1) := by decide +kernel
theorem dX12_act_87 : decode cX12_act 87 = .ok (.putfield 13, 3) := by decide +kernel
theorem dX12_act_90 : decode cX12_act 90 = .ok (.aload_n 0, 1) := by decide +kernel
theorem dX12_act_91 : decode cX12_act 91 = .ok (.getfield 204, 3) := by decide +kernel
theorem dX12_act_94 : decode cX12_act 94 = .ok (.istore_n 3, 1) := by decide +kernel
theorem dX12_act_95 : decode cX12_act 95 = .ok (.iconst 0, 1) := by decide +kernel
theorem dX12_act_96 : decode cX12_act 96 = .ok (.istore 4, 2) := by decide +kernel
theorem dX12_act_98 : decode cX12_act 98 = .ok (.aload_n 0, 1) := by decide +kernel
theorem dX12_act_99 : decode cX12_act 99 = .ok (.invokevirtual 165, 3) := by decide +kernel
theorem dX12_act_102 : decode cX12_act 102 = .ok (.aload_n 0, 1) := by decide +kernel
theorem dX12_act_103 : decode cX12_act 103 = .ok (.getfield 162, 3) := by decide +kernel
theorem dX12_act_106 : decode cX12_act 106 = .ok (.ifCond .ne 30, 3) := by decide +kernel
theorem dX12_act_109 : decode cX12_act 109 = .ok (.aload_n 0, 1) := by decide +kernel
theorem dX12_act_110 : decode cX12_act 110 = .ok (.getfield 155, 3) := by decide +kernel
theorem dX12_act_113 : decode cX12_act 113 = .ok (.aload_n 0, 1) := by decide +kernel
theorem dX12_act_114 : decode cX12_act 114 = .ok (.getfield 152, 3) := by decide +kernel
theorem dX12_act_117 : decode cX12_act 117 = .ok (.if_icmp .ge 19, 3) := by decide +kernel
theorem dX12_act_120 : decode cX12_act 120 = .ok (.aload_n 0, 1) := by decide +kernel
theorem dX12_act_121 : decode cX12_act 121 = .ok (.iload 4, 2) := by decide +kernel
theorem dX12_act_123 : decode cX12_act 123 = .ok (.invokevirtual 312, 3) := by decide +kernel
theorem dX12_act_126 : decode cX12_act 126 = .ok (.iinc 4 1, 3) := by decide +kernel
theorem dX12_act_129 : decode cX12_act 129 = .ok (.aload_n 0, 1) := by decide +kernel
theorem dX12_act_130 : decode cX12_act 130 = .ok (.invokevirtual 165, 3) := by decide +kernel
theorem dX12_act_133 : decode cX12_act 133 = .ok (.goto (-31), 3) := by decide +kernel
theorem dX12_act_136 : decode cX12_act 136 = .ok (.aload_n 0, 1) := by decide +kernel
theorem dX12_act_137 : decode cX12_act 137 = .ok (.getfield 162, 3) := by decide +kernel
theorem dX12_act_140 : decode cX12_act 140 = .ok (.ifCond .le 16, 3) := by decide +kernel
theorem dX12_act_143 : decode cX12_act 143 = .ok (.aload_n 0, 1) := by decide +kernel
theorem dX12_act_144 : decode cX12_act 144 = .ok (.iload_n 3, 1) := by decide +kernel
theorem dX12_act_145 : decode cX12_act 145 = .ok (.putfield 204, 3) := by decide +kernel
theorem dX12_act_148 : decode cX12_act 148 = .ok (.aload_n 0, 1) := by decide +kernel
theorem dX12_act_149 : decode cX12_act 149 = .ok (.getfield 162, 3) := by decide +kernel
theorem dX12_act_152 : decode cX12_act 152 = .ok (.bipush 10, 2) := by decide +kernel
theorem dX12_act_154 : decode cX12_act 154 = .ok (.isub, 1) := by decide +kernel
theorem dX12_act_155 : decode cX12_act 155 = .ok (.ireturn, 1) := by decide +kernel
theorem dX12_act_156 : decode cX12_act 156 = .ok (.aload_n 0, 1) := by decide +kernel
theorem dX12_act_157 : decode cX12_act 157 = .ok (.getfield 17, 3) := by decide +kernel
theorem dX12_act_160 : decode cX12_act 160 = .ok (.aload_n 0, 1) := by decide +kernel
theorem dX12_act_161 : decode cX12_act 161 = .ok (.getfield 289, 3) := by decide +kernel
theorem dX12_act_164 : decode cX12_act 164 = .ok (.iload 4, 2) := by decide +kernel
theorem dX12_act_166 : decode cX12_act 166 = .ok (.iastore, 1) := by decide +kernel
theorem dX12_act_167 : decode cX12_act 167 = .ok (.aload_n 0, 1) := by decide +kernel
theorem dX12_act_168 : decode cX12_act 168 = .ok (.getfield 21, 3) := by decide +kernel
theorem dX12_act_171 : decode cX12_act 171 = .ok (.aload_n 0, 1) := by decide +kernel
theorem dX12_act_172 : decode cX12_act 172 = .ok (.getfield 289, 3) := by decide +kernel
theorem dX12_act_175 : decode cX12_act 175 = .ok (.iload_n 2, 1) := by decide +kernel
theorem dX12_act_176 : decode cX12_act 176 = .ok (.iastore, 1) := by decide +kernel
theorem dX12_act_177 : decode cX12_act 177 = .ok (.aload_n 0, 1) := by decide +kernel
theorem dX12_act_178 : decode cX12_act 178 = .ok (.dup, 1) := by decide +kernel
theorem dX12_act_179 : decode cX12_act 179 = .ok (.getfield 289, 3) := by decide +kernel
theorem dX12_act_182 : decode cX12_act 182 = .ok (.iconst 1, 1) := by decide +kernel
theorem dX12_act_183 : decode cX12_act 183 = .ok (.iadd, 1) := by decide +kernel
theorem dX12_act_184 : decode cX12_act 184 = .ok (.putfield 289, 3) := by decide +kernel
theorem dX12_act_187 : decode cX12_act 187 = .ok (.aload_n 0, 1) := by decide +kernel
theorem dX12_act_188 : decode cX12_act 188 = .ok (.getfield 289, 3) := by decide +kernel
theorem dX12_act_191 : decode cX12_act 191 = .ok (.iconst 1, 1) := by decide +kernel
theorem dX12_act_192 : decode cX12_act 192 = .ok (.isub, 1) := by decide +kernel
theorem dX12_act_193 : decode cX12_act 193 = .ok (.ireturn, 1) := by decide +kernel
theorem dX12_fault_0 : decode cX12_fault 0 = .ok (.aload_n 0, 1) := by decide +kernel
theorem dX12_fault_1 : decode cX12_fault 1 = .ok (.iconst 0, 1) := by decide +kernel
theorem dX12_fault_2 : decode cX12_fault 2 = .ok (.putfield 146, 3) := by decide +kernel
theorem dX12_fault_5 : decode cX12_fault 5 = .ok (.aload_n 0, 1) := by decide +kernel
theorem dX12_fault_6 : decode cX12_fault 6 = .ok (.getfield 13, 3) := by decide +kernel
theorem dX12_fault_9 : decode cX12_fault 9 = .ok (.ireturn, 1) := by decide +kernel
theorem dX12_forceOf_0 : decode cX12_forceOf 0 = .ok (.iconst (-1), 1) := by decide +kernel
theorem dX12_forceOf_1 : decode cX12_forceOf 1 = .ok (.istore_n 2, 1) := by decide +kernel
theorem dX12_forceOf_2 : decode cX12_forceOf 2 = .ok (.iconst 0, 1) := by decide +kernel
theorem dX12_forceOf_3 : decode cX12_forceOf 3 = .ok (.istore_n 3, 1) := by decide +kernel
theorem dX12_forceOf_4 : decode cX12_forceOf 4 = .ok (.iload_n 3, 1) := by decide +kernel
theorem dX12_forceOf_5 : decode cX12_forceOf 5 = .ok (.aload_n 0, 1) := by decide +kernel
theorem dX12_forceOf_6 : decode cX12_forceOf 6 = .ok (.getfield 289, 3) := by decide +kernel
theorem dX12_forceOf_9 : decode cX12_forceOf 9 = .ok (.if_icmp .ge 40, 3) := by decide +kernel
theorem dX12_forceOf_12 : decode cX12_forceOf 12 = .ok (.aload_n 0, 1) := by decide +kernel
theorem dX12_forceOf_13 : decode cX12_forceOf 13 = .ok (.getfield 21, 3) := by decide +kernel
theorem dX12_forceOf_16 : decode cX12_forceOf 16 = .ok (.iload_n 3, 1) := by decide +kernel
theorem dX12_forceOf_17 : decode cX12_forceOf 17 = .ok (.iaload, 1) := by decide +kernel
theorem dX12_forceOf_18 : decode cX12_forceOf 18 = .ok (.iload_n 1, 1) := by decide +kernel
theorem dX12_forceOf_19 : decode cX12_forceOf 19 = .ok (.if_icmp .gt 24, 3) := by decide +kernel
theorem dX12_forceOf_22 : decode cX12_forceOf 22 = .ok (.iload_n 2, 1) := by decide +kernel
theorem dX12_forceOf_23 : decode cX12_forceOf 23 = .ok (.ifCond .lt 18, 3) := by decide +kernel
theorem dX12_forceOf_26 : decode cX12_forceOf 26 = .ok (.aload_n 0, 1) := by decide +kernel
theorem dX12_forceOf_27 : decode cX12_forceOf 27 = .ok (.getfield 21, 3) := by decide +kernel
theorem dX12_forceOf_30 : decode cX12_forceOf 30 = .ok (.iload_n 3, 1) := by decide +kernel
theorem dX12_forceOf_31 : decode cX12_forceOf 31 = .ok (.iaload, 1) := by decide +kernel
theorem dX12_forceOf_32 : decode cX12_forceOf 32 = .ok (.aload_n 0, 1) := by decide +kernel
theorem dX12_forceOf_33 : decode cX12_forceOf 33 = .ok (.getfield 21, 3) := by decide +kernel
theorem dX12_forceOf_36 : decode cX12_forceOf 36 = .ok (.iload_n 2, 1) := by decide +kernel
theorem dX12_forceOf_37 : decode cX12_forceOf 37 = .ok (.iaload, 1) := by decide +kernel
theorem dX12_forceOf_38 : decode cX12_forceOf 38 = .ok (.if_icmp .lt 5, 3) := by decide +kernel
theorem dX12_forceOf_41 : decode cX12_forceOf 41 = .ok (.iload_n 3, 1) := by decide +kernel
theorem dX12_forceOf_42 : decode cX12_forceOf 42 = .ok (.istore_n 2, 1) := by decide +kernel
theorem dX12_forceOf_43 : decode cX12_forceOf 43 = .ok (.iinc 3 1, 3) := by decide +kernel
theorem dX12_forceOf_46 : decode cX12_forceOf 46 = .ok (.goto (-42), 3) := by decide +kernel
theorem dX12_forceOf_49 : decode cX12_forceOf 49 = .ok (.iload_n 2, 1) := by decide +kernel
theorem dX12_forceOf_50 : decode cX12_forceOf 50 = .ok (.ireturn, 1) := by decide +kernel
theorem dX12_force_0 : decode cX12_force 0 = .ok (.aload_n 0, 1) := by decide +kernel
theorem dX12_force_1 : decode cX12_force 1 = .ok (.iconst 0, 1) := by decide +kernel
theorem dX12_force_2 : decode cX12_force 2 = .ok (.putfield 146, 3) := by decide +kernel
theorem dX12_force_5 : decode cX12_force 5 = .ok (.aload_n 0, 1) := by decide +kernel
theorem dX12_force_6 : decode cX12_force 6 = .ok (.iload_n 1, 1) := by decide +kernel
theorem dX12_force_7 : decode cX12_force 7 = .ok (.ifCond .lt 10, 3) := by decide +kernel
theorem dX12_force_10 : decode cX12_force 10 = .ok (.iload_n 1, 1) := by decide +kernel
theorem dX12_force_11 : decode cX12_force 11 = .ok (.sipush 9999, 3) := by decide +kernel
theorem dX12_force_14 : decode cX12_force 14 = .ok (.if_icmp .le 7, 3) := by decide +kernel
theorem dX12_force_17 : decode cX12_force 17 = .ok (.iconst 1, 1) := by decide +kernel
theorem dX12_force_18 : decode cX12_force 18 = .ok (.goto 4, 3) := by decide +kernel
theorem dX12_force_21 : decode cX12_force 21 = .ok (.iconst 0, 1) := by decide +kernel
theorem dX12_force_22 : decode cX12_force 22 = .ok (.iconst 1, 1) := by decide +kernel
theorem dX12_force_23 : decode cX12_force 23 = .ok (.invokevirtual 308, 3) := by decide +kernel
theorem dX12_force_26 : decode cX12_force 26 = .ok (.ifCond .eq 7, 3) := by decide +kernel
theorem dX12_force_29 : decode cX12_force 29 = .ok (.iconst 0, 1) := by decide +kernel
theorem dX12_force_30 : decode cX12_force 30 = .ok (.goto 8, 3) := by decide +kernel
theorem dX12_force_33 : decode cX12_force 33 = .ok (.aload_n 0, 1) := by decide +kernel
theorem dX12_force_34 : decode cX12_force 34 = .ok (.iload_n 1, 1) := by decide +kernel
theorem dX12_force_35 : decode cX12_force 35 = .ok (.invokevirtual 315, 3) := by decide +kernel
theorem dX12_force_38 : decode cX12_force 38 = .ok (.ireturn, 1) := by decide +kernel
theorem dX12_stretch_0 : decode cX12_stretch 0 = .ok (.aload_n 0, 1) := by decide +kernel
theorem dX12_stretch_1 : decode cX12_stretch 1 = .ok (.iconst 0, 1) := by decide +kernel
theorem dX12_stretch_2 : decode cX12_stretch 2 = .ok (.putfield 146, 3) := by decide +kernel
theorem dX12_stretch_5 : decode cX12_stretch 5 = .ok (.aload_n 0, 1) := by decide +kernel
theorem dX12_stretch_6 : decode cX12_stretch 6 = .ok (.iload_n 1, 1) := by decide +kernel
theorem dX12_stretch_7 : decode cX12_stretch 7 = .ok (.iconst 1, 1) := by decide +kernel
theorem dX12_stretch_8 : decode cX12_stretch 8 = .ok (.if_icmp .lt 10, 3) := by decide +kernel
theorem dX12_stretch_11 : decode cX12_stretch 11 = .ok (.iload_n 1, 1) := by decide +kernel
theorem dX12_stretch_12 : decode cX12_stretch 12 = .ok (.sipush 10000, 3) := by decide +kernel
theorem dX12_stretch_15 : decode cX12_stretch 15 = .ok (.if_icmp .le 7, 3) := by decide +kernel
theorem dX12_stretch_18 : decode cX12_stretch 18 = .ok (.iconst 1, 1) := by decide +kernel
theorem dX12_stretch_19 : decode cX12_stretch 19 = .ok (.goto 4, 3) := by decide +kernel
theorem dX12_stretch_22 : decode cX12_stretch 22 = .ok (.iconst 0, 1) := by decide +kernel
theorem dX12_stretch_23 : decode cX12_stretch 23 = .ok (.iconst 1, 1) := by decide +kernel
theorem dX12_stretch_24 : decode cX12_stretch 24 = .ok (.invokevirtual 308, 3) := by decide +kernel
theorem dX12_stretch_27 : decode cX12_stretch 27 = .ok (.ifCond .ne 25, 3) := by decide +kernel
theorem dX12_stretch_30 : decode cX12_stretch 30 = .ok (.aload_n 0, 1) := by decide +kernel
theorem dX12_stretch_31 : decode cX12_stretch 31 = .ok (.aload_n 0, 1) := by decide +kernel
theorem dX12_stretch_32 : decode cX12_stretch 32 = .ok (.getfield 318, 3) := by decide +kernel
theorem dX12_stretch_35 : decode cX12_stretch 35 = .ok (.bipush 12, 2) := by decide +kernel
theorem dX12_stretch_37 : decode cX12_stretch 37 = .ok (.if_icmp .ne 7, 3) := by decide +kernel
theorem dX12_stretch_40 : decode cX12_stretch 40 = .ok (.iconst 1, 1) := by decide +kernel
theorem dX12_stretch_41 : decode cX12_stretch 41 = .ok (.goto 4, 3) := by decide +kernel
theorem dX12_stretch_44 : decode cX12_stretch 44 = .ok (.iconst 0, 1) := by decide +kernel
theorem dX12_stretch_45 : decode cX12_stretch 45 = .ok (.iconst 2, 1) := by decide +kernel
theorem dX12_stretch_46 : decode cX12_stretch 46 = .ok (.invokevirtual 308, 3) := by decide +kernel
theorem dX12_stretch_49 : decode cX12_stretch 49 = .ok (.ifCond .eq 5, 3) := by decide +kernel
theorem dX12_stretch_52 : decode cX12_stretch 52 = .ok (.iconst 0, 1) := by decide +kernel
theorem dX12_stretch_53 : decode cX12_stretch 53 = .ok (.ireturn, 1) := by decide +kernel
theorem dX12_stretch_54 : decode cX12_stretch 54 = .ok (.aload_n 0, 1) := by decide +kernel
theorem dX12_stretch_55 : decode cX12_stretch 55 = .ok (.getfield 63, 3) := by decide +kernel
theorem dX12_stretch_58 : decode cX12_stretch 58 = .ok (.aload_n 0, 1) := by decide +kernel
theorem dX12_stretch_59 : decode cX12_stretch 59 = .ok (.getfield 318, 3) := by decide +kernel
theorem dX12_stretch_62 : decode cX12_stretch 62 = .ok (.iload_n 1, 1) := by decide +kernel
theorem dX12_stretch_63 : decode cX12_stretch 63 = .ok (.iastore, 1) := by decide +kernel
theorem dX12_stretch_64 : decode cX12_stretch 64 = .ok (.aload_n 0, 1) := by decide +kernel
theorem dX12_stretch_65 : decode cX12_stretch 65 = .ok (.dup, 1) := by decide +kernel
theorem dX12_stretch_66 : decode cX12_stretch 66 = .ok (.getfield 318, 3) := by decide +kernel
theorem dX12_stretch_69 : decode cX12_stretch 69 = .ok (.iconst 1, 1) := by decide +kernel
theorem dX12_stretch_70 : decode cX12_stretch 70 = .ok (.iadd, 1) := by decide +kernel
theorem dX12_stretch_71 : decode cX12_stretch 71 = .ok (.putfield 318, 3) := by decide +kernel
theorem dX12_stretch_74 : decode cX12_stretch 74 = .ok (.aload_n 0, 1) := by decide +kernel
theorem dX12_stretch_75 : decode cX12_stretch 75 = .ok (.getfield 318, 3) := by decide +kernel
theorem dX12_stretch_78 : decode cX12_stretch 78 = .ok (.iconst 1, 1) := by decide +kernel
theorem dX12_stretch_79 : decode cX12_stretch 79 = .ok (.isub, 1) := by decide +kernel
theorem dX12_stretch_80 : decode cX12_stretch 80 = .ok (.ireturn, 1) := by decide +kernel
theorem dX12_gate_0 : decode cX12_gate 0 = .ok (.aload_n 0, 1) := by decide +kernel
theorem dX12_gate_1 : decode cX12_gate 1 = .ok (.iconst 0, 1) := by decide +kernel
theorem dX12_gate_2 : decode cX12_gate 2 = .ok (.putfield 146, 3) := by decide +kernel
theorem dX12_gate_5 : decode cX12_gate 5 = .ok (.aload_n 0, 1) := by decide +kernel
theorem dX12_gate_6 : decode cX12_gate 6 = .ok (.iload_n 1, 1) := by decide +kernel
theorem dX12_gate_7 : decode cX12_gate 7 = .ok (.ifCond .lt 11, 3) := by decide +kernel
theorem dX12_gate_10 : decode cX12_gate 10 = .ok (.iload_n 1, 1) := by decide +kernel
theorem dX12_gate_11 : decode cX12_gate 11 = .ok (.aload_n 0, 1) := by decide +kernel
theorem dX12_gate_12 : decode cX12_gate 12 = .ok (.getfield 318, 3) := by decide +kernel
theorem dX12_gate_15 : decode cX12_gate 15 = .ok (.if_icmp .lt 7, 3) := by decide +kernel
theorem dX12_gate_18 : decode cX12_gate 18 = .ok (.iconst 1, 1) := by decide +kernel
theorem dX12_gate_19 : decode cX12_gate 19 = .ok (.goto 4, 3) := by decide +kernel
theorem dX12_gate_22 : decode cX12_gate 22 = .ok (.iconst 0, 1) := by decide +kernel
theorem dX12_gate_23 : decode cX12_gate 23 = .ok (.iconst 1, 1) := by decide +kernel
theorem dX12_gate_24 : decode cX12_gate 24 = .ok (.invokevirtual 308, 3) := by decide +kernel
theorem dX12_gate_27 : decode cX12_gate 27 = .ok (.ifCond .ne 25, 3) := by decide +kernel
theorem dX12_gate_30 : decode cX12_gate 30 = .ok (.aload_n 0, 1) := by decide +kernel
theorem dX12_gate_31 : decode cX12_gate 31 = .ok (.aload_n 0, 1) := by decide +kernel
theorem dX12_gate_32 : decode cX12_gate 32 = .ok (.getfield 321, 3) := by decide +kernel
theorem dX12_gate_35 : decode cX12_gate 35 = .ok (.bipush 8, 2) := by decide +kernel
theorem dX12_gate_37 : decode cX12_gate 37 = .ok (.if_icmp .ne 7, 3) := by decide +kernel
theorem dX12_gate_40 : decode cX12_gate 40 = .ok (.iconst 1, 1) := by decide +kernel
theorem dX12_gate_41 : decode cX12_gate 41 = .ok (.goto 4, 3) := by decide +kernel
theorem dX12_gate_44 : decode cX12_gate 44 = .ok (.iconst 0, 1) := by decide +kernel
theorem dX12_gate_45 : decode cX12_gate 45 = .ok (.iconst 2, 1) := by decide +kernel
theorem dX12_gate_46 : decode cX12_gate 46 = .ok (.invokevirtual 308, 3) := by decide +kernel
theorem dX12_gate_49 : decode cX12_gate 49 = .ok (.ifCond .eq 5, 3) := by decide +kernel
theorem dX12_gate_52 : decode cX12_gate 52 = .ok (.iconst 0, 1) := by decide +kernel
theorem dX12_gate_53 : decode cX12_gate 53 = .ok (.ireturn, 1) := by decide +kernel
theorem dX12_gate_54 : decode cX12_gate 54 = .ok (.aload_n 0, 1) := by decide +kernel
theorem dX12_gate_55 : decode cX12_gate 55 = .ok (.getfield 70, 3) := by decide +kernel
theorem dX12_gate_58 : decode cX12_gate 58 = .ok (.aload_n 0, 1) := by decide +kernel
theorem dX12_gate_59 : decode cX12_gate 59 = .ok (.getfield 321, 3) := by decide +kernel
theorem dX12_gate_62 : decode cX12_gate 62 = .ok (.iload_n 1, 1) := by decide +kernel
theorem dX12_gate_63 : decode cX12_gate 63 = .ok (.iastore, 1) := by decide +kernel
theorem dX12_gate_64 : decode cX12_gate 64 = .ok (.aload_n 0, 1) := by decide +kernel
theorem dX12_gate_65 : decode cX12_gate 65 = .ok (.getfield 113, 3) := by decide +kernel
theorem dX12_gate_68 : decode cX12_gate 68 = .ok (.aload_n 0, 1) := by decide +kernel
theorem dX12_gate_69 : decode cX12_gate 69 = .ok (.getfield 321, 3) := by decide +kernel
theorem dX12_gate_72 : decode cX12_gate 72 = .ok (.iconst (-1), 1) := by decide +kernel
theorem dX12_gate_73 : decode cX12_gate 73 = .ok (.iastore, 1) := by decide +kernel
theorem dX12_gate_74 : decode cX12_gate 74 = .ok (.aload_n 0, 1) := by decide +kernel
theorem dX12_gate_75 : decode cX12_gate 75 = .ok (.dup, 1) := by decide +kernel
theorem dX12_gate_76 : decode cX12_gate 76 = .ok (.getfield 321, 3) := by decide +kernel
theorem dX12_gate_79 : decode cX12_gate 79 = .ok (.iconst 1, 1) := by decide +kernel
theorem dX12_gate_80 : decode cX12_gate 80 = .ok (.iadd, 1) := by decide +kernel
theorem dX12_gate_81 : decode cX12_gate 81 = .ok (.putfield 321, 3) := by decide +kernel
theorem dX12_gate_84 : decode cX12_gate 84 = .ok (.aload_n 0, 1) := by decide +kernel
theorem dX12_gate_85 : decode cX12_gate 85 = .ok (.getfield 321, 3) := by decide +kernel
theorem dX12_gate_88 : decode cX12_gate 88 = .ok (.iconst 1, 1) := by decide +kernel
theorem dX12_gate_89 : decode cX12_gate 89 = .ok (.isub, 1) := by decide +kernel
theorem dX12_gate_90 : decode cX12_gate 90 = .ok (.ireturn, 1) := by decide +kernel
theorem dX12_traveller_0 : decode cX12_traveller 0 = .ok (.aload_n 0, 1) := by decide +kernel
theorem dX12_traveller_1 : decode cX12_traveller 1 = .ok (.iconst 0, 1) := by decide +kernel
theorem dX12_traveller_2 : decode cX12_traveller 2 = .ok (.putfield 146, 3) := by decide +kernel
theorem dX12_traveller_5 : decode cX12_traveller 5 = .ok (.iload_n 1, 1) := by decide +kernel
theorem dX12_traveller_6 : decode cX12_traveller 6 = .ok (.ifCond .lt 42, 3) := by decide +kernel
theorem dX12_traveller_9 : decode cX12_traveller 9 = .ok (.iload_n 1, 1) := by decide +kernel
theorem dX12_traveller_10 : decode cX12_traveller 10 = .ok (.bipush 6, 2) := by decide +kernel
theorem dX12_traveller_12 : decode cX12_traveller 12 = .ok (.if_icmp .gt 36, 3) := by decide +kernel
theorem dX12_traveller_15 : decode cX12_traveller 15 = .ok (.iload_n 2, 1) := by decide +kernel
theorem dX12_traveller_16 : decode cX12_traveller 16 = .ok (.ifCond .lt 32, 3) := by decide +kernel
theorem dX12_traveller_19 : decode cX12_traveller 19 = .ok (.iload_n 2, 1) := by decide +kernel
theorem dX12_traveller_20 : decode cX12_traveller 20 = .ok (.bipush 20, 2) := by decide +kernel
theorem dX12_traveller_22 : decode cX12_traveller 22 = .ok (.if_icmp .gt 26, 3) := by decide +kernel
theorem dX12_traveller_25 : decode cX12_traveller 25 = .ok (.iload_n 3, 1) := by decide +kernel
theorem dX12_traveller_26 : decode cX12_traveller 26 = .ok (.ifCond .lt 22, 3) := by decide +kernel
theorem dX12_traveller_29 : decode cX12_traveller 29 = .ok (.iload_n 3, 1) := by decide +kernel
theorem dX12_traveller_30 : decode cX12_traveller 30 = .ok (.sipush 10000, 3) := by decide +kernel
theorem dX12_traveller_33 : decode cX12_traveller 33 = .ok (.if_icmp .gt 15, 3) := by decide +kernel
theorem dX12_traveller_36 : decode cX12_traveller 36 = .ok (.iload 4, 2) := by decide +kernel
theorem dX12_traveller_38 : decode cX12_traveller 38 = .ok (.ifCond .lt 10, 3) := by decide +kernel
theorem dX12_traveller_41 : decode cX12_traveller 41 = .ok (.iload 4, 2) := by decide +kernel
theorem dX12_traveller_43 : decode cX12_traveller 43 = .ok (.bipush 15, 2) := by decide +kernel
theorem dX12_traveller_45 : decode cX12_traveller 45 = .ok (.if_icmp .le 7, 3) := by decide +kernel
theorem dX12_traveller_48 : decode cX12_traveller 48 = .ok (.iconst 1, 1) := by decide +kernel
theorem dX12_traveller_49 : decode cX12_traveller 49 = .ok (.goto 4, 3) := by decide +kernel
theorem dX12_traveller_52 : decode cX12_traveller 52 = .ok (.iconst 0, 1) := by decide +kernel
theorem dX12_traveller_53 : decode cX12_traveller 53 = .ok (.istore 5, 2) := by decide +kernel
theorem dX12_traveller_55 : decode cX12_traveller 55 = .ok (.aload_n 0, 1) := by decide +kernel
theorem dX12_traveller_56 : decode cX12_traveller 56 = .ok (.iload 5, 2) := by decide +kernel
theorem dX12_traveller_58 : decode cX12_traveller 58 = .ok (.iconst 1, 1) := by decide +kernel
theorem dX12_traveller_59 : decode cX12_traveller 59 = .ok (.invokevirtual 308, 3) := by decide +kernel
theorem dX12_traveller_62 : decode cX12_traveller 62 = .ok (.ifCond .ne 25, 3) := by decide +kernel
theorem dX12_traveller_65 : decode cX12_traveller 65 = .ok (.aload_n 0, 1) := by decide +kernel
theorem dX12_traveller_66 : decode cX12_traveller 66 = .ok (.aload_n 0, 1) := by decide +kernel
theorem dX12_traveller_67 : decode cX12_traveller 67 = .ok (.getfield 324, 3) := by decide +kernel
theorem dX12_traveller_70 : decode cX12_traveller 70 = .ok (.bipush 60, 2) := by decide +kernel
theorem dX12_traveller_72 : decode cX12_traveller 72 = .ok (.if_icmp .ne 7, 3) := by decide +kernel
theorem dX12_traveller_75 : decode cX12_traveller 75 = .ok (.iconst 1, 1) := by decide +kernel
theorem dX12_traveller_76 : decode cX12_traveller 76 = .ok (.goto 4, 3) := by decide +kernel
theorem dX12_traveller_79 : decode cX12_traveller 79 = .ok (.iconst 0, 1) := by decide +kernel
theorem dX12_traveller_80 : decode cX12_traveller 80 = .ok (.iconst 2, 1) := by decide +kernel
theorem dX12_traveller_81 : decode cX12_traveller 81 = .ok (.invokevirtual 308, 3) := by decide +kernel
theorem dX12_traveller_84 : decode cX12_traveller 84 = .ok (.ifCond .eq 5, 3) := by decide +kernel
theorem dX12_traveller_87 : decode cX12_traveller 87 = .ok (.iconst 0, 1) := by decide +kernel
theorem dX12_traveller_88 : decode cX12_traveller 88 = .ok (.ireturn, 1) := by decide +kernel
theorem dX12_traveller_89 : decode cX12_traveller 89 = .ok (.aload_n 0, 1) := by decide +kernel
theorem dX12_traveller_90 : decode cX12_traveller 90 = .ok (.getfield 45, 3) := by decide +kernel
theorem dX12_traveller_93 : decode cX12_traveller 93 = .ok (.aload_n 0, 1) := by decide +kernel
theorem dX12_traveller_94 : decode cX12_traveller 94 = .ok (.getfield 324, 3) := by decide +kernel
theorem dX12_traveller_97 : decode cX12_traveller 97 = .ok (.iload_n 1, 1) := by decide +kernel
theorem dX12_traveller_98 : decode cX12_traveller 98 = .ok (.iastore, 1) := by decide +kernel
theorem dX12_traveller_99 : decode cX12_traveller 99 = .ok (.aload_n 0, 1) := by decide +kernel
theorem dX12_traveller_100 : decode cX12_traveller 100 = .ok (.getfield 48, 3) := by decide +kernel
theorem dX12_traveller_103 : decode cX12_traveller 103 = .ok (.aload_n 0, 1) := by decide +kernel
theorem dX12_traveller_104 : decode cX12_traveller 104 = .ok (.getfield 324, 3) := by decide +kernel
theorem dX12_traveller_107 : decode cX12_traveller 107 = .ok (.iload_n 2, 1) := by decide +kernel
theorem dX12_traveller_108 : decode cX12_traveller 108 = .ok (.iastore, 1) := by decide +kernel
theorem dX12_traveller_109 : decode cX12_traveller 109 = .ok (.aload_n 0, 1) := by decide +kernel
theorem dX12_traveller_110 : decode cX12_traveller 110 = .ok (.getfield 51, 3) := by decide +kernel
theorem dX12_traveller_113 : decode cX12_traveller 113 = .ok (.aload_n 0, 1) := by decide +kernel
theorem dX12_traveller_114 : decode cX12_traveller 114 = .ok (.getfield 324, 3) := by decide +kernel
theorem dX12_traveller_117 : decode cX12_traveller 117 = .ok (.iload_n 3, 1) := by decide +kernel
theorem dX12_traveller_118 : decode cX12_traveller 118 = .ok (.iastore, 1) := by decide +kernel
theorem dX12_traveller_119 : decode cX12_traveller 119 = .ok (.aload_n 0, 1) := by decide +kernel
theorem dX12_traveller_120 : decode cX12_traveller 120 = .ok (.getfield 54, 3) := by decide +kernel
theorem dX12_traveller_123 : decode cX12_traveller 123 = .ok (.aload_n 0, 1) := by decide +kernel
theorem dX12_traveller_124 : decode cX12_traveller 124 = .ok (.getfield 324, 3) := by decide +kernel
theorem dX12_traveller_127 : decode cX12_traveller 127 = .ok (.iload 4, 2) := by decide +kernel
theorem dX12_traveller_129 : decode cX12_traveller 129 = .ok (.iastore, 1) := by decide +kernel
theorem dX12_traveller_130 : decode cX12_traveller 130 = .ok (.iconst 0, 1) := by decide +kernel
theorem dX12_traveller_131 : decode cX12_traveller 131 = .ok (.istore 6, 2) := by decide +kernel
theorem dX12_traveller_133 : decode cX12_traveller 133 = .ok (.iload 6, 2) := by decide +kernel
theorem dX12_traveller_135 : decode cX12_traveller 135 = .ok (.bipush 8, 2) := by decide +kernel
theorem dX12_traveller_137 : decode cX12_traveller 137 = .ok (.if_icmp .ge 41, 3) := by decide +kernel
theorem dX12_traveller_140 : decode cX12_traveller 140 = .ok (.aload_n 0, 1) := by decide +kernel
theorem dX12_traveller_141 : decode cX12_traveller 141 = .ok (.getfield 57, 3) := by decide +kernel
theorem dX12_traveller_144 : decode cX12_traveller 144 = .ok (.bipush 8, 2) := by decide +kernel
theorem dX12_traveller_146 : decode cX12_traveller 146 = .ok (.aload_n 0, 1) := by decide +kernel
theorem dX12_traveller_147 : decode cX12_traveller 147 = .ok (.getfield 324, 3) := by decide +kernel
theorem dX12_traveller_150 : decode cX12_traveller 150 = .ok (.imul, 1) := by decide +kernel
theorem dX12_traveller_151 : decode cX12_traveller 151 = .ok (.iload 6, 2) := by decide +kernel
theorem dX12_traveller_153 : decode cX12_traveller 153 = .ok (.iadd, 1) := by decide +kernel
theorem dX12_traveller_154 : decode cX12_traveller 154 = .ok (.iconst (-1), 1) := by decide +kernel
theorem dX12_traveller_155 : decode cX12_traveller 155 = .ok (.iastore, 1) := by decide +kernel
theorem dX12_traveller_156 : decode cX12_traveller 156 = .ok (.aload_n 0, 1) := by decide +kernel
theorem dX12_traveller_157 : decode cX12_traveller 157 = .ok (.getfield 60, 3) := by decide +kernel
theorem dX12_traveller_160 : decode cX12_traveller 160 = .ok (.bipush 8, 2) := by decide +kernel
theorem dX12_traveller_162 : decode cX12_traveller 162 = .ok (.aload_n 0, 1) := by decide +kernel
theorem dX12_traveller_163 : decode cX12_traveller 163 = .ok (.getfield 324, 3) := by decide +kernel
theorem dX12_traveller_166 : decode cX12_traveller 166 = .ok (.imul, 1) := by decide +kernel
theorem dX12_traveller_167 : decode cX12_traveller 167 = .ok (.iload 6, 2) := by decide +kernel
theorem dX12_traveller_169 : decode cX12_traveller 169 = .ok (.iadd, 1) := by decide +kernel
theorem dX12_traveller_170 : decode cX12_traveller 170 = .ok (.iconst (-1), 1) := by decide +kernel
theorem dX12_traveller_171 : decode cX12_traveller 171 = .ok (.iastore, 1) := by decide +kernel
theorem dX12_traveller_172 : decode cX12_traveller 172 = .ok (.iinc 6 1, 3) := by decide +kernel
theorem dX12_traveller_175 : decode cX12_traveller 175 = .ok (.goto (-42), 3) := by decide +kernel
theorem dX12_traveller_178 : decode cX12_traveller 178 = .ok (.aload_n 0, 1) := by decide +kernel
theorem dX12_traveller_179 : decode cX12_traveller 179 = .ok (.dup, 1) := by decide +kernel
theorem dX12_traveller_180 : decode cX12_traveller 180 = .ok (.getfield 324, 3) := by decide +kernel
theorem dX12_traveller_183 : decode cX12_traveller 183 = .ok (.iconst 1, 1) := by decide +kernel
theorem dX12_traveller_184 : decode cX12_traveller 184 = .ok (.iadd, 1) := by decide +kernel
theorem dX12_traveller_185 : decode cX12_traveller 185 = .ok (.putfield 324, 3) := by decide +kernel
theorem dX12_traveller_188 : decode cX12_traveller 188 = .ok (.aload_n 0, 1) := by decide +kernel
theorem dX12_traveller_189 : decode cX12_traveller 189 = .ok (.getfield 324, 3) := by decide +kernel
theorem dX12_traveller_192 : decode cX12_traveller 192 = .ok (.iconst 1, 1) := by decide +kernel
theorem dX12_traveller_193 : decode cX12_traveller 193 = .ok (.isub, 1) := by decide +kernel
theorem dX12_traveller_194 : decode cX12_traveller 194 = .ok (.ireturn, 1) := by decide +kernel
theorem dX12_isSo_0 : decode cX12_isSo 0 = .ok (.iload_n 0, 1) := by decide +kernel
theorem dX12_isSo_1 : decode cX12_isSo 1 = .ok (.ifCond .ne 16, 3) := by decide +kernel
theorem dX12_isSo_4 : decode cX12_isSo 4 = .ok (.iload_n 1, 1) := by decide +kernel
theorem dX12_isSo_5 : decode cX12_isSo 5 = .ok (.iload_n 2, 1) := by decide +kernel
theorem dX12_isSo_6 : decode cX12_isSo 6 = .ok (.if_icmp .ne 7, 3) := by decide +kernel
theorem dX12_isSo_9 : decode cX12_isSo 9 = .ok (.iconst 1, 1) := by decide +kernel
theorem dX12_isSo_10 : decode cX12_isSo 10 = .ok (.goto 35, 3) := by decide +kernel
theorem dX12_isSo_13 : decode cX12_isSo 13 = .ok (.iconst 0, 1) := by decide +kernel
theorem dX12_isSo_14 : decode cX12_isSo 14 = .ok (.goto 31, 3) := by decide +kernel
theorem dX12_isSo_17 : decode cX12_isSo 17 = .ok (.iload_n 0, 1) := by decide +kernel
theorem dX12_isSo_18 : decode cX12_isSo 18 = .ok (.iconst 1, 1) := by decide +kernel
theorem dX12_isSo_19 : decode cX12_isSo 19 = .ok (.if_icmp .ne 16, 3) := by decide +kernel
theorem dX12_isSo_22 : decode cX12_isSo 22 = .ok (.iload_n 1, 1) := by decide +kernel
theorem dX12_isSo_23 : decode cX12_isSo 23 = .ok (.iload_n 2, 1) := by decide +kernel
theorem dX12_isSo_24 : decode cX12_isSo 24 = .ok (.if_icmp .ge 7, 3) := by decide +kernel
theorem dX12_isSo_27 : decode cX12_isSo 27 = .ok (.iconst 1, 1) := by decide +kernel
theorem dX12_isSo_28 : decode cX12_isSo 28 = .ok (.goto 17, 3) := by decide +kernel
theorem dX12_isSo_31 : decode cX12_isSo 31 = .ok (.iconst 0, 1) := by decide +kernel
theorem dX12_isSo_32 : decode cX12_isSo 32 = .ok (.goto 13, 3) := by decide +kernel
theorem dX12_isSo_35 : decode cX12_isSo 35 = .ok (.iload_n 1, 1) := by decide +kernel
theorem dX12_isSo_36 : decode cX12_isSo 36 = .ok (.iload_n 2, 1) := by decide +kernel
theorem dX12_isSo_37 : decode cX12_isSo 37 = .ok (.if_icmp .le 7, 3) := by decide +kernel
theorem dX12_isSo_40 : decode cX12_isSo 40 = .ok (.iconst 1, 1) := by decide +kernel
theorem dX12_isSo_41 : decode cX12_isSo 41 = .ok (.goto 4, 3) := by decide +kernel
theorem dX12_isSo_44 : decode cX12_isSo 44 = .ok (.iconst 0, 1) := by decide +kernel
theorem dX12_isSo_45 : decode cX12_isSo 45 = .ok (.ireturn, 1) := by decide +kernel
theorem dX12_holds_0 : decode cX12_holds 0 = .ok (.iconst 0, 1) := by decide +kernel
theorem dX12_holds_1 : decode cX12_holds 1 = .ok (.istore 4, 2) := by decide +kernel
theorem dX12_holds_3 : decode cX12_holds 3 = .ok (.aload_n 0, 1) := by decide +kernel
theorem dX12_holds_4 : decode cX12_holds 4 = .ok (.getfield 33, 3) := by decide +kernel
theorem dX12_holds_7 : decode cX12_holds 7 = .ok (.iload_n 1, 1) := by decide +kernel
theorem dX12_holds_8 : decode cX12_holds 8 = .ok (.iaload, 1) := by decide +kernel
theorem dX12_holds_9 : decode cX12_holds 9 = .ok (.istore 5, 2) := by decide +kernel
theorem dX12_holds_11 : decode cX12_holds 11 = .ok (.iload 5, 2) := by decide +kernel
theorem dX12_holds_13 : decode cX12_holds 13 = .ok (.aload_n 0, 1) := by decide +kernel
theorem dX12_holds_14 : decode cX12_holds 14 = .ok (.getfield 36, 3) := by decide +kernel
theorem dX12_holds_17 : decode cX12_holds 17 = .ok (.iload_n 1, 1) := by decide +kernel
theorem dX12_holds_18 : decode cX12_holds 18 = .ok (.iaload, 1) := by decide +kernel
theorem dX12_holds_19 : decode cX12_holds 19 = .ok (.if_icmp .ge 170, 3) := by decide +kernel
theorem dX12_holds_22 : decode cX12_holds 22 = .ok (.aload_n 0, 1) := by decide +kernel
theorem dX12_holds_23 : decode cX12_holds 23 = .ok (.getfield 39, 3) := by decide +kernel
theorem dX12_holds_26 : decode cX12_holds 26 = .ok (.iload 5, 2) := by decide +kernel
theorem dX12_holds_28 : decode cX12_holds 28 = .ok (.iaload, 1) := by decide +kernel
theorem dX12_holds_29 : decode cX12_holds 29 = .ok (.istore 6, 2) := by decide +kernel
theorem dX12_holds_31 : decode cX12_holds 31 = .ok (.aload_n 0, 1) := by decide +kernel
theorem dX12_holds_32 : decode cX12_holds 32 = .ok (.getfield 42, 3) := by decide +kernel
theorem dX12_holds_35 : decode cX12_holds 35 = .ok (.iload 5, 2) := by decide +kernel
theorem dX12_holds_37 : decode cX12_holds 37 = .ok (.iaload, 1) := by decide +kernel
theorem dX12_holds_38 : decode cX12_holds 38 = .ok (.istore 7, 2) := by decide +kernel
theorem dX12_holds_40 : decode cX12_holds 40 = .ok (.iload 6, 2) := by decide +kernel
theorem dX12_holds_42 : decode cX12_holds 42 = .ok (.ifCond .eq 9, 3) := by decide +kernel
theorem dX12_holds_45 : decode cX12_holds 45 = .ok (.iload 6, 2) := by decide +kernel
theorem dX12_holds_47 : decode cX12_holds 47 = .ok (.iconst 1, 1) := by decide +kernel
theorem dX12_holds_48 : decode cX12_holds 48 = .ok (.if_icmp .ne 80, 3) := by decide +kernel
theorem dX12_holds_51 : decode cX12_holds 51 = .ok (.iinc 4 (-1), 3) := by decide +kernel
theorem dX12_holds_54 : decode cX12_holds 54 = .ok (.aload_n 0, 1) := by decide +kernel
theorem dX12_holds_55 : decode cX12_holds 55 = .ok (.getfield 76, 3) := by decide +kernel
theorem dX12_holds_58 : decode cX12_holds 58 = .ok (.iload 4, 2) := by decide +kernel
theorem dX12_holds_60 : decode cX12_holds 60 = .ok (.iconst 1, 1) := by decide +kernel
theorem dX12_holds_61 : decode cX12_holds 61 = .ok (.isub, 1) := by decide +kernel
theorem dX12_holds_62 : decode cX12_holds 62 = .ok (.iload 6, 2) := by decide +kernel
theorem dX12_holds_64 : decode cX12_holds 64 = .ok (.ifCond .ne 33, 3) := by decide +kernel
theorem dX12_holds_67 : decode cX12_holds 67 = .ok (.aload_n 0, 1) := by decide +kernel
theorem dX12_holds_68 : decode cX12_holds 68 = .ok (.getfield 76, 3) := by decide +kernel
theorem dX12_holds_71 : decode cX12_holds 71 = .ok (.iload 4, 2) := by decide +kernel
theorem dX12_holds_73 : decode cX12_holds 73 = .ok (.iconst 1, 1) := by decide +kernel
theorem dX12_holds_74 : decode cX12_holds 74 = .ok (.isub, 1) := by decide +kernel
theorem dX12_holds_75 : decode cX12_holds 75 = .ok (.baload, 1) := by decide +kernel
theorem dX12_holds_76 : decode cX12_holds 76 = .ok (.ifCond .eq 17, 3) := by decide +kernel
theorem dX12_holds_79 : decode cX12_holds 79 = .ok (.aload_n 0, 1) := by decide +kernel
theorem dX12_holds_80 : decode cX12_holds 80 = .ok (.getfield 76, 3) := by decide +kernel
theorem dX12_holds_83 : decode cX12_holds 83 = .ok (.iload 4, 2) := by decide +kernel
theorem dX12_holds_85 : decode cX12_holds 85 = .ok (.baload, 1) := by decide +kernel
theorem dX12_holds_86 : decode cX12_holds 86 = .ok (.ifCond .eq 7, 3) := by decide +kernel
theorem dX12_holds_89 : decode cX12_holds 89 = .ok (.iconst 1, 1) := by decide +kernel
theorem dX12_holds_90 : decode cX12_holds 90 = .ok (.goto 34, 3) := by decide +kernel
theorem dX12_holds_93 : decode cX12_holds 93 = .ok (.iconst 0, 1) := by decide +kernel
theorem dX12_holds_94 : decode cX12_holds 94 = .ok (.goto 30, 3) := by decide +kernel
theorem dX12_holds_97 : decode cX12_holds 97 = .ok (.aload_n 0, 1) := by decide +kernel
theorem dX12_holds_98 : decode cX12_holds 98 = .ok (.getfield 76, 3) := by decide +kernel
theorem dX12_holds_101 : decode cX12_holds 101 = .ok (.iload 4, 2) := by decide +kernel
theorem dX12_holds_103 : decode cX12_holds 103 = .ok (.iconst 1, 1) := by decide +kernel
theorem dX12_holds_104 : decode cX12_holds 104 = .ok (.isub, 1) := by decide +kernel
theorem dX12_holds_105 : decode cX12_holds 105 = .ok (.baload, 1) := by decide +kernel
theorem dX12_holds_106 : decode cX12_holds 106 = .ok (.ifCond .ne 13, 3) := by decide +kernel
theorem dX12_holds_109 : decode cX12_holds 109 = .ok (.aload_n 0, 1) := by decide +kernel
theorem dX12_holds_110 : decode cX12_holds 110 = .ok (.getfield 76, 3) := by decide +kernel
theorem dX12_holds_113 : decode cX12_holds 113 = .ok (.iload 4, 2) := by decide +kernel
theorem dX12_holds_115 : decode cX12_holds 115 = .ok (.baload, 1) := by decide +kernel
theorem dX12_holds_116 : decode cX12_holds 116 = .ok (.ifCond .eq 7, 3) := by decide +kernel
theorem dX12_holds_119 : decode cX12_holds 119 = .ok (.iconst 1, 1) := by decide +kernel
theorem dX12_holds_120 : decode cX12_holds 120 = .ok (.goto 4, 3) := by decide +kernel
theorem dX12_holds_123 : decode cX12_holds 123 = .ok (.iconst 0, 1) := by decide +kernel
theorem dX12_holds_124 : decode cX12_holds 124 = .ok (.bastore, 1) := by decide +kernel
theorem dX12_holds_125 : decode cX12_holds 125 = .ok (.goto 58, 3) := by decide +kernel
theorem dX12_holds_128 : decode cX12_holds 128 = .ok (.iload 6, 2) := by decide +kernel
theorem dX12_holds_130 : decode cX12_holds 130 = .ok (.iconst 2, 1) := by decide +kernel
theorem dX12_holds_131 : decode cX12_holds 131 = .ok (.if_icmp .ne 32, 3) := by decide +kernel
theorem dX12_holds_134 : decode cX12_holds 134 = .ok (.aload_n 0, 1) := by decide +kernel
theorem dX12_holds_135 : decode cX12_holds 135 = .ok (.getfield 76, 3) := by decide +kernel
theorem dX12_holds_138 : decode cX12_holds 138 = .ok (.iload 4, 2) := by decide +kernel
theorem dX12_holds_140 : decode cX12_holds 140 = .ok (.iconst 1, 1) := by decide +kernel
theorem dX12_holds_141 : decode cX12_holds 141 = .ok (.isub, 1) := by decide +kernel
theorem dX12_holds_142 : decode cX12_holds 142 = .ok (.aload_n 0, 1) := by decide +kernel
theorem dX12_holds_143 : decode cX12_holds 143 = .ok (.getfield 76, 3) := by decide +kernel
theorem dX12_holds_146 : decode cX12_holds 146 = .ok (.iload 4, 2) := by decide +kernel
theorem dX12_holds_148 : decode cX12_holds 148 = .ok (.iconst 1, 1) := by decide +kernel
theorem dX12_holds_149 : decode cX12_holds 149 = .ok (.isub, 1) := by decide +kernel
theorem dX12_holds_150 : decode cX12_holds 150 = .ok (.baload, 1) := by decide +kernel
theorem dX12_holds_151 : decode cX12_holds 151 = .ok (.ifCond .ne 7, 3) := by decide +kernel
theorem dX12_holds_154 : decode cX12_holds 154 = .ok (.iconst 1, 1) := by decide +kernel
theorem dX12_holds_155 : decode cX12_holds 155 = .ok (.goto 4, 3) := by decide +kernel
theorem dX12_holds_158 : decode cX12_holds 158 = .ok (.iconst 0, 1) := by decide +kernel
theorem dX12_holds_159 : decode cX12_holds 159 = .ok (.bastore, 1) := by decide +kernel
theorem dX12_holds_160 : decode cX12_holds 160 = .ok (.goto 23, 3) := by decide +kernel
theorem dX12_holds_163 : decode cX12_holds 163 = .ok (.aload_n 0, 1) := by decide +kernel
theorem dX12_holds_164 : decode cX12_holds 164 = .ok (.getfield 76, 3) := by decide +kernel
theorem dX12_holds_167 : decode cX12_holds 167 = .ok (.iload 4, 2) := by decide +kernel
theorem dX12_holds_169 : decode cX12_holds 169 = .ok (.aload_n 0, 1) := by decide +kernel
theorem dX12_holds_170 : decode cX12_holds 170 = .ok (.iload 6, 2) := by decide +kernel
theorem dX12_holds_172 : decode cX12_holds 172 = .ok (.iload 7, 2) := by decide +kernel
theorem dX12_holds_174 : decode cX12_holds 174 = .ok (.iload_n 2, 1) := by decide +kernel
theorem dX12_holds_175 : decode cX12_holds 175 = .ok (.iload_n 3, 1) := by decide +kernel
theorem dX12_holds_176 : decode cX12_holds 176 = .ok (.invokevirtual 327, 3) := by decide +kernel
theorem dX12_holds_179 : decode cX12_holds 179 = .ok (.bastore, 1) := by decide +kernel
theorem dX12_holds_180 : decode cX12_holds 180 = .ok (.iinc 4 1, 3) := by decide +kernel
theorem dX12_holds_183 : decode cX12_holds 183 = .ok (.iinc 5 1, 3) := by decide +kernel
theorem dX12_holds_186 : decode cX12_holds 186 = .ok (.goto (-175), 3) := by decide +kernel
theorem dX12_holds_189 : decode cX12_holds 189 = .ok (.iload 4, 2) := by decide +kernel
theorem dX12_holds_191 : decode cX12_holds 191 = .ok (.ifCond .eq 12, 3) := by decide +kernel
theorem dX12_holds_194 : decode cX12_holds 194 = .ok (.aload_n 0, 1) := by decide +kernel
theorem dX12_holds_195 : decode cX12_holds 195 = .ok (.getfield 76, 3) := by decide +kernel
theorem dX12_holds_198 : decode cX12_holds 198 = .ok (.iconst 0, 1) := by decide +kernel
theorem dX12_holds_199 : decode cX12_holds 199 = .ok (.baload, 1) := by decide +kernel
theorem dX12_holds_200 : decode cX12_holds 200 = .ok (.ifCond .eq 7, 3) := by decide +kernel
theorem dX12_holds_203 : decode cX12_holds 203 = .ok (.iconst 1, 1) := by decide +kernel
theorem dX12_holds_204 : decode cX12_holds 204 = .ok (.goto 4, 3) := by decide +kernel
theorem dX12_holds_207 : decode cX12_holds 207 = .ok (.iconst 0, 1) := by decide +kernel
theorem dX12_holds_208 : decode cX12_holds 208 = .ok (.ireturn, 1) := by decide +kernel
theorem dX12_single_0 : decode cX12_single 0 = .ok (.iload_n 1, 1) := by decide +kernel
theorem dX12_single_1 : decode cX12_single 1 = .ok (.iconst 3, 1) := by decide +kernel
theorem dX12_single_2 : decode cX12_single 2 = .ok (.if_icmp .ne 20, 3) := by decide +kernel
theorem dX12_single_5 : decode cX12_single 5 = .ok (.aload_n 0, 1) := by decide +kernel
theorem dX12_single_6 : decode cX12_single 6 = .ok (.getfield 54, 3) := by decide +kernel
theorem dX12_single_9 : decode cX12_single 9 = .ok (.iload_n 3, 1) := by decide +kernel
theorem dX12_single_10 : decode cX12_single 10 = .ok (.iaload, 1) := by decide +kernel
theorem dX12_single_11 : decode cX12_single 11 = .ok (.iload_n 2, 1) := by decide +kernel
theorem dX12_single_12 : decode cX12_single 12 = .ok (.iand, 1) := by decide +kernel
theorem dX12_single_13 : decode cX12_single 13 = .ok (.ifCond .le 7, 3) := by decide +kernel
theorem dX12_single_16 : decode cX12_single 16 = .ok (.iconst 1, 1) := by decide +kernel
theorem dX12_single_17 : decode cX12_single 17 = .ok (.goto 4, 3) := by decide +kernel
theorem dX12_single_20 : decode cX12_single 20 = .ok (.iconst 0, 1) := by decide +kernel
theorem dX12_single_21 : decode cX12_single 21 = .ok (.ireturn, 1) := by decide +kernel
theorem dX12_single_22 : decode cX12_single 22 = .ok (.iload_n 1, 1) := by decide +kernel
theorem dX12_single_23 : decode cX12_single 23 = .ok (.bipush 8, 2) := by decide +kernel
theorem dX12_single_25 : decode cX12_single 25 = .ok (.if_icmp .ne 28, 3) := by decide +kernel
theorem dX12_single_28 : decode cX12_single 28 = .ok (.aload_n 0, 1) := by decide +kernel
theorem dX12_single_29 : decode cX12_single 29 = .ok (.getfield 57, 3) := by decide +kernel
theorem dX12_single_32 : decode cX12_single 32 = .ok (.bipush 8, 2) := by decide +kernel
theorem dX12_single_34 : decode cX12_single 34 = .ok (.iload_n 3, 1) := by decide +kernel
theorem dX12_single_35 : decode cX12_single 35 = .ok (.imul, 1) := by decide +kernel
theorem dX12_single_36 : decode cX12_single 36 = .ok (.iload 4, 2) := by decide +kernel
theorem dX12_single_38 : decode cX12_single 38 = .ok (.iadd, 1) := by decide +kernel
theorem dX12_single_39 : decode cX12_single 39 = .ok (.iaload, 1) := by decide +kernel
theorem dX12_single_40 : decode cX12_single 40 = .ok (.aload_n 0, 1) := by decide +kernel
theorem dX12_single_41 : decode cX12_single 41 = .ok (.getfield 331, 3) := by decide +kernel
theorem dX12_single_44 : decode cX12_single 44 = .ok (.if_icmp .ne 7, 3) := by decide +kernel
theorem dX12_single_47 : decode cX12_single 47 = .ok (.iconst 1, 1) := by decide +kernel
theorem dX12_single_48 : decode cX12_single 48 = .ok (.goto 4, 3) := by decide +kernel
theorem dX12_single_51 : decode cX12_single 51 = .ok (.iconst 0, 1) := by decide +kernel
theorem dX12_single_52 : decode cX12_single 52 = .ok (.ireturn, 1) := by decide +kernel
theorem dX12_single_53 : decode cX12_single 53 = .ok (.iload_n 1, 1) := by decide +kernel
theorem dX12_single_54 : decode cX12_single 54 = .ok (.bipush 22, 2) := by decide +kernel
theorem dX12_single_56 : decode cX12_single 56 = .ok (.if_icmp .ne 19, 3) := by decide +kernel
theorem dX12_single_59 : decode cX12_single 59 = .ok (.aload_n 0, 1) := by decide +kernel
theorem dX12_single_60 : decode cX12_single 60 = .ok (.getfield 45, 3) := by decide +kernel
theorem dX12_single_63 : decode cX12_single 63 = .ok (.iload_n 3, 1) := by decide +kernel
theorem dX12_single_64 : decode cX12_single 64 = .ok (.iaload, 1) := by decide +kernel
theorem dX12_single_65 : decode cX12_single 65 = .ok (.iload_n 2, 1) := by decide +kernel
theorem dX12_single_66 : decode cX12_single 66 = .ok (.if_icmp .ne 7, 3) := by decide +kernel
theorem dX12_single_69 : decode cX12_single 69 = .ok (.iconst 1, 1) := by decide +kernel
theorem dX12_single_70 : decode cX12_single 70 = .ok (.goto 4, 3) := by decide +kernel
theorem dX12_single_73 : decode cX12_single 73 = .ok (.iconst 0, 1) := by decide +kernel
theorem dX12_single_74 : decode cX12_single 74 = .ok (.ireturn, 1) := by decide +kernel
theorem dX12_single_75 : decode cX12_single 75 = .ok (.iload_n 1, 1) := by decide +kernel
theorem dX12_single_76 : decode cX12_single 76 = .ok (.bipush 19, 2) := by decide +kernel
theorem dX12_single_78 : decode cX12_single 78 = .ok (.if_icmp .lt 20, 3) := by decide +kernel
theorem dX12_single_81 : decode cX12_single 81 = .ok (.iload_n 1, 1) := by decide +kernel
theorem dX12_single_82 : decode cX12_single 82 = .ok (.bipush 19, 2) := by decide +kernel
theorem dX12_single_84 : decode cX12_single 84 = .ok (.isub, 1) := by decide +kernel
theorem dX12_single_85 : decode cX12_single 85 = .ok (.aload_n 0, 1) := by decide +kernel
theorem dX12_single_86 : decode cX12_single 86 = .ok (.getfield 331, 3) := by decide +kernel
theorem dX12_single_89 : decode cX12_single 89 = .ok (.sipush 365, 3) := by decide +kernel
theorem dX12_single_92 : decode cX12_single 92 = .ok (.irem, 1) := by decide +kernel
theorem dX12_single_93 : decode cX12_single 93 = .ok (.iload_n 2, 1) := by decide +kernel
theorem dX12_single_94 : decode cX12_single 94 = .ok (.invokestatic 334, 3) := by decide +kernel
theorem dX12_single_97 : decode cX12_single 97 = .ok (.ireturn, 1) := by decide +kernel
theorem dX12_single_98 : decode cX12_single 98 = .ok (.iload_n 1, 1) := by decide +kernel
theorem dX12_single_99 : decode cX12_single 99 = .ok (.bipush 16, 2) := by decide +kernel
theorem dX12_single_101 : decode cX12_single 101 = .ok (.if_icmp .lt 14, 3) := by decide +kernel
theorem dX12_single_104 : decode cX12_single 104 = .ok (.iload_n 1, 1) := by decide +kernel
theorem dX12_single_105 : decode cX12_single 105 = .ok (.bipush 16, 2) := by decide +kernel
theorem dX12_single_107 : decode cX12_single 107 = .ok (.isub, 1) := by decide +kernel
theorem dX12_single_108 : decode cX12_single 108 = .ok (.iload 4, 2) := by decide +kernel
theorem dX12_single_110 : decode cX12_single 110 = .ok (.iload_n 2, 1) := by decide +kernel
theorem dX12_single_111 : decode cX12_single 111 = .ok (.invokestatic 334, 3) := by decide +kernel
theorem dX12_single_114 : decode cX12_single 114 = .ok (.ireturn, 1) := by decide +kernel
theorem dX12_single_115 : decode cX12_single 115 = .ok (.iload_n 1, 1) := by decide +kernel
theorem dX12_single_116 : decode cX12_single 116 = .ok (.bipush 13, 2) := by decide +kernel
theorem dX12_single_118 : decode cX12_single 118 = .ok (.if_icmp .lt 20, 3) := by decide +kernel
theorem dX12_single_121 : decode cX12_single 121 = .ok (.iload_n 1, 1) := by decide +kernel
theorem dX12_single_122 : decode cX12_single 122 = .ok (.bipush 13, 2) := by decide +kernel
theorem dX12_single_124 : decode cX12_single 124 = .ok (.isub, 1) := by decide +kernel
theorem dX12_single_125 : decode cX12_single 125 = .ok (.aload_n 0, 1) := by decide +kernel
theorem dX12_single_126 : decode cX12_single 126 = .ok (.getfield 51, 3) := by decide +kernel
theorem dX12_single_129 : decode cX12_single 129 = .ok (.iload_n 3, 1) := by decide +kernel
theorem dX12_single_130 : decode cX12_single 130 = .ok (.iaload, 1) := by decide +kernel
theorem dX12_single_131 : decode cX12_single 131 = .ok (.iload_n 2, 1) := by decide +kernel
theorem dX12_single_132 : decode cX12_single 132 = .ok (.invokestatic 334, 3) := by decide +kernel
theorem dX12_single_135 : decode cX12_single 135 = .ok (.goto 17, 3) := by decide +kernel
theorem dX12_single_138 : decode cX12_single 138 = .ok (.iload_n 1, 1) := by decide +kernel
theorem dX12_single_139 : decode cX12_single 139 = .ok (.bipush 10, 2) := by decide +kernel
theorem dX12_single_141 : decode cX12_single 141 = .ok (.isub, 1) := by decide +kernel
theorem dX12_single_142 : decode cX12_single 142 = .ok (.aload_n 0, 1) := by decide +kernel
theorem dX12_single_143 : decode cX12_single 143 = .ok (.getfield 48, 3) := by decide +kernel
theorem dX12_single_146 : decode cX12_single 146 = .ok (.iload_n 3, 1) := by decide +kernel
theorem dX12_single_147 : decode cX12_single 147 = .ok (.iaload, 1) := by decide +kernel
theorem dX12_single_148 : decode cX12_single 148 = .ok (.iload_n 2, 1) := by decide +kernel
theorem dX12_single_149 : decode cX12_single 149 = .ok (.invokestatic 334, 3) := by decide +kernel
theorem dX12_single_152 : decode cX12_single 152 = .ok (.ireturn, 1) := by decide +kernel
theorem dX12_paidAnywhere_0 : decode cX12_paidAnywhere 0 = .ok (.iconst 0, 1) := by decide +kernel
theorem dX12_paidAnywhere_1 : decode cX12_paidAnywhere 1 = .ok (.istore_n 2, 1) := by decide +kernel
theorem dX12_paidAnywhere_2 : decode cX12_paidAnywhere 2 = .ok (.iconst 0, 1) := by decide +kernel
theorem dX12_paidAnywhere_3 : decode cX12_paidAnywhere 3 = .ok (.istore_n 3, 1) := by decide +kernel
theorem dX12_paidAnywhere_4 : decode cX12_paidAnywhere 4 = .ok (.iload_n 3, 1) := by decide +kernel
theorem dX12_paidAnywhere_5 : decode cX12_paidAnywhere 5 = .ok (.aload_n 0, 1) := by decide +kernel
theorem dX12_paidAnywhere_6 : decode cX12_paidAnywhere 6 = .ok (.getfield 321, 3) := by decide +kernel
theorem dX12_paidAnywhere_9 : decode cX12_paidAnywhere 9 = .ok (.if_icmp .ge 37, 3) := by decide +kernel
theorem dX12_paidAnywhere_12 : decode cX12_paidAnywhere 12 = .ok (.iload_n 2, 1) := by decide +kernel
theorem dX12_paidAnywhere_13 : decode cX12_paidAnywhere 13 = .ok (.ifCond .ne 21, 3) := by decide +kernel
theorem dX12_paidAnywhere_16 : decode cX12_paidAnywhere 16 = .ok (.aload_n 0, 1) := by decide +kernel
theorem dX12_paidAnywhere_17 : decode cX12_paidAnywhere 17 = .ok (.getfield 60, 3) := by decide +kernel
theorem dX12_paidAnywhere_20 : decode cX12_paidAnywhere 20 = .ok (.bipush 8, 2) := by decide +kernel
theorem dX12_paidAnywhere_22 : decode cX12_paidAnywhere 22 = .ok (.iload_n 1, 1) := by decide +kernel
theorem dX12_paidAnywhere_23 : decode cX12_paidAnywhere 23 = .ok (.imul, 1) := by decide +kernel
theorem dX12_paidAnywhere_24 : decode cX12_paidAnywhere 24 = .ok (.iload_n 3, 1) := by decide +kernel
theorem dX12_paidAnywhere_25 : decode cX12_paidAnywhere 25 = .ok (.iadd, 1) := by decide +kernel
theorem dX12_paidAnywhere_26 : decode cX12_paidAnywhere 26 = .ok (.iaload, 1) := by decide +kernel
theorem dX12_paidAnywhere_27 : decode cX12_paidAnywhere 27 = .ok (.aload_n 0, 1) := by decide +kernel
theorem dX12_paidAnywhere_28 : decode cX12_paidAnywhere 28 = .ok (.getfield 331, 3) := by decide +kernel
theorem dX12_paidAnywhere_31 : decode cX12_paidAnywhere 31 = .ok (.if_icmp .ne 7, 3) := by decide +kernel
theorem dX12_paidAnywhere_34 : decode cX12_paidAnywhere 34 = .ok (.iconst 1, 1) := by decide +kernel
theorem dX12_paidAnywhere_35 : decode cX12_paidAnywhere 35 = .ok (.goto 4, 3) := by decide +kernel
theorem dX12_paidAnywhere_38 : decode cX12_paidAnywhere 38 = .ok (.iconst 0, 1) := by decide +kernel
theorem dX12_paidAnywhere_39 : decode cX12_paidAnywhere 39 = .ok (.istore_n 2, 1) := by decide +kernel
theorem dX12_paidAnywhere_40 : decode cX12_paidAnywhere 40 = .ok (.iinc 3 1, 3) := by decide +kernel
theorem dX12_paidAnywhere_43 : decode cX12_paidAnywhere 43 = .ok (.goto (-39), 3) := by decide +kernel
theorem dX12_paidAnywhere_46 : decode cX12_paidAnywhere 46 = .ok (.iload_n 2, 1) := by decide +kernel
theorem dX12_paidAnywhere_47 : decode cX12_paidAnywhere 47 = .ok (.ireturn, 1) := by decide +kernel
theorem dX12_toll_0 : decode cX12_toll 0 = .ok (.aload_n 0, 1) := by decide +kernel
theorem dX12_toll_1 : decode cX12_toll 1 = .ok (.iconst (-1), 1) := by decide +kernel
theorem dX12_toll_2 : decode cX12_toll 2 = .ok (.putfield 338, 3) := by decide +kernel
theorem dX12_toll_5 : decode cX12_toll 5 = .ok (.iload_n 1, 1) := by decide +kernel
theorem dX12_toll_6 : decode cX12_toll 6 = .ok (.ifCond .ge 5, 3) := by decide +kernel
theorem dX12_toll_9 : decode cX12_toll 9 = .ok (.iconst 0, 1) := by decide +kernel
theorem dX12_toll_10 : decode cX12_toll 10 = .ok (.ireturn, 1) := by decide +kernel
theorem dX12_toll_11 : decode cX12_toll 11 = .ok (.iconst 0, 1) := by decide +kernel
theorem dX12_toll_12 : decode cX12_toll 12 = .ok (.istore 4, 2) := by decide +kernel
theorem dX12_toll_14 : decode cX12_toll 14 = .ok (.iconst (-1), 1) := by decide +kernel
theorem dX12_toll_15 : decode cX12_toll 15 = .ok (.istore 5, 2) := by decide +kernel
theorem dX12_toll_17 : decode cX12_toll 17 = .ok (.iconst (-1), 1) := by decide +kernel
theorem dX12_toll_18 : decode cX12_toll 18 = .ok (.istore 6, 2) := by decide +kernel
theorem dX12_toll_20 : decode cX12_toll 20 = .ok (.iconst 0, 1) := by decide +kernel
theorem dX12_toll_21 : decode cX12_toll 21 = .ok (.istore 7, 2) := by decide +kernel
theorem dX12_toll_23 : decode cX12_toll 23 = .ok (.iload 7, 2) := by decide +kernel
theorem dX12_toll_25 : decode cX12_toll 25 = .ok (.aload_n 0, 1) := by decide +kernel
theorem dX12_toll_26 : decode cX12_toll 26 = .ok (.getfield 17, 3) := by decide +kernel
theorem dX12_toll_29 : decode cX12_toll 29 = .ok (.iload_n 1, 1) := by decide +kernel
theorem dX12_toll_30 : decode cX12_toll 30 = .ok (.iaload, 1) := by decide +kernel
theorem dX12_toll_31 : decode cX12_toll 31 = .ok (.if_icmp .ge 150, 3) := by decide +kernel
theorem dX12_toll_34 : decode cX12_toll 34 = .ok (.bipush 40, 2) := by decide +kernel
theorem dX12_toll_36 : decode cX12_toll 36 = .ok (.iload_n 1, 1) := by decide +kernel
theorem dX12_toll_37 : decode cX12_toll 37 = .ok (.imul, 1) := by decide +kernel
theorem dX12_toll_38 : decode cX12_toll 38 = .ok (.iload 7, 2) := by decide +kernel
theorem dX12_toll_40 : decode cX12_toll 40 = .ok (.iadd, 1) := by decide +kernel
theorem dX12_toll_41 : decode cX12_toll 41 = .ok (.istore 8, 2) := by decide +kernel
theorem dX12_toll_43 : decode cX12_toll 43 = .ok (.aload_n 0, 1) := by decide +kernel
theorem dX12_toll_44 : decode cX12_toll 44 = .ok (.iload 8, 2) := by decide +kernel
theorem dX12_toll_46 : decode cX12_toll 46 = .ok (.iload_n 2, 1) := by decide +kernel
theorem dX12_toll_47 : decode cX12_toll 47 = .ok (.iload_n 3, 1) := by decide +kernel
theorem dX12_toll_48 : decode cX12_toll 48 = .ok (.invokevirtual 341, 3) := by decide +kernel
theorem dX12_toll_51 : decode cX12_toll 51 = .ok (.ifCond .ne 6, 3) := by decide +kernel
theorem dX12_toll_54 : decode cX12_toll 54 = .ok (.goto 121, 3) := by decide +kernel
theorem dX12_toll_57 : decode cX12_toll 57 = .ok (.aload_n 0, 1) := by decide +kernel
theorem dX12_toll_58 : decode cX12_toll 58 = .ok (.getfield 24, 3) := by decide +kernel
theorem dX12_toll_61 : decode cX12_toll 61 = .ok (.iload 8, 2) := by decide +kernel
theorem dX12_toll_63 : decode cX12_toll 63 = .ok (.iaload, 1) := by decide +kernel
theorem dX12_toll_64 : decode cX12_toll 64 = .ok (.iconst 4, 1) := by decide +kernel
theorem dX12_toll_65 : decode cX12_toll 65 = .ok (.if_icmp .ne 18, 3) := by decide +kernel
theorem dX12_toll_68 : decode cX12_toll 68 = .ok (.aload_n 0, 1) := by decide +kernel
theorem dX12_toll_69 : decode cX12_toll 69 = .ok (.getfield 80, 3) := by decide +kernel
theorem dX12_toll_72 : decode cX12_toll 72 = .ok (.iload 4, 2) := by decide +kernel
theorem dX12_toll_74 : decode cX12_toll 74 = .ok (.iload 8, 2) := by decide +kernel
theorem dX12_toll_76 : decode cX12_toll 76 = .ok (.iastore, 1) := by decide +kernel
theorem dX12_toll_77 : decode cX12_toll 77 = .ok (.iinc 4 1, 3) := by decide +kernel
theorem dX12_toll_80 : decode cX12_toll 80 = .ok (.goto 95, 3) := by decide +kernel
theorem dX12_toll_83 : decode cX12_toll 83 = .ok (.aload_n 0, 1) := by decide +kernel
theorem dX12_toll_84 : decode cX12_toll 84 = .ok (.getfield 24, 3) := by decide +kernel
theorem dX12_toll_87 : decode cX12_toll 87 = .ok (.iload 8, 2) := by decide +kernel
theorem dX12_toll_89 : decode cX12_toll 89 = .ok (.iaload, 1) := by decide +kernel
theorem dX12_toll_90 : decode cX12_toll 90 = .ok (.iconst 5, 1) := by decide +kernel
theorem dX12_toll_91 : decode cX12_toll 91 = .ok (.if_icmp .ne 20, 3) := by decide +kernel
theorem dX12_toll_94 : decode cX12_toll 94 = .ok (.iload 5, 2) := by decide +kernel
theorem dX12_toll_96 : decode cX12_toll 96 = .ok (.ifCond .ge 8, 3) := by decide +kernel
theorem dX12_toll_99 : decode cX12_toll 99 = .ok (.iload 7, 2) := by decide +kernel
theorem dX12_toll_101 : decode cX12_toll 101 = .ok (.goto 5, 3) := by decide +kernel
theorem dX12_toll_104 : decode cX12_toll 104 = .ok (.iload 5, 2) := by decide +kernel
theorem dX12_toll_106 : decode cX12_toll 106 = .ok (.istore 5, 2) := by decide +kernel
theorem dX12_toll_108 : decode cX12_toll 108 = .ok (.goto 67, 3) := by decide +kernel
theorem dX12_toll_111 : decode cX12_toll 111 = .ok (.aload_n 0, 1) := by decide +kernel
theorem dX12_toll_112 : decode cX12_toll 112 = .ok (.getfield 24, 3) := by decide +kernel
theorem dX12_toll_115 : decode cX12_toll 115 = .ok (.iload 8, 2) := by decide +kernel
theorem dX12_toll_117 : decode cX12_toll 117 = .ok (.iaload, 1) := by decide +kernel
theorem dX12_toll_118 : decode cX12_toll 118 = .ok (.bipush 6, 2) := by decide +kernel
theorem dX12_toll_120 : decode cX12_toll 120 = .ok (.if_icmp .ne 20, 3) := by decide +kernel
theorem dX12_toll_123 : decode cX12_toll 123 = .ok (.iload 6, 2) := by decide +kernel
theorem dX12_toll_125 : decode cX12_toll 125 = .ok (.ifCond .ge 8, 3) := by decide +kernel
theorem dX12_toll_128 : decode cX12_toll 128 = .ok (.iload 7, 2) := by decide +kernel
theorem dX12_toll_130 : decode cX12_toll 130 = .ok (.goto 5, 3) := by decide +kernel
theorem dX12_toll_133 : decode cX12_toll 133 = .ok (.iload 6, 2) := by decide +kernel
theorem dX12_toll_135 : decode cX12_toll 135 = .ok (.istore 6, 2) := by decide +kernel
theorem dX12_toll_137 : decode cX12_toll 137 = .ok (.goto 38, 3) := by decide +kernel
theorem dX12_toll_140 : decode cX12_toll 140 = .ok (.aload_n 0, 1) := by decide +kernel
theorem dX12_toll_141 : decode cX12_toll 141 = .ok (.iload 7, 2) := by decide +kernel
theorem dX12_toll_143 : decode cX12_toll 143 = .ok (.putfield 338, 3) := by decide +kernel
theorem dX12_toll_146 : decode cX12_toll 146 = .ok (.aload_n 0, 1) := by decide +kernel
theorem dX12_toll_147 : decode cX12_toll 147 = .ok (.getfield 24, 3) := by decide +kernel
theorem dX12_toll_150 : decode cX12_toll 150 = .ok (.iload 8, 2) := by decide +kernel
theorem dX12_toll_152 : decode cX12_toll 152 = .ok (.iaload, 1) := by decide +kernel
theorem dX12_toll_153 : decode cX12_toll 153 = .ok (.ifCond .ne 7, 3) := by decide +kernel
theorem dX12_toll_156 : decode cX12_toll 156 = .ok (.iconst 0, 1) := by decide +kernel
theorem dX12_toll_157 : decode cX12_toll 157 = .ok (.goto 17, 3) := by decide +kernel
theorem dX12_toll_160 : decode cX12_toll 160 = .ok (.aload_n 0, 1) := by decide +kernel
theorem dX12_toll_161 : decode cX12_toll 161 = .ok (.iload 8, 2) := by decide +kernel
theorem dX12_toll_163 : decode cX12_toll 163 = .ok (.iload_n 2, 1) := by decide +kernel
theorem dX12_toll_164 : decode cX12_toll 164 = .ok (.iload_n 3, 1) := by decide +kernel
theorem dX12_toll_165 : decode cX12_toll 165 = .ok (.iload 4, 2) := by decide +kernel
theorem dX12_toll_167 : decode cX12_toll 167 = .ok (.iload 5, 2) := by decide +kernel
theorem dX12_toll_169 : decode cX12_toll 169 = .ok (.iload 6, 2) := by decide +kernel
theorem dX12_toll_171 : decode cX12_toll 171 = .ok (.invokevirtual 344, 3) := by decide +kernel
theorem dX12_toll_174 : decode cX12_toll 174 = .ok (.ireturn, 1) := by decide +kernel
theorem dX12_toll_175 : decode cX12_toll 175 = .ok (.iinc 7 1, 3) := by decide +kernel
theorem dX12_toll_178 : decode cX12_toll 178 = .ok (.goto (-155), 3) := by decide +kernel
theorem dX12_toll_181 : decode cX12_toll 181 = .ok (.iconst 0, 1) := by decide +kernel
theorem dX12_toll_182 : decode cX12_toll 182 = .ok (.ireturn, 1) := by decide +kernel
theorem dX12_paid_0 : decode cX12_paid 0 = .ok (.aload_n 0, 1) := by decide +kernel
theorem dX12_paid_1 : decode cX12_paid 1 = .ok (.getfield 27, 3) := by decide +kernel
theorem dX12_paid_4 : decode cX12_paid 4 = .ok (.iload_n 1, 1) := by decide +kernel
theorem dX12_paid_5 : decode cX12_paid 5 = .ok (.iaload, 1) := by decide +kernel
theorem dX12_paid_6 : decode cX12_paid 6 = .ok (.i2l, 1) := by decide +kernel
theorem dX12_paid_7 : decode cX12_paid 7 = .ok (.aload_n 0, 1) := by decide +kernel
theorem dX12_paid_8 : decode cX12_paid 8 = .ok (.getfield 24, 3) := by decide +kernel
theorem dX12_paid_11 : decode cX12_paid 11 = .ok (.iload_n 1, 1) := by decide +kernel
theorem dX12_paid_12 : decode cX12_paid 12 = .ok (.iaload, 1) := by decide +kernel
theorem dX12_paid_13 : decode cX12_paid 13 = .ok (.iconst 1, 1) := by decide +kernel
theorem dX12_paid_14 : decode cX12_paid 14 = .ok (.if_icmp .ne 7, 3) := by decide +kernel
theorem dX12_paid_17 : decode cX12_paid 17 = .ok (.iconst 1, 1) := by decide +kernel
theorem dX12_paid_18 : decode cX12_paid 18 = .ok (.goto 34, 3) := by decide +kernel
theorem dX12_paid_21 : decode cX12_paid 21 = .ok (.aload_n 0, 1) := by decide +kernel
theorem dX12_paid_22 : decode cX12_paid 22 = .ok (.getfield 24, 3) := by decide +kernel
theorem dX12_paid_25 : decode cX12_paid 25 = .ok (.iload_n 1, 1) := by decide +kernel
theorem dX12_paid_26 : decode cX12_paid 26 = .ok (.iaload, 1) := by decide +kernel
theorem dX12_paid_27 : decode cX12_paid 27 = .ok (.iconst 2, 1) := by decide +kernel
theorem dX12_paid_28 : decode cX12_paid 28 = .ok (.if_icmp .ne 12, 3) := by decide +kernel
theorem dX12_paid_31 : decode cX12_paid 31 = .ok (.aload_n 0, 1) := by decide +kernel
theorem dX12_paid_32 : decode cX12_paid 32 = .ok (.getfield 51, 3) := by decide +kernel
theorem dX12_paid_35 : decode cX12_paid 35 = .ok (.iload_n 2, 1) := by decide +kernel
theorem dX12_paid_36 : decode cX12_paid 36 = .ok (.iaload, 1) := by decide +kernel
theorem dX12_paid_37 : decode cX12_paid 37 = .ok (.goto 15, 3) := by decide +kernel
theorem dX12_paid_40 : decode cX12_paid 40 = .ok (.aload_n 0, 1) := by decide +kernel
theorem dX12_paid_41 : decode cX12_paid 41 = .ok (.getfield 51, 3) := by decide +kernel
theorem dX12_paid_44 : decode cX12_paid 44 = .ok (.iload_n 2, 1) := by decide +kernel
theorem dX12_paid_45 : decode cX12_paid 45 = .ok (.iaload, 1) := by decide +kernel
theorem dX12_paid_46 : decode cX12_paid 46 = .ok (.bipush 19, 2) := by decide +kernel
theorem dX12_paid_48 : decode cX12_paid 48 = .ok (.iadd, 1) := by decide +kernel
theorem dX12_paid_49 : decode cX12_paid 49 = .ok (.bipush 20, 2) := by decide +kernel
theorem dX12_paid_51 : decode cX12_paid 51 = .ok (.idiv, 1) := by decide +kernel
theorem dX12_paid_52 : decode cX12_paid 52 = .ok (.i2l, 1) := by decide +kernel
theorem dX12_paid_53 : decode cX12_paid 53 = .ok (.lmul, 1) := by decide +kernel
theorem dX12_paid_54 : decode cX12_paid 54 = .ok (.lstore 7, 2) := by decide +kernel
theorem dX12_paid_56 : decode cX12_paid 56 = .ok (.lload 7, 2) := by decide +kernel
theorem dX12_paid_58 : decode cX12_paid 58 = .ok (.ldc2_w 202, 3) := by decide +kernel
theorem dX12_paid_61 : decode cX12_paid 61 = .ok (.lcmp, 1) := by decide +kernel
theorem dX12_paid_62 : decode cX12_paid 62 = .ok (.ifCond .le 9, 3) := by decide +kernel
theorem dX12_paid_65 : decode cX12_paid 65 = .ok (.ldc2_w 202, 3) := by decide +kernel
theorem dX12_paid_68 : decode cX12_paid 68 = .ok (.goto 5, 3) := by decide +kernel
theorem dX12_paid_71 : decode cX12_paid 71 = .ok (.lload 7, 2) := by decide +kernel
theorem dX12_paid_73 : decode cX12_paid 73 = .ok (.lstore 7, 2) := by decide +kernel
theorem dX12_paid_75 : decode cX12_paid 75 = .ok (.iconst 0, 1) := by decide +kernel
theorem dX12_paid_76 : decode cX12_paid 76 = .ok (.istore 9, 2) := by decide +kernel
theorem dX12_paid_78 : decode cX12_paid 78 = .ok (.iload 9, 2) := by decide +kernel
theorem dX12_paid_80 : decode cX12_paid 80 = .ok (.iload 4, 2) := by decide +kernel
theorem dX12_paid_82 : decode cX12_paid 82 = .ok (.if_icmp .ge 60, 3) := by decide +kernel
theorem dX12_paid_85 : decode cX12_paid 85 = .ok (.lload 7, 2) := by decide +kernel
theorem dX12_paid_87 : decode cX12_paid 87 = .ok (.aload_n 0, 1) := by decide +kernel
theorem dX12_paid_88 : decode cX12_paid 88 = .ok (.getfield 27, 3) := by decide +kernel
theorem dX12_paid_91 : decode cX12_paid 91 = .ok (.aload_n 0, 1) := by decide +kernel
theorem dX12_paid_92 : decode cX12_paid 92 = .ok (.getfield 80, 3) := by decide +kernel
theorem dX12_paid_95 : decode cX12_paid 95 = .ok (.iload 9, 2) := by decide +kernel
theorem dX12_paid_97 : decode cX12_paid 97 = .ok (.iaload, 1) := by decide +kernel
theorem dX12_paid_98 : decode cX12_paid 98 = .ok (.iaload, 1) := by decide +kernel
theorem dX12_paid_99 : decode cX12_paid 99 = .ok (.i2l, 1) := by decide +kernel
theorem dX12_paid_100 : decode cX12_paid 100 = .ok (.lmul, 1) := by decide +kernel
theorem dX12_paid_101 : decode cX12_paid 101 = .ok (.aload_n 0, 1) := by decide +kernel
theorem dX12_paid_102 : decode cX12_paid 102 = .ok (.getfield 30, 3) := by decide +kernel
theorem dX12_paid_105 : decode cX12_paid 105 = .ok (.aload_n 0, 1) := by decide +kernel
theorem dX12_paid_106 : decode cX12_paid 106 = .ok (.getfield 80, 3) := by decide +kernel
theorem dX12_paid_109 : decode cX12_paid 109 = .ok (.iload 9, 2) := by decide +kernel
theorem dX12_paid_111 : decode cX12_paid 111 = .ok (.iaload, 1) := by decide +kernel
theorem dX12_paid_112 : decode cX12_paid 112 = .ok (.iaload, 1) := by decide +kernel
theorem dX12_paid_113 : decode cX12_paid 113 = .ok (.i2l, 1) := by decide +kernel
theorem dX12_paid_114 : decode cX12_paid 114 = .ok (.ldiv, 1) := by decide +kernel
theorem dX12_paid_115 : decode cX12_paid 115 = .ok (.lstore 7, 2) := by decide +kernel
theorem dX12_paid_117 : decode cX12_paid 117 = .ok (.lload 7, 2) := by decide +kernel
theorem dX12_paid_119 : decode cX12_paid 119 = .ok (.ldc2_w 202, 3) := by decide +kernel
theorem dX12_paid_122 : decode cX12_paid 122 = .ok (.lcmp, 1) := by decide +kernel
theorem dX12_paid_123 : decode cX12_paid 123 = .ok (.ifCond .le 9, 3) := by decide +kernel
theorem dX12_paid_126 : decode cX12_paid 126 = .ok (.ldc2_w 202, 3) := by decide +kernel
theorem dX12_paid_129 : decode cX12_paid 129 = .ok (.goto 5, 3) := by decide +kernel
theorem dX12_paid_132 : decode cX12_paid 132 = .ok (.lload 7, 2) := by decide +kernel
theorem dX12_paid_134 : decode cX12_paid 134 = .ok (.lstore 7, 2) := by decide +kernel
theorem dX12_paid_136 : decode cX12_paid 136 = .ok (.iinc 9 1, 3) := by decide +kernel
theorem dX12_paid_139 : decode cX12_paid 139 = .ok (.goto (-61), 3) := by decide +kernel
theorem dX12_paid_142 : decode cX12_paid 142 = .ok (.iload 5, 2) := by decide +kernel
theorem dX12_paid_144 : decode cX12_paid 144 = .ok (.ifCond .lt 25, 3) := by decide +kernel
theorem dX12_paid_147 : decode cX12_paid 147 = .ok (.aload_n 0, 1) := by decide +kernel
theorem dX12_paid_148 : decode cX12_paid 148 = .ok (.getfield 60, 3) := by decide +kernel
theorem dX12_paid_151 : decode cX12_paid 151 = .ok (.bipush 8, 2) := by decide +kernel
theorem dX12_paid_153 : decode cX12_paid 153 = .ok (.iload_n 2, 1) := by decide +kernel
theorem dX12_paid_154 : decode cX12_paid 154 = .ok (.imul, 1) := by decide +kernel
theorem dX12_paid_155 : decode cX12_paid 155 = .ok (.iload_n 3, 1) := by decide +kernel
theorem dX12_paid_156 : decode cX12_paid 156 = .ok (.iadd, 1) := by decide +kernel
theorem dX12_paid_157 : decode cX12_paid 157 = .ok (.iaload, 1) := by decide +kernel
theorem dX12_paid_158 : decode cX12_paid 158 = .ok (.aload_n 0, 1) := by decide +kernel
theorem dX12_paid_159 : decode cX12_paid 159 = .ok (.getfield 331, 3) := by decide +kernel
theorem dX12_paid_162 : decode cX12_paid 162 = .ok (.if_icmp .ne 7, 3) := by decide +kernel
theorem dX12_paid_165 : decode cX12_paid 165 = .ok (.iconst 1, 1) := by decide +kernel
theorem dX12_paid_166 : decode cX12_paid 166 = .ok (.goto 4, 3) := by decide +kernel
theorem dX12_paid_169 : decode cX12_paid 169 = .ok (.iconst 0, 1) := by decide +kernel
theorem dX12_paid_170 : decode cX12_paid 170 = .ok (.istore 9, 2) := by decide +kernel
theorem dX12_paid_172 : decode cX12_paid 172 = .ok (.iload 6, 2) := by decide +kernel
theorem dX12_paid_174 : decode cX12_paid 174 = .ok (.ifCond .lt 15, 3) := by decide +kernel
theorem dX12_paid_177 : decode cX12_paid 177 = .ok (.aload_n 0, 1) := by decide +kernel
theorem dX12_paid_178 : decode cX12_paid 178 = .ok (.iload_n 2, 1) := by decide +kernel
theorem dX12_paid_179 : decode cX12_paid 179 = .ok (.invokevirtual 348, 3) := by decide +kernel
theorem dX12_paid_182 : decode cX12_paid 182 = .ok (.ifCond .eq 7, 3) := by decide +kernel
theorem dX12_paid_185 : decode cX12_paid 185 = .ok (.iconst 1, 1) := by decide +kernel
theorem dX12_paid_186 : decode cX12_paid 186 = .ok (.goto 4, 3) := by decide +kernel
theorem dX12_paid_189 : decode cX12_paid 189 = .ok (.iconst 0, 1) := by decide +kernel
theorem dX12_paid_190 : decode cX12_paid 190 = .ok (.istore 10, 2) := by decide +kernel
theorem dX12_paid_192 : decode cX12_paid 192 = .ok (.iload 9, 2) := by decide +kernel
theorem dX12_paid_194 : decode cX12_paid 194 = .ok (.ifCond .ne 12, 3) := by decide +kernel
theorem dX12_paid_197 : decode cX12_paid 197 = .ok (.iload 10, 2) := by decide +kernel
theorem dX12_paid_199 : decode cX12_paid 199 = .ok (.ifCond .ne 7, 3) := by decide +kernel
theorem dX12_paid_202 : decode cX12_paid 202 = .ok (.lload 7, 2) := by decide +kernel
theorem dX12_paid_204 : decode cX12_paid 204 = .ok (.l2i, 1) := by decide +kernel
theorem dX12_paid_205 : decode cX12_paid 205 = .ok (.ireturn, 1) := by decide +kernel
theorem dX12_paid_206 : decode cX12_paid 206 = .ok (.aload_n 0, 1) := by decide +kernel
theorem dX12_paid_207 : decode cX12_paid 207 = .ok (.iload 9, 2) := by decide +kernel
theorem dX12_paid_209 : decode cX12_paid 209 = .ok (.ifCond .eq 20, 3) := by decide +kernel
theorem dX12_paid_212 : decode cX12_paid 212 = .ok (.iload 10, 2) := by decide +kernel
theorem dX12_paid_214 : decode cX12_paid 214 = .ok (.ifCond .eq 10, 3) := by decide +kernel
theorem dX12_paid_217 : decode cX12_paid 217 = .ok (.iload 5, 2) := by decide +kernel
theorem dX12_paid_219 : decode cX12_paid 219 = .ok (.iload 6, 2) := by decide +kernel
theorem dX12_paid_221 : decode cX12_paid 221 = .ok (.if_icmp .ge 8, 3) := by decide +kernel
theorem dX12_paid_224 : decode cX12_paid 224 = .ok (.iload 5, 2) := by decide +kernel
theorem dX12_paid_226 : decode cX12_paid 226 = .ok (.goto 5, 3) := by decide +kernel
theorem dX12_paid_229 : decode cX12_paid 229 = .ok (.iload 6, 2) := by decide +kernel
theorem dX12_paid_231 : decode cX12_paid 231 = .ok (.putfield 338, 3) := by decide +kernel
theorem dX12_paid_234 : decode cX12_paid 234 = .ok (.iconst 0, 1) := by decide +kernel
theorem dX12_paid_235 : decode cX12_paid 235 = .ok (.ireturn, 1) := by decide +kernel
theorem dX12_isPass_0 : decode cX12_isPass 0 = .ok (.iload_n 1, 1) := by decide +kernel
theorem dX12_isPass_1 : decode cX12_isPass 1 = .ok (.ifCond .lt 27, 3) := by decide +kernel
theorem dX12_isPass_4 : decode cX12_isPass 4 = .ok (.iload_n 1, 1) := by decide +kernel
theorem dX12_isPass_5 : decode cX12_isPass 5 = .ok (.aload_n 0, 1) := by decide +kernel
theorem dX12_isPass_6 : decode cX12_isPass 6 = .ok (.getfield 324, 3) := by decide +kernel
theorem dX12_isPass_9 : decode cX12_isPass 9 = .ok (.if_icmp .ge 19, 3) := by decide +kernel
theorem dX12_isPass_12 : decode cX12_isPass 12 = .ok (.iload_n 2, 1) := by decide +kernel
theorem dX12_isPass_13 : decode cX12_isPass 13 = .ok (.ifCond .lt 15, 3) := by decide +kernel
theorem dX12_isPass_16 : decode cX12_isPass 16 = .ok (.iload_n 2, 1) := by decide +kernel
theorem dX12_isPass_17 : decode cX12_isPass 17 = .ok (.aload_n 0, 1) := by decide +kernel
theorem dX12_isPass_18 : decode cX12_isPass 18 = .ok (.getfield 321, 3) := by decide +kernel
theorem dX12_isPass_21 : decode cX12_isPass 21 = .ok (.if_icmp .ge 7, 3) := by decide +kernel
theorem dX12_isPass_24 : decode cX12_isPass 24 = .ok (.iconst 1, 1) := by decide +kernel
theorem dX12_isPass_25 : decode cX12_isPass 25 = .ok (.goto 4, 3) := by decide +kernel
theorem dX12_isPass_28 : decode cX12_isPass 28 = .ok (.iconst 0, 1) := by decide +kernel
theorem dX12_isPass_29 : decode cX12_isPass 29 = .ok (.ireturn, 1) := by decide +kernel
theorem dX12_pass_0 : decode cX12_pass 0 = .ok (.aload_n 0, 1) := by decide +kernel
theorem dX12_pass_1 : decode cX12_pass 1 = .ok (.iconst 0, 1) := by decide +kernel
theorem dX12_pass_2 : decode cX12_pass 2 = .ok (.putfield 146, 3) := by decide +kernel
theorem dX12_pass_5 : decode cX12_pass 5 = .ok (.aload_n 0, 1) := by decide +kernel
theorem dX12_pass_6 : decode cX12_pass 6 = .ok (.aload_n 0, 1) := by decide +kernel
theorem dX12_pass_7 : decode cX12_pass 7 = .ok (.iload_n 1, 1) := by decide +kernel
theorem dX12_pass_8 : decode cX12_pass 8 = .ok (.iload_n 2, 1) := by decide +kernel
theorem dX12_pass_9 : decode cX12_pass 9 = .ok (.invokevirtual 351, 3) := by decide +kernel
theorem dX12_pass_12 : decode cX12_pass 12 = .ok (.ifCond .ne 7, 3) := by decide +kernel
theorem dX12_pass_15 : decode cX12_pass 15 = .ok (.iconst 1, 1) := by decide +kernel
theorem dX12_pass_16 : decode cX12_pass 16 = .ok (.goto 4, 3) := by decide +kernel
theorem dX12_pass_19 : decode cX12_pass 19 = .ok (.iconst 0, 1) := by decide +kernel
theorem dX12_pass_20 : decode cX12_pass 20 = .ok (.iconst 1, 1) := by decide +kernel
theorem dX12_pass_21 : decode cX12_pass 21 = .ok (.invokevirtual 308, 3) := by decide +kernel
theorem dX12_pass_24 : decode cX12_pass 24 = .ok (.ifCond .eq 5, 3) := by decide +kernel
theorem dX12_pass_27 : decode cX12_pass 27 = .ok (.iconst 0, 1) := by decide +kernel
theorem dX12_pass_28 : decode cX12_pass 28 = .ok (.ireturn, 1) := by decide +kernel
theorem dX12_pass_29 : decode cX12_pass 29 = .ok (.aload_n 0, 1) := by decide +kernel
theorem dX12_pass_30 : decode cX12_pass 30 = .ok (.aload_n 0, 1) := by decide +kernel
theorem dX12_pass_31 : decode cX12_pass 31 = .ok (.aload_n 0, 1) := by decide +kernel
theorem dX12_pass_32 : decode cX12_pass 32 = .ok (.getfield 331, 3) := by decide +kernel
theorem dX12_pass_35 : decode cX12_pass 35 = .ok (.invokevirtual 315, 3) := by decide +kernel
theorem dX12_pass_38 : decode cX12_pass 38 = .ok (.iload_n 1, 1) := by decide +kernel
theorem dX12_pass_39 : decode cX12_pass 39 = .ok (.iload_n 2, 1) := by decide +kernel
theorem dX12_pass_40 : decode cX12_pass 40 = .ok (.invokevirtual 354, 3) := by decide +kernel
theorem dX12_pass_43 : decode cX12_pass 43 = .ok (.istore_n 3, 1) := by decide +kernel
theorem dX12_pass_44 : decode cX12_pass 44 = .ok (.aload_n 0, 1) := by decide +kernel
theorem dX12_pass_45 : decode cX12_pass 45 = .ok (.aload_n 0, 1) := by decide +kernel
theorem dX12_pass_46 : decode cX12_pass 46 = .ok (.getfield 338, 3) := by decide +kernel
theorem dX12_pass_49 : decode cX12_pass 49 = .ok (.putfield 83, 3) := by decide +kernel
theorem dX12_pass_52 : decode cX12_pass 52 = .ok (.aload_n 0, 1) := by decide +kernel
theorem dX12_pass_53 : decode cX12_pass 53 = .ok (.getfield 57, 3) := by decide +kernel
theorem dX12_pass_56 : decode cX12_pass 56 = .ok (.bipush 8, 2) := by decide +kernel
theorem dX12_pass_58 : decode cX12_pass 58 = .ok (.iload_n 1, 1) := by decide +kernel
theorem dX12_pass_59 : decode cX12_pass 59 = .ok (.imul, 1) := by decide +kernel
theorem dX12_pass_60 : decode cX12_pass 60 = .ok (.iload_n 2, 1) := by decide +kernel
theorem dX12_pass_61 : decode cX12_pass 61 = .ok (.iadd, 1) := by decide +kernel
theorem dX12_pass_62 : decode cX12_pass 62 = .ok (.aload_n 0, 1) := by decide +kernel
theorem dX12_pass_63 : decode cX12_pass 63 = .ok (.getfield 331, 3) := by decide +kernel
theorem dX12_pass_66 : decode cX12_pass 66 = .ok (.iastore, 1) := by decide +kernel
theorem dX12_pass_67 : decode cX12_pass 67 = .ok (.iload_n 3, 1) := by decide +kernel
theorem dX12_pass_68 : decode cX12_pass 68 = .ok (.ifCond .le 18, 3) := by decide +kernel
theorem dX12_pass_71 : decode cX12_pass 71 = .ok (.aload_n 0, 1) := by decide +kernel
theorem dX12_pass_72 : decode cX12_pass 72 = .ok (.getfield 60, 3) := by decide +kernel
theorem dX12_pass_75 : decode cX12_pass 75 = .ok (.bipush 8, 2) := by decide +kernel
theorem dX12_pass_77 : decode cX12_pass 77 = .ok (.iload_n 1, 1) := by decide +kernel
theorem dX12_pass_78 : decode cX12_pass 78 = .ok (.imul, 1) := by decide +kernel
theorem dX12_pass_79 : decode cX12_pass 79 = .ok (.iload_n 2, 1) := by decide +kernel
theorem dX12_pass_80 : decode cX12_pass 80 = .ok (.iadd, 1) := by decide +kernel
theorem dX12_pass_81 : decode cX12_pass 81 = .ok (.aload_n 0, 1) := by decide +kernel
theorem dX12_pass_82 : decode cX12_pass 82 = .ok (.getfield 331, 3) := by decide +kernel
theorem dX12_pass_85 : decode cX12_pass 85 = .ok (.iastore, 1) := by decide +kernel
theorem dX12_pass_86 : decode cX12_pass 86 = .ok (.aload_n 0, 1) := by decide +kernel
theorem dX12_pass_87 : decode cX12_pass 87 = .ok (.getfield 73, 3) := by decide +kernel
theorem dX12_pass_90 : decode cX12_pass 90 = .ok (.iload_n 2, 1) := by decide +kernel
theorem dX12_pass_91 : decode cX12_pass 91 = .ok (.dup2, 1) := by decide +kernel
theorem dX12_pass_92 : decode cX12_pass 92 = .ok (.iaload, 1) := by decide +kernel
theorem dX12_pass_93 : decode cX12_pass 93 = .ok (.iconst 1, 1) := by decide +kernel
theorem dX12_pass_94 : decode cX12_pass 94 = .ok (.iadd, 1) := by decide +kernel
theorem dX12_pass_95 : decode cX12_pass 95 = .ok (.iastore, 1) := by decide +kernel
theorem dX12_pass_96 : decode cX12_pass 96 = .ok (.aload_n 0, 1) := by decide +kernel
theorem dX12_pass_97 : decode cX12_pass 97 = .ok (.getfield 45, 3) := by decide +kernel
theorem dX12_pass_100 : decode cX12_pass 100 = .ok (.iload_n 1, 1) := by decide +kernel
theorem dX12_pass_101 : decode cX12_pass 101 = .ok (.iaload, 1) := by decide +kernel
theorem dX12_pass_102 : decode cX12_pass 102 = .ok (.iconst 3, 1) := by decide +kernel
theorem dX12_pass_103 : decode cX12_pass 103 = .ok (.if_icmp .ge 59, 3) := by decide +kernel
theorem dX12_pass_106 : decode cX12_pass 106 = .ok (.aload_n 0, 1) := by decide +kernel
theorem dX12_pass_107 : decode cX12_pass 107 = .ok (.getfield 45, 3) := by decide +kernel
theorem dX12_pass_110 : decode cX12_pass 110 = .ok (.iload_n 1, 1) := by decide +kernel
theorem dX12_pass_111 : decode cX12_pass 111 = .ok (.iaload, 1) := by decide +kernel
theorem dX12_pass_112 : decode cX12_pass 112 = .ok (.ifCond .ne 9, 3) := by decide +kernel
theorem dX12_pass_115 : decode cX12_pass 115 = .ok (.ldc2_w 357, 3) := by decide +kernel
theorem dX12_pass_118 : decode cX12_pass 118 = .ok (.goto 22, 3) := by decide +kernel
theorem dX12_pass_121 : decode cX12_pass 121 = .ok (.aload_n 0, 1) := by decide +kernel
theorem dX12_pass_122 : decode cX12_pass 122 = .ok (.getfield 45, 3) := by decide +kernel
theorem dX12_pass_125 : decode cX12_pass 125 = .ok (.iload_n 1, 1) := by decide +kernel
theorem dX12_pass_126 : decode cX12_pass 126 = .ok (.iaload, 1) := by decide +kernel
theorem dX12_pass_127 : decode cX12_pass 127 = .ok (.iconst 1, 1) := by decide +kernel
theorem dX12_pass_128 : decode cX12_pass 128 = .ok (.if_icmp .ne 9, 3) := by decide +kernel
theorem dX12_pass_131 : decode cX12_pass 131 = .ok (.ldc2_w 359, 3) := by decide +kernel
theorem dX12_pass_134 : decode cX12_pass 134 = .ok (.goto 6, 3) := by decide +kernel
theorem dX12_pass_137 : decode cX12_pass 137 = .ok (.ldc2_w 198, 3) := by decide +kernel
theorem dX12_pass_140 : decode cX12_pass 140 = .ok (.aload_n 0, 1) := by decide +kernel
theorem dX12_pass_141 : decode cX12_pass 141 = .ok (.getfield 48, 3) := by decide +kernel
theorem dX12_pass_144 : decode cX12_pass 144 = .ok (.iload_n 1, 1) := by decide +kernel
theorem dX12_pass_145 : decode cX12_pass 145 = .ok (.iaload, 1) := by decide +kernel
theorem dX12_pass_146 : decode cX12_pass 146 = .ok (.bipush 6, 2) := by decide +kernel
theorem dX12_pass_148 : decode cX12_pass 148 = .ok (.if_icmp .ge 9, 3) := by decide +kernel
theorem dX12_pass_151 : decode cX12_pass 151 = .ok (.ldc2_w 361, 3) := by decide +kernel
theorem dX12_pass_154 : decode cX12_pass 154 = .ok (.goto 4, 3) := by decide +kernel
theorem dX12_pass_157 : decode cX12_pass 157 = .ok (.lconst 1, 1) := by decide +kernel
theorem dX12_pass_158 : decode cX12_pass 158 = .ok (.lmul, 1) := by decide +kernel
theorem dX12_pass_159 : decode cX12_pass 159 = .ok (.goto 60, 3) := by decide +kernel
theorem dX12_pass_162 : decode cX12_pass 162 = .ok (.aload_n 0, 1) := by decide +kernel
theorem dX12_pass_163 : decode cX12_pass 163 = .ok (.getfield 45, 3) := by decide +kernel
theorem dX12_pass_166 : decode cX12_pass 166 = .ok (.iload_n 1, 1) := by decide +kernel
theorem dX12_pass_167 : decode cX12_pass 167 = .ok (.iaload, 1) := by decide +kernel
theorem dX12_pass_168 : decode cX12_pass 168 = .ok (.iconst 3, 1) := by decide +kernel
theorem dX12_pass_169 : decode cX12_pass 169 = .ok (.if_icmp .ne 7, 3) := by decide +kernel
theorem dX12_pass_172 : decode cX12_pass 172 = .ok (.lconst 1, 1) := by decide +kernel
theorem dX12_pass_173 : decode cX12_pass 173 = .ok (.goto 46, 3) := by decide +kernel
theorem dX12_pass_176 : decode cX12_pass 176 = .ok (.aload_n 0, 1) := by decide +kernel
theorem dX12_pass_177 : decode cX12_pass 177 = .ok (.getfield 45, 3) := by decide +kernel
theorem dX12_pass_180 : decode cX12_pass 180 = .ok (.iload_n 1, 1) := by decide +kernel
theorem dX12_pass_181 : decode cX12_pass 181 = .ok (.iaload, 1) := by decide +kernel
theorem dX12_pass_182 : decode cX12_pass 182 = .ok (.iconst 4, 1) := by decide +kernel
theorem dX12_pass_183 : decode cX12_pass 183 = .ok (.if_icmp .ne 13, 3) := by decide +kernel
theorem dX12_pass_186 : decode cX12_pass 186 = .ok (.aload_n 0, 1) := by decide +kernel
theorem dX12_pass_187 : decode cX12_pass 187 = .ok (.getfield 51, 3) := by decide +kernel
theorem dX12_pass_190 : decode cX12_pass 190 = .ok (.iload_n 1, 1) := by decide +kernel
theorem dX12_pass_191 : decode cX12_pass 191 = .ok (.iaload, 1) := by decide +kernel
theorem dX12_pass_192 : decode cX12_pass 192 = .ok (.i2l, 1) := by decide +kernel
theorem dX12_pass_193 : decode cX12_pass 193 = .ok (.goto 26, 3) := by decide +kernel
theorem dX12_pass_196 : decode cX12_pass 196 = .ok (.aload_n 0, 1) := by decide +kernel
theorem dX12_pass_197 : decode cX12_pass 197 = .ok (.getfield 45, 3) := by decide +kernel
theorem dX12_pass_200 : decode cX12_pass 200 = .ok (.iload_n 1, 1) := by decide +kernel
theorem dX12_pass_201 : decode cX12_pass 201 = .ok (.iaload, 1) := by decide +kernel
theorem dX12_pass_202 : decode cX12_pass 202 = .ok (.iconst 5, 1) := by decide +kernel
theorem dX12_pass_203 : decode cX12_pass 203 = .ok (.if_icmp .ne 15, 3) := by decide +kernel
theorem dX12_pass_206 : decode cX12_pass 206 = .ok (.aload_n 0, 1) := by decide +kernel
theorem dX12_pass_207 : decode cX12_pass 207 = .ok (.getfield 51, 3) := by decide +kernel
theorem dX12_pass_210 : decode cX12_pass 210 = .ok (.iload_n 1, 1) := by decide +kernel
theorem dX12_pass_211 : decode cX12_pass 211 = .ok (.iaload, 1) := by decide +kernel
theorem dX12_pass_212 : decode cX12_pass 212 = .ok (.iconst 4, 1) := by decide +kernel
theorem dX12_pass_213 : decode cX12_pass 213 = .ok (.idiv, 1) := by decide +kernel
theorem dX12_pass_214 : decode cX12_pass 214 = .ok (.i2l, 1) := by decide +kernel
theorem dX12_pass_215 : decode cX12_pass 215 = .ok (.goto 4, 3) := by decide +kernel
theorem dX12_pass_218 : decode cX12_pass 218 = .ok (.lconst 0, 1) := by decide +kernel
theorem dX12_pass_219 : decode cX12_pass 219 = .ok (.lstore 4, 2) := by decide +kernel
theorem dX12_pass_221 : decode cX12_pass 221 = .ok (.aload_n 0, 1) := by decide +kernel
theorem dX12_pass_222 : decode cX12_pass 222 = .ok (.getfield 66, 3) := by decide +kernel
theorem dX12_pass_225 : decode cX12_pass 225 = .ok (.aload_n 0, 1) := by decide +kernel
theorem dX12_pass_226 : decode cX12_pass 226 = .ok (.getfield 70, 3) := by decide +kernel
theorem dX12_pass_229 : decode cX12_pass 229 = .ok (.iload_n 2, 1) := by decide +kernel
theorem dX12_pass_230 : decode cX12_pass 230 = .ok (.iaload, 1) := by decide +kernel
theorem dX12_pass_231 : decode cX12_pass 231 = .ok (.dup2, 1) := by decide +kernel
theorem dX12_pass_232 : decode cX12_pass 232 = .ok (.laload, 1) := by decide +kernel
theorem dX12_pass_233 : decode cX12_pass 233 = .ok (.aload_n 0, 1) := by decide +kernel
theorem dX12_pass_234 : decode cX12_pass 234 = .ok (.getfield 363, 3) := by decide +kernel
theorem dX12_pass_237 : decode cX12_pass 237 = .ok (.ifCond .le 12, 3) := by decide +kernel
theorem dX12_pass_240 : decode cX12_pass 240 = .ok (.ldc2_w 361, 3) := by decide +kernel
theorem dX12_pass_243 : decode cX12_pass 243 = .ok (.lload 4, 2) := by decide +kernel
theorem dX12_pass_245 : decode cX12_pass 245 = .ok (.lmul, 1) := by decide +kernel
theorem dX12_pass_246 : decode cX12_pass 246 = .ok (.goto 5, 3) := by decide +kernel
theorem dX12_pass_249 : decode cX12_pass 249 = .ok (.lload 4, 2) := by decide +kernel
theorem dX12_pass_251 : decode cX12_pass 251 = .ok (.ladd, 1) := by decide +kernel
theorem dX12_pass_252 : decode cX12_pass 252 = .ok (.lastore, 1) := by decide +kernel
theorem dX12_pass_253 : decode cX12_pass 253 = .ok (.aload_n 0, 1) := by decide +kernel
theorem dX12_pass_254 : decode cX12_pass 254 = .ok (.getfield 113, 3) := by decide +kernel
theorem dX12_pass_257 : decode cX12_pass 257 = .ok (.iload_n 2, 1) := by decide +kernel
theorem dX12_pass_258 : decode cX12_pass 258 = .ok (.iaload, 1) := by decide +kernel
theorem dX12_pass_259 : decode cX12_pass 259 = .ok (.ifCond .lt 22, 3) := by decide +kernel
theorem dX12_pass_262 : decode cX12_pass 262 = .ok (.aload_n 0, 1) := by decide +kernel
theorem dX12_pass_263 : decode cX12_pass 263 = .ok (.getfield 98, 3) := by decide +kernel
theorem dX12_pass_266 : decode cX12_pass 266 = .ok (.aload_n 0, 1) := by decide +kernel
theorem dX12_pass_267 : decode cX12_pass 267 = .ok (.getfield 113, 3) := by decide +kernel
theorem dX12_pass_270 : decode cX12_pass 270 = .ok (.iload_n 2, 1) := by decide +kernel
theorem dX12_pass_271 : decode cX12_pass 271 = .ok (.iaload, 1) := by decide +kernel
theorem dX12_pass_272 : decode cX12_pass 272 = .ok (.dup2, 1) := by decide +kernel
theorem dX12_pass_273 : decode cX12_pass 273 = .ok (.laload, 1) := by decide +kernel
theorem dX12_pass_274 : decode cX12_pass 274 = .ok (.iload_n 3, 1) := by decide +kernel
theorem dX12_pass_275 : decode cX12_pass 275 = .ok (.i2l, 1) := by decide +kernel
theorem dX12_pass_276 : decode cX12_pass 276 = .ok (.ladd, 1) := by decide +kernel
theorem dX12_pass_277 : decode cX12_pass 277 = .ok (.lastore, 1) := by decide +kernel
theorem dX12_pass_278 : decode cX12_pass 278 = .ok (.goto 15, 3) := by decide +kernel
theorem dX12_pass_281 : decode cX12_pass 281 = .ok (.iload_n 3, 1) := by decide +kernel
theorem dX12_pass_282 : decode cX12_pass 282 = .ok (.ifCond .le 11, 3) := by decide +kernel
theorem dX12_pass_285 : decode cX12_pass 285 = .ok (.aload_n 0, 1) := by decide +kernel
theorem dX12_pass_286 : decode cX12_pass 286 = .ok (.iconst 0, 1) := by decide +kernel
theorem dX12_pass_287 : decode cX12_pass 287 = .ok (.iload_n 1, 1) := by decide +kernel
theorem dX12_pass_288 : decode cX12_pass 288 = .ok (.iload_n 3, 1) := by decide +kernel
theorem dX12_pass_289 : decode cX12_pass 289 = .ok (.i2l, 1) := by decide +kernel
theorem dX12_pass_290 : decode cX12_pass 290 = .ok (.invokevirtual 366, 3) := by decide +kernel
theorem dX12_pass_293 : decode cX12_pass 293 = .ok (.iload_n 3, 1) := by decide +kernel
theorem dX12_pass_294 : decode cX12_pass 294 = .ok (.ireturn, 1) := by decide +kernel
theorem dX12_clause__0 : decode cX12_clause_ 0 = .ok (.aload_n 0, 1) := by decide +kernel
theorem dX12_clause__1 : decode cX12_clause_ 1 = .ok (.iconst 0, 1) := by decide +kernel
theorem dX12_clause__2 : decode cX12_clause_ 2 = .ok (.putfield 146, 3) := by decide +kernel
theorem dX12_clause__5 : decode cX12_clause_ 5 = .ok (.aload_n 0, 1) := by decide +kernel
theorem dX12_clause__6 : decode cX12_clause_ 6 = .ok (.getfield 83, 3) := by decide +kernel
theorem dX12_clause__9 : decode cX12_clause_ 9 = .ok (.ireturn, 1) := by decide +kernel
theorem dX12_asked_0 : decode cX12_asked 0 = .ok (.aload_n 0, 1) := by decide +kernel
theorem dX12_asked_1 : decode cX12_asked 1 = .ok (.iconst 0, 1) := by decide +kernel
theorem dX12_asked_2 : decode cX12_asked 2 = .ok (.putfield 146, 3) := by decide +kernel
theorem dX12_asked_5 : decode cX12_asked 5 = .ok (.aload_n 0, 1) := by decide +kernel
theorem dX12_asked_6 : decode cX12_asked 6 = .ok (.iload_n 1, 1) := by decide +kernel
theorem dX12_asked_7 : decode cX12_asked 7 = .ok (.ifCond .lt 20, 3) := by decide +kernel
theorem dX12_asked_10 : decode cX12_asked 10 = .ok (.iload_n 1, 1) := by decide +kernel
theorem dX12_asked_11 : decode cX12_asked 11 = .ok (.aload_n 0, 1) := by decide +kernel
theorem dX12_asked_12 : decode cX12_asked 12 = .ok (.getfield 289, 3) := by decide +kernel
theorem dX12_asked_15 : decode cX12_asked 15 = .ok (.if_icmp .ge 12, 3) := by decide +kernel
theorem dX12_asked_18 : decode cX12_asked 18 = .ok (.aload_n 0, 1) := by decide +kernel
theorem dX12_asked_19 : decode cX12_asked 19 = .ok (.iload_n 2, 1) := by decide +kernel
theorem dX12_asked_20 : decode cX12_asked 20 = .ok (.iload_n 3, 1) := by decide +kernel
theorem dX12_asked_21 : decode cX12_asked 21 = .ok (.invokevirtual 351, 3) := by decide +kernel
theorem dX12_asked_24 : decode cX12_asked 24 = .ok (.ifCond .ne 7, 3) := by decide +kernel
theorem dX12_asked_27 : decode cX12_asked 27 = .ok (.iconst 1, 1) := by decide +kernel
theorem dX12_asked_28 : decode cX12_asked 28 = .ok (.goto 4, 3) := by decide +kernel
theorem dX12_asked_31 : decode cX12_asked 31 = .ok (.iconst 0, 1) := by decide +kernel
theorem dX12_asked_32 : decode cX12_asked 32 = .ok (.iconst 1, 1) := by decide +kernel
theorem dX12_asked_33 : decode cX12_asked 33 = .ok (.invokevirtual 308, 3) := by decide +kernel
theorem dX12_asked_36 : decode cX12_asked 36 = .ok (.ifCond .eq 5, 3) := by decide +kernel
theorem dX12_asked_39 : decode cX12_asked 39 = .ok (.iconst 0, 1) := by decide +kernel
theorem dX12_asked_40 : decode cX12_asked 40 = .ok (.ireturn, 1) := by decide +kernel
theorem dX12_asked_41 : decode cX12_asked 41 = .ok (.aload_n 0, 1) := by decide +kernel
theorem dX12_asked_42 : decode cX12_asked 42 = .ok (.iload_n 1, 1) := by decide +kernel
theorem dX12_asked_43 : decode cX12_asked 43 = .ok (.iload_n 2, 1) := by decide +kernel
theorem dX12_asked_44 : decode cX12_asked 44 = .ok (.iload_n 3, 1) := by decide +kernel
theorem dX12_asked_45 : decode cX12_asked 45 = .ok (.invokevirtual 354, 3) := by decide +kernel
theorem dX12_asked_48 : decode cX12_asked 48 = .ok (.ireturn, 1) := by decide +kernel
theorem dX12_line_0 : decode cX12_line 0 = .ok (.aload_n 0, 1) := by decide +kernel
theorem dX12_line_1 : decode cX12_line 1 = .ok (.getfield 370, 3) := by decide +kernel
theorem dX12_line_4 : decode cX12_line 4 = .ok (.aload_n 0, 1) := by decide +kernel
theorem dX12_line_5 : decode cX12_line 5 = .ok (.getfield 86, 3) := by decide +kernel
theorem dX12_line_8 : decode cX12_line 8 = .ok (.arraylength, 1) := by decide +kernel
theorem dX12_line_9 : decode cX12_line 9 = .ok (.if_icmp .ne 47, 3) := by decide +kernel
theorem dX12_line_12 : decode cX12_line 12 = .ok (.aload_n 0, 1) := by decide +kernel
theorem dX12_line_13 : decode cX12_line 13 = .ok (.aload_n 0, 1) := by decide +kernel
theorem dX12_line_14 : decode cX12_line 14 = .ok (.getfield 86, 3) := by decide +kernel
theorem dX12_line_17 : decode cX12_line 17 = .ok (.invokestatic 207, 3) := by decide +kernel
theorem dX12_line_20 : decode cX12_line 20 = .ok (.putfield 86, 3) := by decide +kernel
theorem dX12_line_23 : decode cX12_line 23 = .ok (.aload_n 0, 1) := by decide +kernel
theorem dX12_line_24 : decode cX12_line 24 = .ok (.aload_n 0, 1) := by decide +kernel
theorem dX12_line_25 : decode cX12_line 25 = .ok (.getfield 89, 3) := by decide +kernel
theorem dX12_line_28 : decode cX12_line 28 = .ok (.invokestatic 207, 3) := by decide +kernel
theorem dX12_line_31 : decode cX12_line 31 = .ok (.putfield 89, 3) := by decide +kernel
theorem dX12_line_34 : decode cX12_line 34 = .ok (.aload_n 0, 1) := by decide +kernel
theorem dX12_line_35 : decode cX12_line 35 = .ok (.aload_n 0, 1) := by decide +kernel
theorem dX12_line_36 : decode cX12_line 36 = .ok (.getfield 92, 3) := by decide +kernel
theorem dX12_line_39 : decode cX12_line 39 = .ok (.invokestatic 207, 3) := by decide +kernel
theorem dX12_line_42 : decode cX12_line 42 = .ok (.putfield 92, 3) := by decide +kernel
theorem dX12_line_45 : decode cX12_line 45 = .ok (.aload_n 0, 1) := by decide +kernel
theorem dX12_line_46 : decode cX12_line 46 = .ok (.aload_n 0, 1) := by decide +kernel
theorem dX12_line_47 : decode cX12_line 47 = .ok (.getfield 95, 3) := by decide +kernel
theorem dX12_line_50 : decode cX12_line 50 = .ok (.invokestatic 207, 3) := by decide +kernel
theorem dX12_line_53 : decode cX12_line 53 = .ok (.putfield 95, 3) := by decide +kernel
theorem dX12_line_56 : decode cX12_line 56 = .ok (.aload_n 0, 1) := by decide +kernel
theorem dX12_line_57 : decode cX12_line 57 = .ok (.getfield 86, 3) := by decide +kernel
theorem dX12_line_60 : decode cX12_line 60 = .ok (.aload_n 0, 1) := by decide +kernel
theorem dX12_line_61 : decode cX12_line 61 = .ok (.getfield 370, 3) := by decide +kernel
theorem dX12_line_64 : decode cX12_line 64 = .ok (.aload_n 0, 1) := by decide +kernel
theorem dX12_line_65 : decode cX12_line 65 = .ok (.getfield 331, 3) := by decide +kernel
theorem dX12_line_68 : decode cX12_line 68 = .ok (.iastore, 1) := by decide +kernel
theorem dX12_line_69 : decode cX12_line 69 = .ok (.aload_n 0, 1) := by decide +kernel
theorem dX12_line_70 : decode cX12_line 70 = .ok (.getfield 89, 3) := by decide +kernel
theorem dX12_line_73 : decode cX12_line 73 = .ok (.aload_n 0, 1) := by decide +kernel
theorem dX12_line_74 : decode cX12_line 74 = .ok (.getfield 370, 3) := by decide +kernel
theorem dX12_line_77 : decode cX12_line 77 = .ok (.iload_n 1, 1) := by decide +kernel
theorem dX12_line_78 : decode cX12_line 78 = .ok (.iastore, 1) := by decide +kernel
theorem dX12_line_79 : decode cX12_line 79 = .ok (.aload_n 0, 1) := by decide +kernel
theorem dX12_line_80 : decode cX12_line 80 = .ok (.getfield 92, 3) := by decide +kernel
theorem dX12_line_83 : decode cX12_line 83 = .ok (.aload_n 0, 1) := by decide +kernel
theorem dX12_line_84 : decode cX12_line 84 = .ok (.getfield 370, 3) := by decide +kernel
theorem dX12_line_87 : decode cX12_line 87 = .ok (.iload_n 2, 1) := by decide +kernel
theorem dX12_line_88 : decode cX12_line 88 = .ok (.iastore, 1) := by decide +kernel
theorem dX12_line_89 : decode cX12_line 89 = .ok (.aload_n 0, 1) := by decide +kernel
theorem dX12_line_90 : decode cX12_line 90 = .ok (.getfield 95, 3) := by decide +kernel
theorem dX12_line_93 : decode cX12_line 93 = .ok (.aload_n 0, 1) := by decide +kernel
theorem dX12_line_94 : decode cX12_line 94 = .ok (.getfield 370, 3) := by decide +kernel
theorem dX12_line_97 : decode cX12_line 97 = .ok (.lload_n 3, 1) := by decide +kernel
theorem dX12_line_98 : decode cX12_line 98 = .ok (.l2i, 1) := by decide +kernel
theorem dX12_line_99 : decode cX12_line 99 = .ok (.iastore, 1) := by decide +kernel
theorem dX12_line_100 : decode cX12_line 100 = .ok (.aload_n 0, 1) := by decide +kernel
theorem dX12_line_101 : decode cX12_line 101 = .ok (.dup, 1) := by decide +kernel
theorem dX12_line_102 : decode cX12_line 102 = .ok (.getfield 370, 3) := by decide +kernel
theorem dX12_line_105 : decode cX12_line 105 = .ok (.iconst 1, 1) := by decide +kernel
theorem dX12_line_106 : decode cX12_line 106 = .ok (.iadd, 1) := by decide +kernel
theorem dX12_line_107 : decode cX12_line 107 = .ok (.putfield 370, 3) := by decide +kernel
theorem dX12_line_110 : decode cX12_line 110 = .ok (.aload_n 0, 1) := by decide +kernel
theorem dX12_line_111 : decode cX12_line 111 = .ok (.dup, 1) := by decide +kernel
theorem dX12_line_112 : decode cX12_line 112 = .ok (.getfield 373, 3) := by decide +kernel
theorem dX12_line_115 : decode cX12_line 115 = .ok (.lload_n 3, 1) := by decide +kernel
theorem dX12_line_116 : decode cX12_line 116 = .ok (.ladd, 1) := by decide +kernel
theorem dX12_line_117 : decode cX12_line 117 = .ok (.putfield 373, 3) := by decide +kernel
theorem dX12_line_120 : decode cX12_line 120 = .ok (.return_, 1) := by decide +kernel
theorem dX12_farmer_0 : decode cX12_farmer 0 = .ok (.aload_n 0, 1) := by decide +kernel
theorem dX12_farmer_1 : decode cX12_farmer 1 = .ok (.iconst 0, 1) := by decide +kernel
theorem dX12_farmer_2 : decode cX12_farmer 2 = .ok (.putfield 146, 3) := by decide +kernel
theorem dX12_farmer_5 : decode cX12_farmer 5 = .ok (.aload_n 0, 1) := by decide +kernel
theorem dX12_farmer_6 : decode cX12_farmer 6 = .ok (.iload_n 1, 1) := by decide +kernel
theorem dX12_farmer_7 : decode cX12_farmer 7 = .ok (.ifCond .lt 10, 3) := by decide +kernel
theorem dX12_farmer_10 : decode cX12_farmer 10 = .ok (.iload_n 1, 1) := by decide +kernel
theorem dX12_farmer_11 : decode cX12_farmer 11 = .ok (.ldc_w 377, 3) := by decide +kernel
theorem dX12_farmer_14 : decode cX12_farmer 14 = .ok (.if_icmp .le 7, 3) := by decide +kernel
theorem dX12_farmer_17 : decode cX12_farmer 17 = .ok (.iconst 1, 1) := by decide +kernel
theorem dX12_farmer_18 : decode cX12_farmer 18 = .ok (.goto 4, 3) := by decide +kernel
theorem dX12_farmer_21 : decode cX12_farmer 21 = .ok (.iconst 0, 1) := by decide +kernel
theorem dX12_farmer_22 : decode cX12_farmer 22 = .ok (.iconst 1, 1) := by decide +kernel
theorem dX12_farmer_23 : decode cX12_farmer 23 = .ok (.invokevirtual 308, 3) := by decide +kernel
theorem dX12_farmer_26 : decode cX12_farmer 26 = .ok (.ifCond .ne 25, 3) := by decide +kernel
theorem dX12_farmer_29 : decode cX12_farmer 29 = .ok (.aload_n 0, 1) := by decide +kernel
theorem dX12_farmer_30 : decode cX12_farmer 30 = .ok (.aload_n 0, 1) := by decide +kernel
theorem dX12_farmer_31 : decode cX12_farmer 31 = .ok (.getfield 378, 3) := by decide +kernel
theorem dX12_farmer_34 : decode cX12_farmer 34 = .ok (.bipush 8, 2) := by decide +kernel
theorem dX12_farmer_36 : decode cX12_farmer 36 = .ok (.if_icmp .ne 7, 3) := by decide +kernel
theorem dX12_farmer_39 : decode cX12_farmer 39 = .ok (.iconst 1, 1) := by decide +kernel
theorem dX12_farmer_40 : decode cX12_farmer 40 = .ok (.goto 4, 3) := by decide +kernel
theorem dX12_farmer_43 : decode cX12_farmer 43 = .ok (.iconst 0, 1) := by decide +kernel
theorem dX12_farmer_44 : decode cX12_farmer 44 = .ok (.iconst 2, 1) := by decide +kernel
theorem dX12_farmer_45 : decode cX12_farmer 45 = .ok (.invokevirtual 308, 3) := by decide +kernel
theorem dX12_farmer_48 : decode cX12_farmer 48 = .ok (.ifCond .eq 5, 3) := by decide +kernel
theorem dX12_farmer_51 : decode cX12_farmer 51 = .ok (.iconst 0, 1) := by decide +kernel
theorem dX12_farmer_52 : decode cX12_farmer 52 = .ok (.ireturn, 1) := by decide +kernel
theorem dX12_farmer_53 : decode cX12_farmer 53 = .ok (.aload_n 0, 1) := by decide +kernel
theorem dX12_farmer_54 : decode cX12_farmer 54 = .ok (.getfield 98, 3) := by decide +kernel
theorem dX12_farmer_57 : decode cX12_farmer 57 = .ok (.aload_n 0, 1) := by decide +kernel
theorem dX12_farmer_58 : decode cX12_farmer 58 = .ok (.getfield 378, 3) := by decide +kernel
theorem dX12_farmer_61 : decode cX12_farmer 61 = .ok (.iload_n 1, 1) := by decide +kernel
theorem dX12_farmer_62 : decode cX12_farmer 62 = .ok (.i2l, 1) := by decide +kernel
theorem dX12_farmer_63 : decode cX12_farmer 63 = .ok (.lastore, 1) := by decide +kernel
theorem dX12_farmer_64 : decode cX12_farmer 64 = .ok (.aload_n 0, 1) := by decide +kernel
theorem dX12_farmer_65 : decode cX12_farmer 65 = .ok (.dup, 1) := by decide +kernel
theorem dX12_farmer_66 : decode cX12_farmer 66 = .ok (.getfield 378, 3) := by decide +kernel
theorem dX12_farmer_69 : decode cX12_farmer 69 = .ok (.iconst 1, 1) := by decide +kernel
theorem dX12_farmer_70 : decode cX12_farmer 70 = .ok (.iadd, 1) := by decide +kernel
theorem dX12_farmer_71 : decode cX12_farmer 71 = .ok (.putfield 378, 3) := by decide +kernel
theorem dX12_farmer_74 : decode cX12_farmer 74 = .ok (.aload_n 0, 1) := by decide +kernel
theorem dX12_farmer_75 : decode cX12_farmer 75 = .ok (.getfield 378, 3) := by decide +kernel
theorem dX12_farmer_78 : decode cX12_farmer 78 = .ok (.iconst 1, 1) := by decide +kernel
theorem dX12_farmer_79 : decode cX12_farmer 79 = .ok (.isub, 1) := by decide +kernel
theorem dX12_farmer_80 : decode cX12_farmer 80 = .ok (.ireturn, 1) := by decide +kernel
theorem dX12_isSum_0 : decode cX12_isSum 0 = .ok (.iload_n 0, 1) := by decide +kernel
theorem dX12_isSum_1 : decode cX12_isSum 1 = .ok (.iconst 1, 1) := by decide +kernel
theorem dX12_isSum_2 : decode cX12_isSum 2 = .ok (.if_icmp .lt 14, 3) := by decide +kernel
theorem dX12_isSum_5 : decode cX12_isSum 5 = .ok (.iload_n 0, 1) := by decide +kernel
theorem dX12_isSum_6 : decode cX12_isSum 6 = .ok (.ldc_w 381, 3) := by decide +kernel
theorem dX12_isSum_9 : decode cX12_isSum 9 = .ok (.if_icmp .gt 7, 3) := by decide +kernel
theorem dX12_isSum_12 : decode cX12_isSum 12 = .ok (.iconst 1, 1) := by decide +kernel
theorem dX12_isSum_13 : decode cX12_isSum 13 = .ok (.goto 4, 3) := by decide +kernel
theorem dX12_isSum_16 : decode cX12_isSum 16 = .ok (.iconst 0, 1) := by decide +kernel
theorem dX12_isSum_17 : decode cX12_isSum 17 = .ok (.ireturn, 1) := by decide +kernel
theorem dX12_bid_0 : decode cX12_bid 0 = .ok (.aload_n 0, 1) := by decide +kernel
theorem dX12_bid_1 : decode cX12_bid 1 = .ok (.iconst 0, 1) := by decide +kernel
theorem dX12_bid_2 : decode cX12_bid 2 = .ok (.putfield 146, 3) := by decide +kernel
theorem dX12_bid_5 : decode cX12_bid 5 = .ok (.aload_n 0, 1) := by decide +kernel
theorem dX12_bid_6 : decode cX12_bid 6 = .ok (.iload_n 1, 1) := by decide +kernel
theorem dX12_bid_7 : decode cX12_bid 7 = .ok (.ifCond .lt 23, 3) := by decide +kernel
theorem dX12_bid_10 : decode cX12_bid 10 = .ok (.iload_n 1, 1) := by decide +kernel
theorem dX12_bid_11 : decode cX12_bid 11 = .ok (.aload_n 0, 1) := by decide +kernel
theorem dX12_bid_12 : decode cX12_bid 12 = .ok (.getfield 321, 3) := by decide +kernel
theorem dX12_bid_15 : decode cX12_bid 15 = .ok (.if_icmp .ge 15, 3) := by decide +kernel
theorem dX12_bid_18 : decode cX12_bid 18 = .ok (.iload_n 2, 1) := by decide +kernel
theorem dX12_bid_19 : decode cX12_bid 19 = .ok (.ifCond .lt 11, 3) := by decide +kernel
theorem dX12_bid_22 : decode cX12_bid 22 = .ok (.iload_n 2, 1) := by decide +kernel
theorem dX12_bid_23 : decode cX12_bid 23 = .ok (.aload_n 0, 1) := by decide +kernel
theorem dX12_bid_24 : decode cX12_bid 24 = .ok (.getfield 378, 3) := by decide +kernel
theorem dX12_bid_27 : decode cX12_bid 27 = .ok (.if_icmp .lt 7, 3) := by decide +kernel
theorem dX12_bid_30 : decode cX12_bid 30 = .ok (.iconst 1, 1) := by decide +kernel
theorem dX12_bid_31 : decode cX12_bid 31 = .ok (.goto 4, 3) := by decide +kernel
theorem dX12_bid_34 : decode cX12_bid 34 = .ok (.iconst 0, 1) := by decide +kernel
theorem dX12_bid_35 : decode cX12_bid 35 = .ok (.iconst 1, 1) := by decide +kernel
theorem dX12_bid_36 : decode cX12_bid 36 = .ok (.invokevirtual 308, 3) := by decide +kernel
theorem dX12_bid_39 : decode cX12_bid 39 = .ok (.ifCond .ne 64, 3) := by decide +kernel
theorem dX12_bid_42 : decode cX12_bid 42 = .ok (.aload_n 0, 1) := by decide +kernel
theorem dX12_bid_43 : decode cX12_bid 43 = .ok (.iload_n 3, 1) := by decide +kernel
theorem dX12_bid_44 : decode cX12_bid 44 = .ok (.invokestatic 382, 3) := by decide +kernel
theorem dX12_bid_47 : decode cX12_bid 47 = .ok (.ifCond .eq 11, 3) := by decide +kernel
theorem dX12_bid_50 : decode cX12_bid 50 = .ok (.iload 4, 2) := by decide +kernel
theorem dX12_bid_52 : decode cX12_bid 52 = .ok (.invokestatic 382, 3) := by decide +kernel
theorem dX12_bid_55 : decode cX12_bid 55 = .ok (.ifCond .ne 7, 3) := by decide +kernel
theorem dX12_bid_58 : decode cX12_bid 58 = .ok (.iconst 1, 1) := by decide +kernel
theorem dX12_bid_59 : decode cX12_bid 59 = .ok (.goto 4, 3) := by decide +kernel
theorem dX12_bid_62 : decode cX12_bid 62 = .ok (.iconst 0, 1) := by decide +kernel
theorem dX12_bid_63 : decode cX12_bid 63 = .ok (.iconst 2, 1) := by decide +kernel
theorem dX12_bid_64 : decode cX12_bid 64 = .ok (.invokevirtual 308, 3) := by decide +kernel
theorem dX12_bid_67 : decode cX12_bid 67 = .ok (.ifCond .ne 36, 3) := by decide +kernel
theorem dX12_bid_70 : decode cX12_bid 70 = .ok (.aload_n 0, 1) := by decide +kernel
theorem dX12_bid_71 : decode cX12_bid 71 = .ok (.aload_n 0, 1) := by decide +kernel
theorem dX12_bid_72 : decode cX12_bid 72 = .ok (.getfield 113, 3) := by decide +kernel
theorem dX12_bid_75 : decode cX12_bid 75 = .ok (.iload_n 1, 1) := by decide +kernel
theorem dX12_bid_76 : decode cX12_bid 76 = .ok (.iaload, 1) := by decide +kernel
theorem dX12_bid_77 : decode cX12_bid 77 = .ok (.ifCond .ge 14, 3) := by decide +kernel
theorem dX12_bid_80 : decode cX12_bid 80 = .ok (.aload_n 0, 1) := by decide +kernel
theorem dX12_bid_81 : decode cX12_bid 81 = .ok (.getfield 101, 3) := by decide +kernel
theorem dX12_bid_84 : decode cX12_bid 84 = .ok (.iload_n 1, 1) := by decide +kernel
theorem dX12_bid_85 : decode cX12_bid 85 = .ok (.iaload, 1) := by decide +kernel
theorem dX12_bid_86 : decode cX12_bid 86 = .ok (.bipush 10, 2) := by decide +kernel
theorem dX12_bid_88 : decode cX12_bid 88 = .ok (.if_icmp .ne 7, 3) := by decide +kernel
theorem dX12_bid_91 : decode cX12_bid 91 = .ok (.iconst 1, 1) := by decide +kernel
theorem dX12_bid_92 : decode cX12_bid 92 = .ok (.goto 4, 3) := by decide +kernel
theorem dX12_bid_95 : decode cX12_bid 95 = .ok (.iconst 0, 1) := by decide +kernel
theorem dX12_bid_96 : decode cX12_bid 96 = .ok (.iconst 3, 1) := by decide +kernel
theorem dX12_bid_97 : decode cX12_bid 97 = .ok (.invokevirtual 308, 3) := by decide +kernel
theorem dX12_bid_100 : decode cX12_bid 100 = .ok (.ifCond .eq 5, 3) := by decide +kernel
theorem dX12_bid_103 : decode cX12_bid 103 = .ok (.iconst 0, 1) := by decide +kernel
theorem dX12_bid_104 : decode cX12_bid 104 = .ok (.ireturn, 1) := by decide +kernel
theorem dX12_bid_105 : decode cX12_bid 105 = .ok (.bipush 10, 2) := by decide +kernel
theorem dX12_bid_107 : decode cX12_bid 107 = .ok (.iload_n 1, 1) := by decide +kernel
theorem dX12_bid_108 : decode cX12_bid 108 = .ok (.imul, 1) := by decide +kernel
theorem dX12_bid_109 : decode cX12_bid 109 = .ok (.aload_n 0, 1) := by decide +kernel
theorem dX12_bid_110 : decode cX12_bid 110 = .ok (.getfield 101, 3) := by decide +kernel
theorem dX12_bid_113 : decode cX12_bid 113 = .ok (.iload_n 1, 1) := by decide +kernel
theorem dX12_bid_114 : decode cX12_bid 114 = .ok (.iaload, 1) := by decide +kernel
theorem dX12_bid_115 : decode cX12_bid 115 = .ok (.iadd, 1) := by decide +kernel
theorem dX12_bid_116 : decode cX12_bid 116 = .ok (.istore 5, 2) := by decide +kernel
theorem dX12_bid_118 : decode cX12_bid 118 = .ok (.aload_n 0, 1) := by decide +kernel
theorem dX12_bid_119 : decode cX12_bid 119 = .ok (.getfield 104, 3) := by decide +kernel
theorem dX12_bid_122 : decode cX12_bid 122 = .ok (.iload 5, 2) := by decide +kernel
theorem dX12_bid_124 : decode cX12_bid 124 = .ok (.iload_n 2, 1) := by decide +kernel
theorem dX12_bid_125 : decode cX12_bid 125 = .ok (.iastore, 1) := by decide +kernel
theorem dX12_bid_126 : decode cX12_bid 126 = .ok (.aload_n 0, 1) := by decide +kernel
theorem dX12_bid_127 : decode cX12_bid 127 = .ok (.getfield 107, 3) := by decide +kernel
theorem dX12_bid_130 : decode cX12_bid 130 = .ok (.iload 5, 2) := by decide +kernel
theorem dX12_bid_132 : decode cX12_bid 132 = .ok (.iload_n 3, 1) := by decide +kernel
theorem dX12_bid_133 : decode cX12_bid 133 = .ok (.iastore, 1) := by decide +kernel
theorem dX12_bid_134 : decode cX12_bid 134 = .ok (.aload_n 0, 1) := by decide +kernel
theorem dX12_bid_135 : decode cX12_bid 135 = .ok (.getfield 110, 3) := by decide +kernel
theorem dX12_bid_138 : decode cX12_bid 138 = .ok (.iload 5, 2) := by decide +kernel
theorem dX12_bid_140 : decode cX12_bid 140 = .ok (.iload 4, 2) := by decide +kernel
theorem dX12_bid_142 : decode cX12_bid 142 = .ok (.iastore, 1) := by decide +kernel
theorem dX12_bid_143 : decode cX12_bid 143 = .ok (.aload_n 0, 1) := by decide +kernel
theorem dX12_bid_144 : decode cX12_bid 144 = .ok (.getfield 101, 3) := by decide +kernel
theorem dX12_bid_147 : decode cX12_bid 147 = .ok (.iload_n 1, 1) := by decide +kernel
theorem dX12_bid_148 : decode cX12_bid 148 = .ok (.dup2, 1) := by decide +kernel
theorem dX12_bid_149 : decode cX12_bid 149 = .ok (.iaload, 1) := by decide +kernel
theorem dX12_bid_150 : decode cX12_bid 150 = .ok (.iconst 1, 1) := by decide +kernel
theorem dX12_bid_151 : decode cX12_bid 151 = .ok (.iadd, 1) := by decide +kernel
theorem dX12_bid_152 : decode cX12_bid 152 = .ok (.iastore, 1) := by decide +kernel
theorem dX12_bid_153 : decode cX12_bid 153 = .ok (.aload_n 0, 1) := by decide +kernel
theorem dX12_bid_154 : decode cX12_bid 154 = .ok (.getfield 101, 3) := by decide +kernel
theorem dX12_bid_157 : decode cX12_bid 157 = .ok (.iload_n 1, 1) := by decide +kernel
theorem dX12_bid_158 : decode cX12_bid 158 = .ok (.iaload, 1) := by decide +kernel
theorem dX12_bid_159 : decode cX12_bid 159 = .ok (.ireturn, 1) := by decide +kernel
theorem dX12_let_0 : decode cX12_let 0 = .ok (.aload_n 0, 1) := by decide +kernel
theorem dX12_let_1 : decode cX12_let 1 = .ok (.iconst 0, 1) := by decide +kernel
theorem dX12_let_2 : decode cX12_let 2 = .ok (.putfield 146, 3) := by decide +kernel
theorem dX12_let_5 : decode cX12_let 5 = .ok (.aload_n 0, 1) := by decide +kernel
theorem dX12_let_6 : decode cX12_let 6 = .ok (.iload_n 1, 1) := by decide +kernel
theorem dX12_let_7 : decode cX12_let 7 = .ok (.ifCond .lt 11, 3) := by decide +kernel
theorem dX12_let_10 : decode cX12_let 10 = .ok (.iload_n 1, 1) := by decide +kernel
theorem dX12_let_11 : decode cX12_let 11 = .ok (.aload_n 0, 1) := by decide +kernel
theorem dX12_let_12 : decode cX12_let 12 = .ok (.getfield 321, 3) := by decide +kernel
theorem dX12_let_15 : decode cX12_let 15 = .ok (.if_icmp .lt 7, 3) := by decide +kernel
theorem dX12_let_18 : decode cX12_let 18 = .ok (.iconst 1, 1) := by decide +kernel
theorem dX12_let_19 : decode cX12_let 19 = .ok (.goto 4, 3) := by decide +kernel
theorem dX12_let_22 : decode cX12_let 22 = .ok (.iconst 0, 1) := by decide +kernel
theorem dX12_let_23 : decode cX12_let 23 = .ok (.iconst 1, 1) := by decide +kernel
theorem dX12_let_24 : decode cX12_let 24 = .ok (.invokevirtual 308, 3) := by decide +kernel
theorem dX12_let_27 : decode cX12_let 27 = .ok (.ifCond .ne 49, 3) := by decide +kernel
theorem dX12_let_30 : decode cX12_let 30 = .ok (.aload_n 0, 1) := by decide +kernel
theorem dX12_let_31 : decode cX12_let 31 = .ok (.iload_n 2, 1) := by decide +kernel
theorem dX12_let_32 : decode cX12_let 32 = .ok (.iconst 1, 1) := by decide +kernel
theorem dX12_let_33 : decode cX12_let 33 = .ok (.if_icmp .lt 9, 3) := by decide +kernel
theorem dX12_let_36 : decode cX12_let 36 = .ok (.iload_n 2, 1) := by decide +kernel
theorem dX12_let_37 : decode cX12_let 37 = .ok (.bipush 40, 2) := by decide +kernel
theorem dX12_let_39 : decode cX12_let 39 = .ok (.if_icmp .le 7, 3) := by decide +kernel
theorem dX12_let_42 : decode cX12_let 42 = .ok (.iconst 1, 1) := by decide +kernel
theorem dX12_let_43 : decode cX12_let 43 = .ok (.goto 4, 3) := by decide +kernel
theorem dX12_let_46 : decode cX12_let 46 = .ok (.iconst 0, 1) := by decide +kernel
theorem dX12_let_47 : decode cX12_let 47 = .ok (.iconst 2, 1) := by decide +kernel
theorem dX12_let_48 : decode cX12_let 48 = .ok (.invokevirtual 308, 3) := by decide +kernel
theorem dX12_let_51 : decode cX12_let 51 = .ok (.ifCond .ne 25, 3) := by decide +kernel
theorem dX12_let_54 : decode cX12_let 54 = .ok (.aload_n 0, 1) := by decide +kernel
theorem dX12_let_55 : decode cX12_let 55 = .ok (.aload_n 0, 1) := by decide +kernel
theorem dX12_let_56 : decode cX12_let 56 = .ok (.getfield 113, 3) := by decide +kernel
theorem dX12_let_59 : decode cX12_let 59 = .ok (.iload_n 1, 1) := by decide +kernel
theorem dX12_let_60 : decode cX12_let 60 = .ok (.iaload, 1) := by decide +kernel
theorem dX12_let_61 : decode cX12_let 61 = .ok (.ifCond .lt 7, 3) := by decide +kernel
theorem dX12_let_64 : decode cX12_let 64 = .ok (.iconst 1, 1) := by decide +kernel
theorem dX12_let_65 : decode cX12_let 65 = .ok (.goto 4, 3) := by decide +kernel
theorem dX12_let_68 : decode cX12_let 68 = .ok (.iconst 0, 1) := by decide +kernel
theorem dX12_let_69 : decode cX12_let 69 = .ok (.iconst 3, 1) := by decide +kernel
theorem dX12_let_70 : decode cX12_let 70 = .ok (.invokevirtual 308, 3) := by decide +kernel
theorem dX12_let_73 : decode cX12_let 73 = .ok (.ifCond .eq 5, 3) := by decide +kernel
theorem dX12_let_76 : decode cX12_let 76 = .ok (.iconst 0, 1) := by decide +kernel
theorem dX12_let_77 : decode cX12_let 77 = .ok (.ireturn, 1) := by decide +kernel
theorem dX12_let_78 : decode cX12_let 78 = .ok (.iconst (-1), 1) := by decide +kernel
theorem dX12_let_79 : decode cX12_let 79 = .ok (.istore_n 3, 1) := by decide +kernel
theorem dX12_let_80 : decode cX12_let 80 = .ok (.bipush 10, 2) := by decide +kernel
theorem dX12_let_82 : decode cX12_let 82 = .ok (.iload_n 1, 1) := by decide +kernel
theorem dX12_let_83 : decode cX12_let 83 = .ok (.imul, 1) := by decide +kernel
theorem dX12_let_84 : decode cX12_let 84 = .ok (.istore 4, 2) := by decide +kernel
theorem dX12_let_86 : decode cX12_let 86 = .ok (.iload 4, 2) := by decide +kernel
theorem dX12_let_88 : decode cX12_let 88 = .ok (.bipush 10, 2) := by decide +kernel
theorem dX12_let_90 : decode cX12_let 90 = .ok (.iload_n 1, 1) := by decide +kernel
theorem dX12_let_91 : decode cX12_let 91 = .ok (.imul, 1) := by decide +kernel
theorem dX12_let_92 : decode cX12_let 92 = .ok (.aload_n 0, 1) := by decide +kernel
theorem dX12_let_93 : decode cX12_let 93 = .ok (.getfield 101, 3) := by decide +kernel
theorem dX12_let_96 : decode cX12_let 96 = .ok (.iload_n 1, 1) := by decide +kernel
theorem dX12_let_97 : decode cX12_let 97 = .ok (.iaload, 1) := by decide +kernel
theorem dX12_let_98 : decode cX12_let 98 = .ok (.iadd, 1) := by decide +kernel
theorem dX12_let_99 : decode cX12_let 99 = .ok (.if_icmp .ge 94, 3) := by decide +kernel
theorem dX12_let_102 : decode cX12_let 102 = .ok (.aload_n 0, 1) := by decide +kernel
theorem dX12_let_103 : decode cX12_let 103 = .ok (.getfield 110, 3) := by decide +kernel
theorem dX12_let_106 : decode cX12_let 106 = .ok (.iload 4, 2) := by decide +kernel
theorem dX12_let_108 : decode cX12_let 108 = .ok (.iaload, 1) := by decide +kernel
theorem dX12_let_109 : decode cX12_let 109 = .ok (.aload_n 0, 1) := by decide +kernel
theorem dX12_let_110 : decode cX12_let 110 = .ok (.getfield 107, 3) := by decide +kernel
theorem dX12_let_113 : decode cX12_let 113 = .ok (.iload 4, 2) := by decide +kernel
theorem dX12_let_115 : decode cX12_let 115 = .ok (.iaload, 1) := by decide +kernel
theorem dX12_let_116 : decode cX12_let 116 = .ok (.if_icmp .lt 40, 3) := by decide +kernel
theorem dX12_let_119 : decode cX12_let 119 = .ok (.aload_n 0, 1) := by decide +kernel
theorem dX12_let_120 : decode cX12_let 120 = .ok (.getfield 98, 3) := by decide +kernel
theorem dX12_let_123 : decode cX12_let 123 = .ok (.aload_n 0, 1) := by decide +kernel
theorem dX12_let_124 : decode cX12_let 124 = .ok (.getfield 104, 3) := by decide +kernel
theorem dX12_let_127 : decode cX12_let 127 = .ok (.iload 4, 2) := by decide +kernel
theorem dX12_let_129 : decode cX12_let 129 = .ok (.iaload, 1) := by decide +kernel
theorem dX12_let_130 : decode cX12_let 130 = .ok (.laload, 1) := by decide +kernel
theorem dX12_let_131 : decode cX12_let 131 = .ok (.aload_n 0, 1) := by decide +kernel
theorem dX12_let_132 : decode cX12_let 132 = .ok (.getfield 107, 3) := by decide +kernel
theorem dX12_let_135 : decode cX12_let 135 = .ok (.iload 4, 2) := by decide +kernel
theorem dX12_let_137 : decode cX12_let 137 = .ok (.iaload, 1) := by decide +kernel
theorem dX12_let_138 : decode cX12_let 138 = .ok (.i2l, 1) := by decide +kernel
theorem dX12_let_139 : decode cX12_let 139 = .ok (.aload_n 0, 1) := by decide +kernel
theorem dX12_let_140 : decode cX12_let 140 = .ok (.getfield 110, 3) := by decide +kernel
theorem dX12_let_143 : decode cX12_let 143 = .ok (.iload 4, 2) := by decide +kernel
theorem dX12_let_145 : decode cX12_let 145 = .ok (.iaload, 1) := by decide +kernel
theorem dX12_let_146 : decode cX12_let 146 = .ok (.i2l, 1) := by decide +kernel
theorem dX12_let_147 : decode cX12_let 147 = .ok (.ladd, 1) := by decide +kernel
theorem dX12_let_148 : decode cX12_let 148 = .ok (.lcmp, 1) := by decide +kernel
theorem dX12_let_149 : decode cX12_let 149 = .ok (.ifCond .lt 7, 3) := by decide +kernel
theorem dX12_let_152 : decode cX12_let 152 = .ok (.iconst 1, 1) := by decide +kernel
theorem dX12_let_153 : decode cX12_let 153 = .ok (.goto 4, 3) := by decide +kernel
theorem dX12_let_156 : decode cX12_let 156 = .ok (.iconst 0, 1) := by decide +kernel
theorem dX12_let_157 : decode cX12_let 157 = .ok (.istore 5, 2) := by decide +kernel
theorem dX12_let_159 : decode cX12_let 159 = .ok (.iload 5, 2) := by decide +kernel
theorem dX12_let_161 : decode cX12_let 161 = .ok (.ifCond .eq 26, 3) := by decide +kernel
theorem dX12_let_164 : decode cX12_let 164 = .ok (.iload_n 3, 1) := by decide +kernel
theorem dX12_let_165 : decode cX12_let 165 = .ok (.ifCond .lt 19, 3) := by decide +kernel
theorem dX12_let_168 : decode cX12_let 168 = .ok (.aload_n 0, 1) := by decide +kernel
theorem dX12_let_169 : decode cX12_let 169 = .ok (.getfield 107, 3) := by decide +kernel
theorem dX12_let_172 : decode cX12_let 172 = .ok (.iload 4, 2) := by decide +kernel
theorem dX12_let_174 : decode cX12_let 174 = .ok (.iaload, 1) := by decide +kernel
theorem dX12_let_175 : decode cX12_let 175 = .ok (.aload_n 0, 1) := by decide +kernel
theorem dX12_let_176 : decode cX12_let 176 = .ok (.getfield 107, 3) := by decide +kernel
theorem dX12_let_179 : decode cX12_let 179 = .ok (.iload_n 3, 1) := by decide +kernel
theorem dX12_let_180 : decode cX12_let 180 = .ok (.iaload, 1) := by decide +kernel
theorem dX12_let_181 : decode cX12_let 181 = .ok (.if_icmp .le 6, 3) := by decide +kernel
theorem dX12_let_184 : decode cX12_let 184 = .ok (.iload 4, 2) := by decide +kernel
theorem dX12_let_186 : decode cX12_let 186 = .ok (.istore_n 3, 1) := by decide +kernel
theorem dX12_let_187 : decode cX12_let 187 = .ok (.iinc 4 1, 3) := by decide +kernel
theorem dX12_let_190 : decode cX12_let 190 = .ok (.goto (-104), 3) := by decide +kernel
theorem dX12_let_193 : decode cX12_let 193 = .ok (.iload_n 3, 1) := by decide +kernel
theorem dX12_let_194 : decode cX12_let 194 = .ok (.ifCond .ge 5, 3) := by decide +kernel
theorem dX12_let_197 : decode cX12_let 197 = .ok (.iconst (-1), 1) := by decide +kernel
theorem dX12_let_198 : decode cX12_let 198 = .ok (.ireturn, 1) := by decide +kernel
theorem dX12_let_199 : decode cX12_let 199 = .ok (.aload_n 0, 1) := by decide +kernel
theorem dX12_let_200 : decode cX12_let 200 = .ok (.getfield 104, 3) := by decide +kernel
theorem dX12_let_203 : decode cX12_let 203 = .ok (.iload_n 3, 1) := by decide +kernel
theorem dX12_let_204 : decode cX12_let 204 = .ok (.iaload, 1) := by decide +kernel
theorem dX12_let_205 : decode cX12_let 205 = .ok (.istore 4, 2) := by decide +kernel
theorem dX12_let_207 : decode cX12_let 207 = .ok (.aload_n 0, 1) := by decide +kernel
theorem dX12_let_208 : decode cX12_let 208 = .ok (.getfield 101, 3) := by decide +kernel
theorem dX12_let_211 : decode cX12_let 211 = .ok (.iload_n 1, 1) := by decide +kernel
theorem dX12_let_212 : decode cX12_let 212 = .ok (.iconst 0, 1) := by decide +kernel
theorem dX12_let_213 : decode cX12_let 213 = .ok (.iastore, 1) := by decide +kernel
theorem dX12_let_214 : decode cX12_let 214 = .ok (.aload_n 0, 1) := by decide +kernel
theorem dX12_let_215 : decode cX12_let 215 = .ok (.getfield 113, 3) := by decide +kernel
theorem dX12_let_218 : decode cX12_let 218 = .ok (.iload_n 1, 1) := by decide +kernel
theorem dX12_let_219 : decode cX12_let 219 = .ok (.iload 4, 2) := by decide +kernel
theorem dX12_let_221 : decode cX12_let 221 = .ok (.iastore, 1) := by decide +kernel
theorem dX12_let_222 : decode cX12_let 222 = .ok (.aload_n 0, 1) := by decide +kernel
theorem dX12_let_223 : decode cX12_let 223 = .ok (.getfield 116, 3) := by decide +kernel
theorem dX12_let_226 : decode cX12_let 226 = .ok (.iload_n 1, 1) := by decide +kernel
theorem dX12_let_227 : decode cX12_let 227 = .ok (.aload_n 0, 1) := by decide +kernel
theorem dX12_let_228 : decode cX12_let 228 = .ok (.getfield 107, 3) := by decide +kernel
theorem dX12_let_231 : decode cX12_let 231 = .ok (.iload_n 3, 1) := by decide +kernel
theorem dX12_let_232 : decode cX12_let 232 = .ok (.iaload, 1) := by decide +kernel
theorem dX12_let_233 : decode cX12_let 233 = .ok (.iastore, 1) := by decide +kernel
theorem dX12_let_234 : decode cX12_let 234 = .ok (.aload_n 0, 1) := by decide +kernel
theorem dX12_let_235 : decode cX12_let 235 = .ok (.getfield 119, 3) := by decide +kernel
theorem dX12_let_238 : decode cX12_let 238 = .ok (.iload_n 1, 1) := by decide +kernel
theorem dX12_let_239 : decode cX12_let 239 = .ok (.aload_n 0, 1) := by decide +kernel
theorem dX12_let_240 : decode cX12_let 240 = .ok (.getfield 110, 3) := by decide +kernel
theorem dX12_let_243 : decode cX12_let 243 = .ok (.iload_n 3, 1) := by decide +kernel
theorem dX12_let_244 : decode cX12_let 244 = .ok (.iaload, 1) := by decide +kernel
theorem dX12_let_245 : decode cX12_let 245 = .ok (.iastore, 1) := by decide +kernel
theorem dX12_let_246 : decode cX12_let 246 = .ok (.aload_n 0, 1) := by decide +kernel
theorem dX12_let_247 : decode cX12_let 247 = .ok (.getfield 125, 3) := by decide +kernel
theorem dX12_let_250 : decode cX12_let 250 = .ok (.iload_n 1, 1) := by decide +kernel
theorem dX12_let_251 : decode cX12_let 251 = .ok (.iload_n 2, 1) := by decide +kernel
theorem dX12_let_252 : decode cX12_let 252 = .ok (.iastore, 1) := by decide +kernel
theorem dX12_let_253 : decode cX12_let 253 = .ok (.aload_n 0, 1) := by decide +kernel
theorem dX12_let_254 : decode cX12_let 254 = .ok (.getfield 98, 3) := by decide +kernel
theorem dX12_let_257 : decode cX12_let 257 = .ok (.iload 4, 2) := by decide +kernel
theorem dX12_let_259 : decode cX12_let 259 = .ok (.dup2, 1) := by decide +kernel
theorem dX12_let_260 : decode cX12_let 260 = .ok (.laload, 1) := by decide +kernel
theorem dX12_let_261 : decode cX12_let 261 = .ok (.aload_n 0, 1) := by decide +kernel
theorem dX12_let_262 : decode cX12_let 262 = .ok (.getfield 119, 3) := by decide +kernel
theorem dX12_let_265 : decode cX12_let 265 = .ok (.iload_n 1, 1) := by decide +kernel
theorem dX12_let_266 : decode cX12_let 266 = .ok (.iaload, 1) := by decide +kernel
theorem dX12_let_267 : decode cX12_let 267 = .ok (.i2l, 1) := by decide +kernel
theorem dX12_let_268 : decode cX12_let 268 = .ok (.lsub, 1) := by decide +kernel
theorem dX12_let_269 : decode cX12_let 269 = .ok (.lastore, 1) := by decide +kernel
theorem dX12_let_270 : decode cX12_let 270 = .ok (.aload_n 0, 1) := by decide +kernel
theorem dX12_let_271 : decode cX12_let 271 = .ok (.iload_n 1, 1) := by decide +kernel
theorem dX12_let_272 : decode cX12_let 272 = .ok (.invokevirtual 385, 3) := by decide +kernel
theorem dX12_let_275 : decode cX12_let 275 = .ok (.iload 4, 2) := by decide +kernel
theorem dX12_let_277 : decode cX12_let 277 = .ok (.ireturn, 1) := by decide +kernel
theorem dX12_rentDue_0 : decode cX12_rentDue 0 = .ok (.aload_n 0, 1) := by decide +kernel
theorem dX12_rentDue_1 : decode cX12_rentDue 1 = .ok (.getfield 113, 3) := by decide +kernel
theorem dX12_rentDue_4 : decode cX12_rentDue 4 = .ok (.iload_n 1, 1) := by decide +kernel
theorem dX12_rentDue_5 : decode cX12_rentDue 5 = .ok (.iaload, 1) := by decide +kernel
theorem dX12_rentDue_6 : decode cX12_rentDue 6 = .ok (.istore_n 2, 1) := by decide +kernel
theorem dX12_rentDue_7 : decode cX12_rentDue 7 = .ok (.aload_n 0, 1) := by decide +kernel
theorem dX12_rentDue_8 : decode cX12_rentDue 8 = .ok (.getfield 125, 3) := by decide +kernel
theorem dX12_rentDue_11 : decode cX12_rentDue 11 = .ok (.iload_n 1, 1) := by decide +kernel
theorem dX12_rentDue_12 : decode cX12_rentDue 12 = .ok (.iaload, 1) := by decide +kernel
theorem dX12_rentDue_13 : decode cX12_rentDue 13 = .ok (.ifCond .ne 27, 3) := by decide +kernel
theorem dX12_rentDue_16 : decode cX12_rentDue 16 = .ok (.aload_n 0, 1) := by decide +kernel
theorem dX12_rentDue_17 : decode cX12_rentDue 17 = .ok (.getfield 98, 3) := by decide +kernel
theorem dX12_rentDue_20 : decode cX12_rentDue 20 = .ok (.iload_n 2, 1) := by decide +kernel
theorem dX12_rentDue_21 : decode cX12_rentDue 21 = .ok (.dup2, 1) := by decide +kernel
theorem dX12_rentDue_22 : decode cX12_rentDue 22 = .ok (.laload, 1) := by decide +kernel
theorem dX12_rentDue_23 : decode cX12_rentDue 23 = .ok (.aload_n 0, 1) := by decide +kernel
theorem dX12_rentDue_24 : decode cX12_rentDue 24 = .ok (.getfield 119, 3) := by decide +kernel
theorem dX12_rentDue_27 : decode cX12_rentDue 27 = .ok (.iload_n 1, 1) := by decide +kernel
theorem dX12_rentDue_28 : decode cX12_rentDue 28 = .ok (.iaload, 1) := by decide +kernel
theorem dX12_rentDue_29 : decode cX12_rentDue 29 = .ok (.i2l, 1) := by decide +kernel
theorem dX12_rentDue_30 : decode cX12_rentDue 30 = .ok (.ladd, 1) := by decide +kernel
theorem dX12_rentDue_31 : decode cX12_rentDue 31 = .ok (.lastore, 1) := by decide +kernel
theorem dX12_rentDue_32 : decode cX12_rentDue 32 = .ok (.aload_n 0, 1) := by decide +kernel
theorem dX12_rentDue_33 : decode cX12_rentDue 33 = .ok (.getfield 113, 3) := by decide +kernel
theorem dX12_rentDue_36 : decode cX12_rentDue 36 = .ok (.iload_n 1, 1) := by decide +kernel
theorem dX12_rentDue_37 : decode cX12_rentDue 37 = .ok (.iconst (-1), 1) := by decide +kernel
theorem dX12_rentDue_38 : decode cX12_rentDue 38 = .ok (.iastore, 1) := by decide +kernel
theorem dX12_rentDue_39 : decode cX12_rentDue 39 = .ok (.return_, 1) := by decide +kernel
theorem dX12_rentDue_40 : decode cX12_rentDue 40 = .ok (.aload_n 0, 1) := by decide +kernel
theorem dX12_rentDue_41 : decode cX12_rentDue 41 = .ok (.getfield 98, 3) := by decide +kernel
theorem dX12_rentDue_44 : decode cX12_rentDue 44 = .ok (.iload_n 2, 1) := by decide +kernel
theorem dX12_rentDue_45 : decode cX12_rentDue 45 = .ok (.laload, 1) := by decide +kernel
theorem dX12_rentDue_46 : decode cX12_rentDue 46 = .ok (.aload_n 0, 1) := by decide +kernel
theorem dX12_rentDue_47 : decode cX12_rentDue 47 = .ok (.getfield 116, 3) := by decide +kernel
theorem dX12_rentDue_50 : decode cX12_rentDue 50 = .ok (.iload_n 1, 1) := by decide +kernel
theorem dX12_rentDue_51 : decode cX12_rentDue 51 = .ok (.iaload, 1) := by decide +kernel
theorem dX12_rentDue_52 : decode cX12_rentDue 52 = .ok (.i2l, 1) := by decide +kernel
theorem dX12_rentDue_53 : decode cX12_rentDue 53 = .ok (.lcmp, 1) := by decide +kernel
theorem dX12_rentDue_54 : decode cX12_rentDue 54 = .ok (.ifCond .ge 24, 3) := by decide +kernel
theorem dX12_rentDue_57 : decode cX12_rentDue 57 = .ok (.aload_n 0, 1) := by decide +kernel
theorem dX12_rentDue_58 : decode cX12_rentDue 58 = .ok (.iconst 2, 1) := by decide +kernel
theorem dX12_rentDue_59 : decode cX12_rentDue 59 = .ok (.iload_n 1, 1) := by decide +kernel
theorem dX12_rentDue_60 : decode cX12_rentDue 60 = .ok (.aload_n 0, 1) := by decide +kernel
theorem dX12_rentDue_61 : decode cX12_rentDue 61 = .ok (.getfield 119, 3) := by decide +kernel
theorem dX12_rentDue_64 : decode cX12_rentDue 64 = .ok (.iload_n 1, 1) := by decide +kernel
theorem dX12_rentDue_65 : decode cX12_rentDue 65 = .ok (.iaload, 1) := by decide +kernel
theorem dX12_rentDue_66 : decode cX12_rentDue 66 = .ok (.i2l, 1) := by decide +kernel
theorem dX12_rentDue_67 : decode cX12_rentDue 67 = .ok (.invokevirtual 366, 3) := by decide +kernel
theorem dX12_rentDue_70 : decode cX12_rentDue 70 = .ok (.aload_n 0, 1) := by decide +kernel
theorem dX12_rentDue_71 : decode cX12_rentDue 71 = .ok (.getfield 113, 3) := by decide +kernel
theorem dX12_rentDue_74 : decode cX12_rentDue 74 = .ok (.iload_n 1, 1) := by decide +kernel
theorem dX12_rentDue_75 : decode cX12_rentDue 75 = .ok (.iconst (-1), 1) := by decide +kernel
theorem dX12_rentDue_76 : decode cX12_rentDue 76 = .ok (.iastore, 1) := by decide +kernel
theorem dX12_rentDue_77 : decode cX12_rentDue 77 = .ok (.return_, 1) := by decide +kernel
theorem dX12_rentDue_78 : decode cX12_rentDue 78 = .ok (.aload_n 0, 1) := by decide +kernel
theorem dX12_rentDue_79 : decode cX12_rentDue 79 = .ok (.getfield 98, 3) := by decide +kernel
theorem dX12_rentDue_82 : decode cX12_rentDue 82 = .ok (.iload_n 2, 1) := by decide +kernel
theorem dX12_rentDue_83 : decode cX12_rentDue 83 = .ok (.dup2, 1) := by decide +kernel
theorem dX12_rentDue_84 : decode cX12_rentDue 84 = .ok (.laload, 1) := by decide +kernel
theorem dX12_rentDue_85 : decode cX12_rentDue 85 = .ok (.aload_n 0, 1) := by decide +kernel
theorem dX12_rentDue_86 : decode cX12_rentDue 86 = .ok (.getfield 116, 3) := by decide +kernel
theorem dX12_rentDue_89 : decode cX12_rentDue 89 = .ok (.iload_n 1, 1) := by decide +kernel
theorem dX12_rentDue_90 : decode cX12_rentDue 90 = .ok (.iaload, 1) := by decide +kernel
theorem dX12_rentDue_91 : decode cX12_rentDue 91 = .ok (.i2l, 1) := by decide +kernel
theorem dX12_rentDue_92 : decode cX12_rentDue 92 = .ok (.lsub, 1) := by decide +kernel
theorem dX12_rentDue_93 : decode cX12_rentDue 93 = .ok (.lastore, 1) := by decide +kernel
theorem dX12_rentDue_94 : decode cX12_rentDue 94 = .ok (.aload_n 0, 1) := by decide +kernel
theorem dX12_rentDue_95 : decode cX12_rentDue 95 = .ok (.iconst 1, 1) := by decide +kernel
theorem dX12_rentDue_96 : decode cX12_rentDue 96 = .ok (.iload_n 1, 1) := by decide +kernel
theorem dX12_rentDue_97 : decode cX12_rentDue 97 = .ok (.aload_n 0, 1) := by decide +kernel
theorem dX12_rentDue_98 : decode cX12_rentDue 98 = .ok (.getfield 116, 3) := by decide +kernel
theorem dX12_rentDue_101 : decode cX12_rentDue 101 = .ok (.iload_n 1, 1) := by decide +kernel
theorem dX12_rentDue_102 : decode cX12_rentDue 102 = .ok (.iaload, 1) := by decide +kernel
theorem dX12_rentDue_103 : decode cX12_rentDue 103 = .ok (.i2l, 1) := by decide +kernel
theorem dX12_rentDue_104 : decode cX12_rentDue 104 = .ok (.invokevirtual 366, 3) := by decide +kernel
theorem dX12_rentDue_107 : decode cX12_rentDue 107 = .ok (.aload_n 0, 1) := by decide +kernel
theorem dX12_rentDue_108 : decode cX12_rentDue 108 = .ok (.getfield 125, 3) := by decide +kernel
theorem dX12_rentDue_111 : decode cX12_rentDue 111 = .ok (.iload_n 1, 1) := by decide +kernel
theorem dX12_rentDue_112 : decode cX12_rentDue 112 = .ok (.dup2, 1) := by decide +kernel
theorem dX12_rentDue_113 : decode cX12_rentDue 113 = .ok (.iaload, 1) := by decide +kernel
theorem dX12_rentDue_114 : decode cX12_rentDue 114 = .ok (.iconst 1, 1) := by decide +kernel
theorem dX12_rentDue_115 : decode cX12_rentDue 115 = .ok (.isub, 1) := by decide +kernel
theorem dX12_rentDue_116 : decode cX12_rentDue 116 = .ok (.iastore, 1) := by decide +kernel
theorem dX12_rentDue_117 : decode cX12_rentDue 117 = .ok (.aload_n 0, 1) := by decide +kernel
theorem dX12_rentDue_118 : decode cX12_rentDue 118 = .ok (.getfield 122, 3) := by decide +kernel
theorem dX12_rentDue_121 : decode cX12_rentDue 121 = .ok (.iload_n 1, 1) := by decide +kernel
theorem dX12_rentDue_122 : decode cX12_rentDue 122 = .ok (.aload_n 0, 1) := by decide +kernel
theorem dX12_rentDue_123 : decode cX12_rentDue 123 = .ok (.getfield 331, 3) := by decide +kernel
theorem dX12_rentDue_126 : decode cX12_rentDue 126 = .ok (.bipush 91, 2) := by decide +kernel
theorem dX12_rentDue_128 : decode cX12_rentDue 128 = .ok (.iadd, 1) := by decide +kernel
theorem dX12_rentDue_129 : decode cX12_rentDue 129 = .ok (.iastore, 1) := by decide +kernel
theorem dX12_rentDue_130 : decode cX12_rentDue 130 = .ok (.return_, 1) := by decide +kernel
theorem dX12_gateTold_0 : decode cX12_gateTold 0 = .ok (.aload_n 0, 1) := by decide +kernel
theorem dX12_gateTold_1 : decode cX12_gateTold 1 = .ok (.iconst 0, 1) := by decide +kernel
theorem dX12_gateTold_2 : decode cX12_gateTold 2 = .ok (.putfield 146, 3) := by decide +kernel
theorem dX12_gateTold_5 : decode cX12_gateTold 5 = .ok (.aload_n 0, 1) := by decide +kernel
theorem dX12_gateTold_6 : decode cX12_gateTold 6 = .ok (.iload_n 1, 1) := by decide +kernel
theorem dX12_gateTold_7 : decode cX12_gateTold 7 = .ok (.ifCond .lt 11, 3) := by decide +kernel
theorem dX12_gateTold_10 : decode cX12_gateTold 10 = .ok (.iload_n 1, 1) := by decide +kernel
theorem dX12_gateTold_11 : decode cX12_gateTold 11 = .ok (.aload_n 0, 1) := by decide +kernel
theorem dX12_gateTold_12 : decode cX12_gateTold 12 = .ok (.getfield 321, 3) := by decide +kernel
theorem dX12_gateTold_15 : decode cX12_gateTold 15 = .ok (.if_icmp .lt 7, 3) := by decide +kernel
theorem dX12_gateTold_18 : decode cX12_gateTold 18 = .ok (.iconst 1, 1) := by decide +kernel
theorem dX12_gateTold_19 : decode cX12_gateTold 19 = .ok (.goto 4, 3) := by decide +kernel
theorem dX12_gateTold_22 : decode cX12_gateTold 22 = .ok (.iconst 0, 1) := by decide +kernel
theorem dX12_gateTold_23 : decode cX12_gateTold 23 = .ok (.iconst 1, 1) := by decide +kernel
theorem dX12_gateTold_24 : decode cX12_gateTold 24 = .ok (.invokevirtual 308, 3) := by decide +kernel
theorem dX12_gateTold_27 : decode cX12_gateTold 27 = .ok (.ifCond .ne 26, 3) := by decide +kernel
theorem dX12_gateTold_30 : decode cX12_gateTold 30 = .ok (.aload_n 0, 1) := by decide +kernel
theorem dX12_gateTold_31 : decode cX12_gateTold 31 = .ok (.iload_n 2, 1) := by decide +kernel
theorem dX12_gateTold_32 : decode cX12_gateTold 32 = .ok (.ifCond .lt 9, 3) := by decide +kernel
theorem dX12_gateTold_35 : decode cX12_gateTold 35 = .ok (.iload_n 2, 1) := by decide +kernel
theorem dX12_gateTold_36 : decode cX12_gateTold 36 = .ok (.bipush 6, 2) := by decide +kernel
theorem dX12_gateTold_38 : decode cX12_gateTold 38 = .ok (.if_icmp .le 7, 3) := by decide +kernel
theorem dX12_gateTold_41 : decode cX12_gateTold 41 = .ok (.iconst 1, 1) := by decide +kernel
theorem dX12_gateTold_42 : decode cX12_gateTold 42 = .ok (.goto 4, 3) := by decide +kernel
theorem dX12_gateTold_45 : decode cX12_gateTold 45 = .ok (.iconst 0, 1) := by decide +kernel
theorem dX12_gateTold_46 : decode cX12_gateTold 46 = .ok (.iconst 2, 1) := by decide +kernel
theorem dX12_gateTold_47 : decode cX12_gateTold 47 = .ok (.invokevirtual 308, 3) := by decide +kernel
theorem dX12_gateTold_50 : decode cX12_gateTold 50 = .ok (.ifCond .eq 5, 3) := by decide +kernel
theorem dX12_gateTold_53 : decode cX12_gateTold 53 = .ok (.iconst 0, 1) := by decide +kernel
theorem dX12_gateTold_54 : decode cX12_gateTold 54 = .ok (.ireturn, 1) := by decide +kernel
theorem dX12_gateTold_55 : decode cX12_gateTold 55 = .ok (.aload_n 0, 1) := by decide +kernel
theorem dX12_gateTold_56 : decode cX12_gateTold 56 = .ok (.getfield 113, 3) := by decide +kernel
theorem dX12_gateTold_59 : decode cX12_gateTold 59 = .ok (.iload_n 1, 1) := by decide +kernel
theorem dX12_gateTold_60 : decode cX12_gateTold 60 = .ok (.iaload, 1) := by decide +kernel
theorem dX12_gateTold_61 : decode cX12_gateTold 61 = .ok (.ifCond .lt 7, 3) := by decide +kernel
theorem dX12_gateTold_64 : decode cX12_gateTold 64 = .ok (.iconst 1, 1) := by decide +kernel
theorem dX12_gateTold_65 : decode cX12_gateTold 65 = .ok (.goto 4, 3) := by decide +kernel
theorem dX12_gateTold_68 : decode cX12_gateTold 68 = .ok (.iconst 0, 1) := by decide +kernel
theorem dX12_gateTold_69 : decode cX12_gateTold 69 = .ok (.istore_n 3, 1) := by decide +kernel
theorem dX12_gateTold_70 : decode cX12_gateTold 70 = .ok (.iload_n 2, 1) := by decide +kernel
theorem dX12_gateTold_71 : decode cX12_gateTold 71 = .ok (.tableswitch 103 0 5 #[37, 44, 51, 66, 81, 96], 37) := by decide +kernel
theorem dX12_gateTold_108 : decode cX12_gateTold 108 = .ok (.aload_n 0, 1) := by decide +kernel
theorem dX12_gateTold_109 : decode cX12_gateTold 109 = .ok (.getfield 70, 3) := by decide +kernel
theorem dX12_gateTold_112 : decode cX12_gateTold 112 = .ok (.iload_n 1, 1) := by decide +kernel
theorem dX12_gateTold_113 : decode cX12_gateTold 113 = .ok (.iaload, 1) := by decide +kernel
theorem dX12_gateTold_114 : decode cX12_gateTold 114 = .ok (.ireturn, 1) := by decide +kernel
theorem dX12_gateTold_115 : decode cX12_gateTold 115 = .ok (.aload_n 0, 1) := by decide +kernel
theorem dX12_gateTold_116 : decode cX12_gateTold 116 = .ok (.getfield 113, 3) := by decide +kernel
theorem dX12_gateTold_119 : decode cX12_gateTold 119 = .ok (.iload_n 1, 1) := by decide +kernel
theorem dX12_gateTold_120 : decode cX12_gateTold 120 = .ok (.iaload, 1) := by decide +kernel
theorem dX12_gateTold_121 : decode cX12_gateTold 121 = .ok (.ireturn, 1) := by decide +kernel
theorem dX12_gateTold_122 : decode cX12_gateTold 122 = .ok (.iload_n 3, 1) := by decide +kernel
theorem dX12_gateTold_123 : decode cX12_gateTold 123 = .ok (.ifCond .eq 12, 3) := by decide +kernel
theorem dX12_gateTold_126 : decode cX12_gateTold 126 = .ok (.aload_n 0, 1) := by decide +kernel
theorem dX12_gateTold_127 : decode cX12_gateTold 127 = .ok (.getfield 116, 3) := by decide +kernel
theorem dX12_gateTold_130 : decode cX12_gateTold 130 = .ok (.iload_n 1, 1) := by decide +kernel
theorem dX12_gateTold_131 : decode cX12_gateTold 131 = .ok (.iaload, 1) := by decide +kernel
theorem dX12_gateTold_132 : decode cX12_gateTold 132 = .ok (.goto 4, 3) := by decide +kernel
theorem dX12_gateTold_135 : decode cX12_gateTold 135 = .ok (.iconst 0, 1) := by decide +kernel
theorem dX12_gateTold_136 : decode cX12_gateTold 136 = .ok (.ireturn, 1) := by decide +kernel
theorem dX12_gateTold_137 : decode cX12_gateTold 137 = .ok (.iload_n 3, 1) := by decide +kernel
theorem dX12_gateTold_138 : decode cX12_gateTold 138 = .ok (.ifCond .eq 12, 3) := by decide +kernel
theorem dX12_gateTold_141 : decode cX12_gateTold 141 = .ok (.aload_n 0, 1) := by decide +kernel
theorem dX12_gateTold_142 : decode cX12_gateTold 142 = .ok (.getfield 119, 3) := by decide +kernel
theorem dX12_gateTold_145 : decode cX12_gateTold 145 = .ok (.iload_n 1, 1) := by decide +kernel
theorem dX12_gateTold_146 : decode cX12_gateTold 146 = .ok (.iaload, 1) := by decide +kernel
theorem dX12_gateTold_147 : decode cX12_gateTold 147 = .ok (.goto 4, 3) := by decide +kernel
theorem dX12_gateTold_150 : decode cX12_gateTold 150 = .ok (.iconst 0, 1) := by decide +kernel
theorem dX12_gateTold_151 : decode cX12_gateTold 151 = .ok (.ireturn, 1) := by decide +kernel
theorem dX12_gateTold_152 : decode cX12_gateTold 152 = .ok (.iload_n 3, 1) := by decide +kernel
theorem dX12_gateTold_153 : decode cX12_gateTold 153 = .ok (.ifCond .eq 12, 3) := by decide +kernel
theorem dX12_gateTold_156 : decode cX12_gateTold 156 = .ok (.aload_n 0, 1) := by decide +kernel
theorem dX12_gateTold_157 : decode cX12_gateTold 157 = .ok (.getfield 122, 3) := by decide +kernel
theorem dX12_gateTold_160 : decode cX12_gateTold 160 = .ok (.iload_n 1, 1) := by decide +kernel
theorem dX12_gateTold_161 : decode cX12_gateTold 161 = .ok (.iaload, 1) := by decide +kernel
theorem dX12_gateTold_162 : decode cX12_gateTold 162 = .ok (.goto 4, 3) := by decide +kernel
theorem dX12_gateTold_165 : decode cX12_gateTold 165 = .ok (.iconst 0, 1) := by decide +kernel
theorem dX12_gateTold_166 : decode cX12_gateTold 166 = .ok (.ireturn, 1) := by decide +kernel
theorem dX12_gateTold_167 : decode cX12_gateTold 167 = .ok (.aload_n 0, 1) := by decide +kernel
theorem dX12_gateTold_168 : decode cX12_gateTold 168 = .ok (.getfield 101, 3) := by decide +kernel
theorem dX12_gateTold_171 : decode cX12_gateTold 171 = .ok (.iload_n 1, 1) := by decide +kernel
theorem dX12_gateTold_172 : decode cX12_gateTold 172 = .ok (.iaload, 1) := by decide +kernel
theorem dX12_gateTold_173 : decode cX12_gateTold 173 = .ok (.ireturn, 1) := by decide +kernel
theorem dX12_gateTold_174 : decode cX12_gateTold 174 = .ok (.aload_n 0, 1) := by decide +kernel
theorem dX12_gateTold_175 : decode cX12_gateTold 175 = .ok (.getfield 73, 3) := by decide +kernel
theorem dX12_gateTold_178 : decode cX12_gateTold 178 = .ok (.iload_n 1, 1) := by decide +kernel
theorem dX12_gateTold_179 : decode cX12_gateTold 179 = .ok (.iaload, 1) := by decide +kernel
theorem dX12_gateTold_180 : decode cX12_gateTold 180 = .ok (.ireturn, 1) := by decide +kernel
theorem dX12_borrow_0 : decode cX12_borrow 0 = .ok (.aload_n 0, 1) := by decide +kernel
theorem dX12_borrow_1 : decode cX12_borrow 1 = .ok (.iconst 0, 1) := by decide +kernel
theorem dX12_borrow_2 : decode cX12_borrow 2 = .ok (.putfield 146, 3) := by decide +kernel
theorem dX12_borrow_5 : decode cX12_borrow 5 = .ok (.aload_n 0, 1) := by decide +kernel
theorem dX12_borrow_6 : decode cX12_borrow 6 = .ok (.iload_n 1, 1) := by decide +kernel
theorem dX12_borrow_7 : decode cX12_borrow 7 = .ok (.invokestatic 382, 3) := by decide +kernel
theorem dX12_borrow_10 : decode cX12_borrow 10 = .ok (.ifCond .eq 23, 3) := by decide +kernel
theorem dX12_borrow_13 : decode cX12_borrow 13 = .ok (.iload_n 2, 1) := by decide +kernel
theorem dX12_borrow_14 : decode cX12_borrow 14 = .ok (.ifCond .lt 19, 3) := by decide +kernel
theorem dX12_borrow_17 : decode cX12_borrow 17 = .ok (.iload_n 2, 1) := by decide +kernel
theorem dX12_borrow_18 : decode cX12_borrow 18 = .ok (.sipush 500, 3) := by decide +kernel
theorem dX12_borrow_21 : decode cX12_borrow 21 = .ok (.if_icmp .gt 12, 3) := by decide +kernel
theorem dX12_borrow_24 : decode cX12_borrow 24 = .ok (.iload_n 3, 1) := by decide +kernel
theorem dX12_borrow_25 : decode cX12_borrow 25 = .ok (.ifCond .lt 8, 3) := by decide +kernel
theorem dX12_borrow_28 : decode cX12_borrow 28 = .ok (.iload_n 3, 1) := by decide +kernel
theorem dX12_borrow_29 : decode cX12_borrow 29 = .ok (.iconst 3, 1) := by decide +kernel
theorem dX12_borrow_30 : decode cX12_borrow 30 = .ok (.if_icmp .le 7, 3) := by decide +kernel
theorem dX12_borrow_33 : decode cX12_borrow 33 = .ok (.iconst 1, 1) := by decide +kernel
theorem dX12_borrow_34 : decode cX12_borrow 34 = .ok (.goto 4, 3) := by decide +kernel
theorem dX12_borrow_37 : decode cX12_borrow 37 = .ok (.iconst 0, 1) := by decide +kernel
theorem dX12_borrow_38 : decode cX12_borrow 38 = .ok (.iconst 1, 1) := by decide +kernel
theorem dX12_borrow_39 : decode cX12_borrow 39 = .ok (.invokevirtual 308, 3) := by decide +kernel
theorem dX12_borrow_42 : decode cX12_borrow 42 = .ok (.ifCond .ne 25, 3) := by decide +kernel
theorem dX12_borrow_45 : decode cX12_borrow 45 = .ok (.aload_n 0, 1) := by decide +kernel
theorem dX12_borrow_46 : decode cX12_borrow 46 = .ok (.aload_n 0, 1) := by decide +kernel
theorem dX12_borrow_47 : decode cX12_borrow 47 = .ok (.getfield 388, 3) := by decide +kernel
theorem dX12_borrow_50 : decode cX12_borrow 50 = .ok (.bipush 10, 2) := by decide +kernel
theorem dX12_borrow_52 : decode cX12_borrow 52 = .ok (.if_icmp .ne 7, 3) := by decide +kernel
theorem dX12_borrow_55 : decode cX12_borrow 55 = .ok (.iconst 1, 1) := by decide +kernel
theorem dX12_borrow_56 : decode cX12_borrow 56 = .ok (.goto 4, 3) := by decide +kernel
theorem dX12_borrow_59 : decode cX12_borrow 59 = .ok (.iconst 0, 1) := by decide +kernel
theorem dX12_borrow_60 : decode cX12_borrow 60 = .ok (.iconst 2, 1) := by decide +kernel
theorem dX12_borrow_61 : decode cX12_borrow 61 = .ok (.invokevirtual 308, 3) := by decide +kernel
theorem dX12_borrow_64 : decode cX12_borrow 64 = .ok (.ifCond .eq 5, 3) := by decide +kernel
theorem dX12_borrow_67 : decode cX12_borrow 67 = .ok (.iconst 0, 1) := by decide +kernel
theorem dX12_borrow_68 : decode cX12_borrow 68 = .ok (.ireturn, 1) := by decide +kernel
theorem dX12_borrow_69 : decode cX12_borrow 69 = .ok (.aload_n 0, 1) := by decide +kernel
theorem dX12_borrow_70 : decode cX12_borrow 70 = .ok (.getfield 128, 3) := by decide +kernel
theorem dX12_borrow_73 : decode cX12_borrow 73 = .ok (.aload_n 0, 1) := by decide +kernel
theorem dX12_borrow_74 : decode cX12_borrow 74 = .ok (.getfield 388, 3) := by decide +kernel
theorem dX12_borrow_77 : decode cX12_borrow 77 = .ok (.iload_n 1, 1) := by decide +kernel
theorem dX12_borrow_78 : decode cX12_borrow 78 = .ok (.iastore, 1) := by decide +kernel
theorem dX12_borrow_79 : decode cX12_borrow 79 = .ok (.aload_n 0, 1) := by decide +kernel
theorem dX12_borrow_80 : decode cX12_borrow 80 = .ok (.getfield 131, 3) := by decide +kernel
theorem dX12_borrow_83 : decode cX12_borrow 83 = .ok (.aload_n 0, 1) := by decide +kernel
theorem dX12_borrow_84 : decode cX12_borrow 84 = .ok (.getfield 388, 3) := by decide +kernel
theorem dX12_borrow_87 : decode cX12_borrow 87 = .ok (.iload_n 2, 1) := by decide +kernel
theorem dX12_borrow_88 : decode cX12_borrow 88 = .ok (.iastore, 1) := by decide +kernel
theorem dX12_borrow_89 : decode cX12_borrow 89 = .ok (.aload_n 0, 1) := by decide +kernel
theorem dX12_borrow_90 : decode cX12_borrow 90 = .ok (.getfield 134, 3) := by decide +kernel
theorem dX12_borrow_93 : decode cX12_borrow 93 = .ok (.aload_n 0, 1) := by decide +kernel
theorem dX12_borrow_94 : decode cX12_borrow 94 = .ok (.getfield 388, 3) := by decide +kernel
theorem dX12_borrow_97 : decode cX12_borrow 97 = .ok (.iload_n 3, 1) := by decide +kernel
theorem dX12_borrow_98 : decode cX12_borrow 98 = .ok (.iastore, 1) := by decide +kernel
theorem dX12_borrow_99 : decode cX12_borrow 99 = .ok (.aload_n 0, 1) := by decide +kernel
theorem dX12_borrow_100 : decode cX12_borrow 100 = .ok (.iconst 3, 1) := by decide +kernel
theorem dX12_borrow_101 : decode cX12_borrow 101 = .ok (.aload_n 0, 1) := by decide +kernel
theorem dX12_borrow_102 : decode cX12_borrow 102 = .ok (.getfield 388, 3) := by decide +kernel
theorem dX12_borrow_105 : decode cX12_borrow 105 = .ok (.iload_n 1, 1) := by decide +kernel
theorem dX12_borrow_106 : decode cX12_borrow 106 = .ok (.i2l, 1) := by decide +kernel
theorem dX12_borrow_107 : decode cX12_borrow 107 = .ok (.invokevirtual 366, 3) := by decide +kernel
theorem dX12_borrow_110 : decode cX12_borrow 110 = .ok (.aload_n 0, 1) := by decide +kernel
theorem dX12_borrow_111 : decode cX12_borrow 111 = .ok (.dup, 1) := by decide +kernel
theorem dX12_borrow_112 : decode cX12_borrow 112 = .ok (.getfield 388, 3) := by decide +kernel
theorem dX12_borrow_115 : decode cX12_borrow 115 = .ok (.iconst 1, 1) := by decide +kernel
theorem dX12_borrow_116 : decode cX12_borrow 116 = .ok (.iadd, 1) := by decide +kernel
theorem dX12_borrow_117 : decode cX12_borrow 117 = .ok (.putfield 388, 3) := by decide +kernel
theorem dX12_borrow_120 : decode cX12_borrow 120 = .ok (.aload_n 0, 1) := by decide +kernel
theorem dX12_borrow_121 : decode cX12_borrow 121 = .ok (.getfield 388, 3) := by decide +kernel
theorem dX12_borrow_124 : decode cX12_borrow 124 = .ok (.iconst 1, 1) := by decide +kernel
theorem dX12_borrow_125 : decode cX12_borrow 125 = .ok (.isub, 1) := by decide +kernel
theorem dX12_borrow_126 : decode cX12_borrow 126 = .ok (.ireturn, 1) := by decide +kernel
theorem dX12_repay_0 : decode cX12_repay 0 = .ok (.aload_n 0, 1) := by decide +kernel
theorem dX12_repay_1 : decode cX12_repay 1 = .ok (.iconst 0, 1) := by decide +kernel
theorem dX12_repay_2 : decode cX12_repay 2 = .ok (.putfield 146, 3) := by decide +kernel
theorem dX12_repay_5 : decode cX12_repay 5 = .ok (.aload_n 0, 1) := by decide +kernel
theorem dX12_repay_6 : decode cX12_repay 6 = .ok (.iload_n 1, 1) := by decide +kernel
theorem dX12_repay_7 : decode cX12_repay 7 = .ok (.ifCond .lt 11, 3) := by decide +kernel
theorem dX12_repay_10 : decode cX12_repay 10 = .ok (.iload_n 1, 1) := by decide +kernel
theorem dX12_repay_11 : decode cX12_repay 11 = .ok (.aload_n 0, 1) := by decide +kernel
theorem dX12_repay_12 : decode cX12_repay 12 = .ok (.getfield 388, 3) := by decide +kernel
theorem dX12_repay_15 : decode cX12_repay 15 = .ok (.if_icmp .lt 7, 3) := by decide +kernel
theorem dX12_repay_18 : decode cX12_repay 18 = .ok (.iconst 1, 1) := by decide +kernel
theorem dX12_repay_19 : decode cX12_repay 19 = .ok (.goto 4, 3) := by decide +kernel
theorem dX12_repay_22 : decode cX12_repay 22 = .ok (.iconst 0, 1) := by decide +kernel
theorem dX12_repay_23 : decode cX12_repay 23 = .ok (.iconst 1, 1) := by decide +kernel
theorem dX12_repay_24 : decode cX12_repay 24 = .ok (.invokevirtual 308, 3) := by decide +kernel
theorem dX12_repay_27 : decode cX12_repay 27 = .ok (.ifCond .ne 21, 3) := by decide +kernel
theorem dX12_repay_30 : decode cX12_repay 30 = .ok (.aload_n 0, 1) := by decide +kernel
theorem dX12_repay_31 : decode cX12_repay 31 = .ok (.iload_n 2, 1) := by decide +kernel
theorem dX12_repay_32 : decode cX12_repay 32 = .ok (.iconst 1, 1) := by decide +kernel
theorem dX12_repay_33 : decode cX12_repay 33 = .ok (.if_icmp .ge 7, 3) := by decide +kernel
theorem dX12_repay_36 : decode cX12_repay 36 = .ok (.iconst 1, 1) := by decide +kernel
theorem dX12_repay_37 : decode cX12_repay 37 = .ok (.goto 4, 3) := by decide +kernel
theorem dX12_repay_40 : decode cX12_repay 40 = .ok (.iconst 0, 1) := by decide +kernel
theorem dX12_repay_41 : decode cX12_repay 41 = .ok (.iconst 2, 1) := by decide +kernel
theorem dX12_repay_42 : decode cX12_repay 42 = .ok (.invokevirtual 308, 3) := by decide +kernel
theorem dX12_repay_45 : decode cX12_repay 45 = .ok (.ifCond .eq 5, 3) := by decide +kernel
theorem dX12_repay_48 : decode cX12_repay 48 = .ok (.iconst 0, 1) := by decide +kernel
theorem dX12_repay_49 : decode cX12_repay 49 = .ok (.ireturn, 1) := by decide +kernel
theorem dX12_repay_50 : decode cX12_repay 50 = .ok (.aload_n 0, 1) := by decide +kernel
theorem dX12_repay_51 : decode cX12_repay 51 = .ok (.getfield 128, 3) := by decide +kernel
theorem dX12_repay_54 : decode cX12_repay 54 = .ok (.iload_n 1, 1) := by decide +kernel
theorem dX12_repay_55 : decode cX12_repay 55 = .ok (.iaload, 1) := by decide +kernel
theorem dX12_repay_56 : decode cX12_repay 56 = .ok (.iload_n 2, 1) := by decide +kernel
theorem dX12_repay_57 : decode cX12_repay 57 = .ok (.if_icmp .lt 13, 3) := by decide +kernel
theorem dX12_repay_60 : decode cX12_repay 60 = .ok (.aload_n 0, 1) := by decide +kernel
theorem dX12_repay_61 : decode cX12_repay 61 = .ok (.getfield 373, 3) := by decide +kernel
theorem dX12_repay_64 : decode cX12_repay 64 = .ok (.iload_n 2, 1) := by decide +kernel
theorem dX12_repay_65 : decode cX12_repay 65 = .ok (.i2l, 1) := by decide +kernel
theorem dX12_repay_66 : decode cX12_repay 66 = .ok (.lcmp, 1) := by decide +kernel
theorem dX12_repay_67 : decode cX12_repay 67 = .ok (.ifCond .ge 5, 3) := by decide +kernel
theorem dX12_repay_70 : decode cX12_repay 70 = .ok (.iconst (-1), 1) := by decide +kernel
theorem dX12_repay_71 : decode cX12_repay 71 = .ok (.ireturn, 1) := by decide +kernel
theorem dX12_repay_72 : decode cX12_repay 72 = .ok (.aload_n 0, 1) := by decide +kernel
theorem dX12_repay_73 : decode cX12_repay 73 = .ok (.getfield 128, 3) := by decide +kernel
theorem dX12_repay_76 : decode cX12_repay 76 = .ok (.iload_n 1, 1) := by decide +kernel
theorem dX12_repay_77 : decode cX12_repay 77 = .ok (.dup2, 1) := by decide +kernel
theorem dX12_repay_78 : decode cX12_repay 78 = .ok (.iaload, 1) := by decide +kernel
theorem dX12_repay_79 : decode cX12_repay 79 = .ok (.iload_n 2, 1) := by decide +kernel
theorem dX12_repay_80 : decode cX12_repay 80 = .ok (.isub, 1) := by decide +kernel
theorem dX12_repay_81 : decode cX12_repay 81 = .ok (.iastore, 1) := by decide +kernel
theorem dX12_repay_82 : decode cX12_repay 82 = .ok (.aload_n 0, 1) := by decide +kernel
theorem dX12_repay_83 : decode cX12_repay 83 = .ok (.iconst 5, 1) := by decide +kernel
theorem dX12_repay_84 : decode cX12_repay 84 = .ok (.iload_n 1, 1) := by decide +kernel
theorem dX12_repay_85 : decode cX12_repay 85 = .ok (.iload_n 2, 1) := by decide +kernel
theorem dX12_repay_86 : decode cX12_repay 86 = .ok (.ineg, 1) := by decide +kernel
theorem dX12_repay_87 : decode cX12_repay 87 = .ok (.i2l, 1) := by decide +kernel
theorem dX12_repay_88 : decode cX12_repay 88 = .ok (.invokevirtual 366, 3) := by decide +kernel
theorem dX12_repay_91 : decode cX12_repay 91 = .ok (.aload_n 0, 1) := by decide +kernel
theorem dX12_repay_92 : decode cX12_repay 92 = .ok (.getfield 128, 3) := by decide +kernel
theorem dX12_repay_95 : decode cX12_repay 95 = .ok (.iload_n 1, 1) := by decide +kernel
theorem dX12_repay_96 : decode cX12_repay 96 = .ok (.iaload, 1) := by decide +kernel
theorem dX12_repay_97 : decode cX12_repay 97 = .ok (.ireturn, 1) := by decide +kernel
theorem dX12_loan_0 : decode cX12_loan 0 = .ok (.aload_n 0, 1) := by decide +kernel
theorem dX12_loan_1 : decode cX12_loan 1 = .ok (.iconst 0, 1) := by decide +kernel
theorem dX12_loan_2 : decode cX12_loan 2 = .ok (.putfield 146, 3) := by decide +kernel
theorem dX12_loan_5 : decode cX12_loan 5 = .ok (.aload_n 0, 1) := by decide +kernel
theorem dX12_loan_6 : decode cX12_loan 6 = .ok (.iload_n 1, 1) := by decide +kernel
theorem dX12_loan_7 : decode cX12_loan 7 = .ok (.ifCond .lt 11, 3) := by decide +kernel
theorem dX12_loan_10 : decode cX12_loan 10 = .ok (.iload_n 1, 1) := by decide +kernel
theorem dX12_loan_11 : decode cX12_loan 11 = .ok (.aload_n 0, 1) := by decide +kernel
theorem dX12_loan_12 : decode cX12_loan 12 = .ok (.getfield 388, 3) := by decide +kernel
theorem dX12_loan_15 : decode cX12_loan 15 = .ok (.if_icmp .lt 7, 3) := by decide +kernel
theorem dX12_loan_18 : decode cX12_loan 18 = .ok (.iconst 1, 1) := by decide +kernel
theorem dX12_loan_19 : decode cX12_loan 19 = .ok (.goto 4, 3) := by decide +kernel
theorem dX12_loan_22 : decode cX12_loan 22 = .ok (.iconst 0, 1) := by decide +kernel
theorem dX12_loan_23 : decode cX12_loan 23 = .ok (.iconst 1, 1) := by decide +kernel
theorem dX12_loan_24 : decode cX12_loan 24 = .ok (.invokevirtual 308, 3) := by decide +kernel
theorem dX12_loan_27 : decode cX12_loan 27 = .ok (.ifCond .ne 25, 3) := by decide +kernel
theorem dX12_loan_30 : decode cX12_loan 30 = .ok (.aload_n 0, 1) := by decide +kernel
theorem dX12_loan_31 : decode cX12_loan 31 = .ok (.iload_n 2, 1) := by decide +kernel
theorem dX12_loan_32 : decode cX12_loan 32 = .ok (.ifCond .lt 8, 3) := by decide +kernel
theorem dX12_loan_35 : decode cX12_loan 35 = .ok (.iload_n 2, 1) := by decide +kernel
theorem dX12_loan_36 : decode cX12_loan 36 = .ok (.iconst 3, 1) := by decide +kernel
theorem dX12_loan_37 : decode cX12_loan 37 = .ok (.if_icmp .le 7, 3) := by decide +kernel
theorem dX12_loan_40 : decode cX12_loan 40 = .ok (.iconst 1, 1) := by decide +kernel
theorem dX12_loan_41 : decode cX12_loan 41 = .ok (.goto 4, 3) := by decide +kernel
theorem dX12_loan_44 : decode cX12_loan 44 = .ok (.iconst 0, 1) := by decide +kernel
theorem dX12_loan_45 : decode cX12_loan 45 = .ok (.iconst 2, 1) := by decide +kernel
theorem dX12_loan_46 : decode cX12_loan 46 = .ok (.invokevirtual 308, 3) := by decide +kernel
theorem dX12_loan_49 : decode cX12_loan 49 = .ok (.ifCond .eq 5, 3) := by decide +kernel
theorem dX12_loan_52 : decode cX12_loan 52 = .ok (.lconst 0, 1) := by decide +kernel
theorem dX12_loan_53 : decode cX12_loan 53 = .ok (.lreturn, 1) := by decide +kernel
theorem dX12_loan_54 : decode cX12_loan 54 = .ok (.iload_n 2, 1) := by decide +kernel
theorem dX12_loan_55 : decode cX12_loan 55 = .ok (.ifCond .ne 13, 3) := by decide +kernel
theorem dX12_loan_58 : decode cX12_loan 58 = .ok (.aload_n 0, 1) := by decide +kernel
theorem dX12_loan_59 : decode cX12_loan 59 = .ok (.getfield 128, 3) := by decide +kernel
theorem dX12_loan_62 : decode cX12_loan 62 = .ok (.iload_n 1, 1) := by decide +kernel
theorem dX12_loan_63 : decode cX12_loan 63 = .ok (.iaload, 1) := by decide +kernel
theorem dX12_loan_64 : decode cX12_loan 64 = .ok (.i2l, 1) := by decide +kernel
theorem dX12_loan_65 : decode cX12_loan 65 = .ok (.goto 39, 3) := by decide +kernel
theorem dX12_loan_68 : decode cX12_loan 68 = .ok (.iload_n 2, 1) := by decide +kernel
theorem dX12_loan_69 : decode cX12_loan 69 = .ok (.iconst 1, 1) := by decide +kernel
theorem dX12_loan_70 : decode cX12_loan 70 = .ok (.if_icmp .ne 13, 3) := by decide +kernel
theorem dX12_loan_73 : decode cX12_loan 73 = .ok (.aload_n 0, 1) := by decide +kernel
theorem dX12_loan_74 : decode cX12_loan 74 = .ok (.getfield 131, 3) := by decide +kernel
theorem dX12_loan_77 : decode cX12_loan 77 = .ok (.iload_n 1, 1) := by decide +kernel
theorem dX12_loan_78 : decode cX12_loan 78 = .ok (.iaload, 1) := by decide +kernel
theorem dX12_loan_79 : decode cX12_loan 79 = .ok (.i2l, 1) := by decide +kernel
theorem dX12_loan_80 : decode cX12_loan 80 = .ok (.goto 24, 3) := by decide +kernel
theorem dX12_loan_83 : decode cX12_loan 83 = .ok (.iload_n 2, 1) := by decide +kernel
theorem dX12_loan_84 : decode cX12_loan 84 = .ok (.iconst 2, 1) := by decide +kernel
theorem dX12_loan_85 : decode cX12_loan 85 = .ok (.if_icmp .ne 13, 3) := by decide +kernel
theorem dX12_loan_88 : decode cX12_loan 88 = .ok (.aload_n 0, 1) := by decide +kernel
theorem dX12_loan_89 : decode cX12_loan 89 = .ok (.getfield 134, 3) := by decide +kernel
theorem dX12_loan_92 : decode cX12_loan 92 = .ok (.iload_n 1, 1) := by decide +kernel
theorem dX12_loan_93 : decode cX12_loan 93 = .ok (.iaload, 1) := by decide +kernel
theorem dX12_loan_94 : decode cX12_loan 94 = .ok (.i2l, 1) := by decide +kernel
theorem dX12_loan_95 : decode cX12_loan 95 = .ok (.goto 9, 3) := by decide +kernel
theorem dX12_loan_98 : decode cX12_loan 98 = .ok (.aload_n 0, 1) := by decide +kernel
theorem dX12_loan_99 : decode cX12_loan 99 = .ok (.getfield 137, 3) := by decide +kernel
theorem dX12_loan_102 : decode cX12_loan 102 = .ok (.iload_n 1, 1) := by decide +kernel
theorem dX12_loan_103 : decode cX12_loan 103 = .ok (.laload, 1) := by decide +kernel
theorem dX12_loan_104 : decode cX12_loan 104 = .ok (.lreturn, 1) := by decide +kernel
theorem dX12_interest_0 : decode cX12_interest 0 = .ok (.iconst 0, 1) := by decide +kernel
theorem dX12_interest_1 : decode cX12_interest 1 = .ok (.istore_n 1, 1) := by decide +kernel
theorem dX12_interest_2 : decode cX12_interest 2 = .ok (.iload_n 1, 1) := by decide +kernel
theorem dX12_interest_3 : decode cX12_interest 3 = .ok (.aload_n 0, 1) := by decide +kernel
theorem dX12_interest_4 : decode cX12_interest 4 = .ok (.getfield 388, 3) := by decide +kernel
theorem dX12_interest_7 : decode cX12_interest 7 = .ok (.if_icmp .ge 37, 3) := by decide +kernel
theorem dX12_interest_10 : decode cX12_interest 10 = .ok (.aload_n 0, 1) := by decide +kernel
theorem dX12_interest_11 : decode cX12_interest 11 = .ok (.getfield 137, 3) := by decide +kernel
theorem dX12_interest_14 : decode cX12_interest 14 = .ok (.iload_n 1, 1) := by decide +kernel
theorem dX12_interest_15 : decode cX12_interest 15 = .ok (.dup2, 1) := by decide +kernel
theorem dX12_interest_16 : decode cX12_interest 16 = .ok (.laload, 1) := by decide +kernel
theorem dX12_interest_17 : decode cX12_interest 17 = .ok (.aload_n 0, 1) := by decide +kernel
theorem dX12_interest_18 : decode cX12_interest 18 = .ok (.getfield 128, 3) := by decide +kernel
theorem dX12_interest_21 : decode cX12_interest 21 = .ok (.iload_n 1, 1) := by decide +kernel
theorem dX12_interest_22 : decode cX12_interest 22 = .ok (.iaload, 1) := by decide +kernel
theorem dX12_interest_23 : decode cX12_interest 23 = .ok (.i2l, 1) := by decide +kernel
theorem dX12_interest_24 : decode cX12_interest 24 = .ok (.aload_n 0, 1) := by decide +kernel
theorem dX12_interest_25 : decode cX12_interest 25 = .ok (.getfield 131, 3) := by decide +kernel
theorem dX12_interest_28 : decode cX12_interest 28 = .ok (.iload_n 1, 1) := by decide +kernel
theorem dX12_interest_29 : decode cX12_interest 29 = .ok (.iaload, 1) := by decide +kernel
theorem dX12_interest_30 : decode cX12_interest 30 = .ok (.i2l, 1) := by decide +kernel
theorem dX12_interest_31 : decode cX12_interest 31 = .ok (.lmul, 1) := by decide +kernel
theorem dX12_interest_32 : decode cX12_interest 32 = .ok (.ldc2_w 391, 3) := by decide +kernel
theorem dX12_interest_35 : decode cX12_interest 35 = .ok (.ldiv, 1) := by decide +kernel
theorem dX12_interest_36 : decode cX12_interest 36 = .ok (.ladd, 1) := by decide +kernel
theorem dX12_interest_37 : decode cX12_interest 37 = .ok (.lastore, 1) := by decide +kernel
theorem dX12_interest_38 : decode cX12_interest 38 = .ok (.iinc 1 1, 3) := by decide +kernel
theorem dX12_interest_41 : decode cX12_interest 41 = .ok (.goto (-39), 3) := by decide +kernel
theorem dX12_interest_44 : decode cX12_interest 44 = .ok (.iconst 0, 1) := by decide +kernel
theorem dX12_interest_45 : decode cX12_interest 45 = .ok (.istore_n 1, 1) := by decide +kernel
theorem dX12_interest_46 : decode cX12_interest 46 = .ok (.iload_n 1, 1) := by decide +kernel
theorem dX12_interest_47 : decode cX12_interest 47 = .ok (.iconst 4, 1) := by decide +kernel
theorem dX12_interest_48 : decode cX12_interest 48 = .ok (.if_icmp .ge 14, 3) := by decide +kernel
theorem dX12_interest_51 : decode cX12_interest 51 = .ok (.aload_n 0, 1) := by decide +kernel
theorem dX12_interest_52 : decode cX12_interest 52 = .ok (.iload_n 1, 1) := by decide +kernel
theorem dX12_interest_53 : decode cX12_interest 53 = .ok (.invokevirtual 393, 3) := by decide +kernel
theorem dX12_interest_56 : decode cX12_interest 56 = .ok (.iinc 1 1, 3) := by decide +kernel
theorem dX12_interest_59 : decode cX12_interest 59 = .ok (.goto (-13), 3) := by decide +kernel
theorem dX12_interest_62 : decode cX12_interest 62 = .ok (.return_, 1) := by decide +kernel
theorem dX12_rank_0 : decode cX12_rank 0 = .ok (.lconst 0, 1) := by decide +kernel
theorem dX12_rank_1 : decode cX12_rank 1 = .ok (.lstore_n 2, 1) := by decide +kernel
theorem dX12_rank_2 : decode cX12_rank 2 = .ok (.iconst 0, 1) := by decide +kernel
theorem dX12_rank_3 : decode cX12_rank 3 = .ok (.istore 4, 2) := by decide +kernel
theorem dX12_rank_5 : decode cX12_rank 5 = .ok (.iload 4, 2) := by decide +kernel
theorem dX12_rank_7 : decode cX12_rank 7 = .ok (.aload_n 0, 1) := by decide +kernel
theorem dX12_rank_8 : decode cX12_rank 8 = .ok (.getfield 388, 3) := by decide +kernel
theorem dX12_rank_11 : decode cX12_rank 11 = .ok (.if_icmp .ge 34, 3) := by decide +kernel
theorem dX12_rank_14 : decode cX12_rank 14 = .ok (.lload_n 2, 1) := by decide +kernel
theorem dX12_rank_15 : decode cX12_rank 15 = .ok (.aload_n 0, 1) := by decide +kernel
theorem dX12_rank_16 : decode cX12_rank 16 = .ok (.getfield 134, 3) := by decide +kernel
theorem dX12_rank_19 : decode cX12_rank 19 = .ok (.iload 4, 2) := by decide +kernel
theorem dX12_rank_21 : decode cX12_rank 21 = .ok (.iaload, 1) := by decide +kernel
theorem dX12_rank_22 : decode cX12_rank 22 = .ok (.iload_n 1, 1) := by decide +kernel
theorem dX12_rank_23 : decode cX12_rank 23 = .ok (.if_icmp .ne 13, 3) := by decide +kernel
theorem dX12_rank_26 : decode cX12_rank 26 = .ok (.aload_n 0, 1) := by decide +kernel
theorem dX12_rank_27 : decode cX12_rank 27 = .ok (.getfield 137, 3) := by decide +kernel
theorem dX12_rank_30 : decode cX12_rank 30 = .ok (.iload 4, 2) := by decide +kernel
theorem dX12_rank_32 : decode cX12_rank 32 = .ok (.laload, 1) := by decide +kernel
theorem dX12_rank_33 : decode cX12_rank 33 = .ok (.goto 4, 3) := by decide +kernel
theorem dX12_rank_36 : decode cX12_rank 36 = .ok (.lconst 0, 1) := by decide +kernel
theorem dX12_rank_37 : decode cX12_rank 37 = .ok (.ladd, 1) := by decide +kernel
theorem dX12_rank_38 : decode cX12_rank 38 = .ok (.lstore_n 2, 1) := by decide +kernel
theorem dX12_rank_39 : decode cX12_rank 39 = .ok (.iinc 4 1, 3) := by decide +kernel
theorem dX12_rank_42 : decode cX12_rank 42 = .ok (.goto (-37), 3) := by decide +kernel
theorem dX12_rank_45 : decode cX12_rank 45 = .ok (.lload_n 2, 1) := by decide +kernel
theorem dX12_rank_46 : decode cX12_rank 46 = .ok (.lconst 0, 1) := by decide +kernel
theorem dX12_rank_47 : decode cX12_rank 47 = .ok (.lcmp, 1) := by decide +kernel
theorem dX12_rank_48 : decode cX12_rank 48 = .ok (.ifCond .ne 4, 3) := by decide +kernel
theorem dX12_rank_51 : decode cX12_rank 51 = .ok (.return_, 1) := by decide +kernel
theorem dX12_rank_52 : decode cX12_rank 52 = .ok (.aload_n 0, 1) := by decide +kernel
theorem dX12_rank_53 : decode cX12_rank 53 = .ok (.getfield 373, 3) := by decide +kernel
theorem dX12_rank_56 : decode cX12_rank 56 = .ok (.lstore 4, 2) := by decide +kernel
theorem dX12_rank_58 : decode cX12_rank 58 = .ok (.lconst 0, 1) := by decide +kernel
theorem dX12_rank_59 : decode cX12_rank 59 = .ok (.lstore 6, 2) := by decide +kernel
theorem dX12_rank_61 : decode cX12_rank 61 = .ok (.iconst 0, 1) := by decide +kernel
theorem dX12_rank_62 : decode cX12_rank 62 = .ok (.istore 8, 2) := by decide +kernel
theorem dX12_rank_64 : decode cX12_rank 64 = .ok (.iload 8, 2) := by decide +kernel
theorem dX12_rank_66 : decode cX12_rank 66 = .ok (.aload_n 0, 1) := by decide +kernel
theorem dX12_rank_67 : decode cX12_rank 67 = .ok (.getfield 388, 3) := by decide +kernel
theorem dX12_rank_70 : decode cX12_rank 70 = .ok (.if_icmp .ge 101, 3) := by decide +kernel
theorem dX12_rank_73 : decode cX12_rank 73 = .ok (.aload_n 0, 1) := by decide +kernel
theorem dX12_rank_74 : decode cX12_rank 74 = .ok (.getfield 134, 3) := by decide +kernel
theorem dX12_rank_77 : decode cX12_rank 77 = .ok (.iload 8, 2) := by decide +kernel
theorem dX12_rank_79 : decode cX12_rank 79 = .ok (.iaload, 1) := by decide +kernel
theorem dX12_rank_80 : decode cX12_rank 80 = .ok (.iload_n 1, 1) := by decide +kernel
theorem dX12_rank_81 : decode cX12_rank 81 = .ok (.if_icmp .eq 6, 3) := by decide +kernel
theorem dX12_rank_84 : decode cX12_rank 84 = .ok (.goto 81, 3) := by decide +kernel
theorem dX12_rank_87 : decode cX12_rank 87 = .ok (.aload_n 0, 1) := by decide +kernel
theorem dX12_rank_88 : decode cX12_rank 88 = .ok (.getfield 140, 3) := by decide +kernel
theorem dX12_rank_91 : decode cX12_rank 91 = .ok (.iload 8, 2) := by decide +kernel
theorem dX12_rank_93 : decode cX12_rank 93 = .ok (.lload 4, 2) := by decide +kernel
theorem dX12_rank_95 : decode cX12_rank 95 = .ok (.lload_n 2, 1) := by decide +kernel
theorem dX12_rank_96 : decode cX12_rank 96 = .ok (.lcmp, 1) := by decide +kernel
theorem dX12_rank_97 : decode cX12_rank 97 = .ok (.ifCond .lt 13, 3) := by decide +kernel
theorem dX12_rank_100 : decode cX12_rank 100 = .ok (.aload_n 0, 1) := by decide +kernel
theorem dX12_rank_101 : decode cX12_rank 101 = .ok (.getfield 137, 3) := by decide +kernel
theorem dX12_rank_104 : decode cX12_rank 104 = .ok (.iload 8, 2) := by decide +kernel
theorem dX12_rank_106 : decode cX12_rank 106 = .ok (.laload, 1) := by decide +kernel
theorem dX12_rank_107 : decode cX12_rank 107 = .ok (.goto 15, 3) := by decide +kernel
theorem dX12_rank_110 : decode cX12_rank 110 = .ok (.aload_n 0, 1) := by decide +kernel
theorem dX12_rank_111 : decode cX12_rank 111 = .ok (.getfield 137, 3) := by decide +kernel
theorem dX12_rank_114 : decode cX12_rank 114 = .ok (.iload 8, 2) := by decide +kernel
theorem dX12_rank_116 : decode cX12_rank 116 = .ok (.laload, 1) := by decide +kernel
theorem dX12_rank_117 : decode cX12_rank 117 = .ok (.lload 4, 2) := by decide +kernel
theorem dX12_rank_119 : decode cX12_rank 119 = .ok (.lmul, 1) := by decide +kernel
theorem dX12_rank_120 : decode cX12_rank 120 = .ok (.lload_n 2, 1) := by decide +kernel
theorem dX12_rank_121 : decode cX12_rank 121 = .ok (.ldiv, 1) := by decide +kernel
theorem dX12_rank_122 : decode cX12_rank 122 = .ok (.lastore, 1) := by decide +kernel
theorem dX12_rank_123 : decode cX12_rank 123 = .ok (.aload_n 0, 1) := by decide +kernel
theorem dX12_rank_124 : decode cX12_rank 124 = .ok (.getfield 143, 3) := by decide +kernel
theorem dX12_rank_127 : decode cX12_rank 127 = .ok (.iload 8, 2) := by decide +kernel
theorem dX12_rank_129 : decode cX12_rank 129 = .ok (.lload 4, 2) := by decide +kernel
theorem dX12_rank_131 : decode cX12_rank 131 = .ok (.lload_n 2, 1) := by decide +kernel
theorem dX12_rank_132 : decode cX12_rank 132 = .ok (.lcmp, 1) := by decide +kernel
theorem dX12_rank_133 : decode cX12_rank 133 = .ok (.ifCond .lt 7, 3) := by decide +kernel
theorem dX12_rank_136 : decode cX12_rank 136 = .ok (.lconst 0, 1) := by decide +kernel
theorem dX12_rank_137 : decode cX12_rank 137 = .ok (.goto 15, 3) := by decide +kernel
theorem dX12_rank_140 : decode cX12_rank 140 = .ok (.aload_n 0, 1) := by decide +kernel
theorem dX12_rank_141 : decode cX12_rank 141 = .ok (.getfield 137, 3) := by decide +kernel
theorem dX12_rank_144 : decode cX12_rank 144 = .ok (.iload 8, 2) := by decide +kernel
theorem dX12_rank_146 : decode cX12_rank 146 = .ok (.laload, 1) := by decide +kernel
theorem dX12_rank_147 : decode cX12_rank 147 = .ok (.lload 4, 2) := by decide +kernel
theorem dX12_rank_149 : decode cX12_rank 149 = .ok (.lmul, 1) := by decide +kernel
theorem dX12_rank_150 : decode cX12_rank 150 = .ok (.lload_n 2, 1) := by decide +kernel
theorem dX12_rank_151 : decode cX12_rank 151 = .ok (.lrem, 1) := by decide +kernel
theorem dX12_rank_152 : decode cX12_rank 152 = .ok (.lastore, 1) := by decide +kernel
theorem dX12_rank_153 : decode cX12_rank 153 = .ok (.lload 6, 2) := by decide +kernel
theorem dX12_rank_155 : decode cX12_rank 155 = .ok (.aload_n 0, 1) := by decide +kernel
theorem dX12_rank_156 : decode cX12_rank 156 = .ok (.getfield 140, 3) := by decide +kernel
theorem dX12_rank_159 : decode cX12_rank 159 = .ok (.iload 8, 2) := by decide +kernel
theorem dX12_rank_161 : decode cX12_rank 161 = .ok (.laload, 1) := by decide +kernel
theorem dX12_rank_162 : decode cX12_rank 162 = .ok (.ladd, 1) := by decide +kernel
theorem dX12_rank_163 : decode cX12_rank 163 = .ok (.lstore 6, 2) := by decide +kernel
theorem dX12_rank_165 : decode cX12_rank 165 = .ok (.iinc 8 1, 3) := by decide +kernel
theorem dX12_rank_168 : decode cX12_rank 168 = .ok (.goto (-104), 3) := by decide +kernel
theorem dX12_rank_171 : decode cX12_rank 171 = .ok (.lload 4, 2) := by decide +kernel
theorem dX12_rank_173 : decode cX12_rank 173 = .ok (.lload_n 2, 1) := by decide +kernel
theorem dX12_rank_174 : decode cX12_rank 174 = .ok (.lcmp, 1) := by decide +kernel
theorem dX12_rank_175 : decode cX12_rank 175 = .ok (.ifCond .lt 7, 3) := by decide +kernel
theorem dX12_rank_178 : decode cX12_rank 178 = .ok (.lconst 0, 1) := by decide +kernel
theorem dX12_rank_179 : decode cX12_rank 179 = .ok (.goto 8, 3) := by decide +kernel
theorem dX12_rank_182 : decode cX12_rank 182 = .ok (.lload 4, 2) := by decide +kernel
theorem dX12_rank_184 : decode cX12_rank 184 = .ok (.lload 6, 2) := by decide +kernel
theorem dX12_rank_186 : decode cX12_rank 186 = .ok (.lsub, 1) := by decide +kernel
theorem dX12_rank_187 : decode cX12_rank 187 = .ok (.lstore 8, 2) := by decide +kernel
theorem dX12_rank_189 : decode cX12_rank 189 = .ok (.lload 8, 2) := by decide +kernel
theorem dX12_rank_191 : decode cX12_rank 191 = .ok (.lconst 0, 1) := by decide +kernel
theorem dX12_rank_192 : decode cX12_rank 192 = .ok (.lcmp, 1) := by decide +kernel
theorem dX12_rank_193 : decode cX12_rank 193 = .ok (.ifCond .le 110, 3) := by decide +kernel
theorem dX12_rank_196 : decode cX12_rank 196 = .ok (.iconst (-1), 1) := by decide +kernel
theorem dX12_rank_197 : decode cX12_rank 197 = .ok (.istore 10, 2) := by decide +kernel
theorem dX12_rank_199 : decode cX12_rank 199 = .ok (.iconst 0, 1) := by decide +kernel
theorem dX12_rank_200 : decode cX12_rank 200 = .ok (.istore 11, 2) := by decide +kernel
theorem dX12_rank_202 : decode cX12_rank 202 = .ok (.iload 11, 2) := by decide +kernel
theorem dX12_rank_204 : decode cX12_rank 204 = .ok (.aload_n 0, 1) := by decide +kernel
theorem dX12_rank_205 : decode cX12_rank 205 = .ok (.getfield 388, 3) := by decide +kernel
theorem dX12_rank_208 : decode cX12_rank 208 = .ok (.if_icmp .ge 59, 3) := by decide +kernel
theorem dX12_rank_211 : decode cX12_rank 211 = .ok (.aload_n 0, 1) := by decide +kernel
theorem dX12_rank_212 : decode cX12_rank 212 = .ok (.getfield 134, 3) := by decide +kernel
theorem dX12_rank_215 : decode cX12_rank 215 = .ok (.iload 11, 2) := by decide +kernel
theorem dX12_rank_217 : decode cX12_rank 217 = .ok (.iaload, 1) := by decide +kernel
theorem dX12_rank_218 : decode cX12_rank 218 = .ok (.iload_n 1, 1) := by decide +kernel
theorem dX12_rank_219 : decode cX12_rank 219 = .ok (.if_icmp .ne 42, 3) := by decide +kernel
theorem dX12_rank_222 : decode cX12_rank 222 = .ok (.aload_n 0, 1) := by decide +kernel
theorem dX12_rank_223 : decode cX12_rank 223 = .ok (.getfield 143, 3) := by decide +kernel
theorem dX12_rank_226 : decode cX12_rank 226 = .ok (.iload 11, 2) := by decide +kernel
theorem dX12_rank_228 : decode cX12_rank 228 = .ok (.laload, 1) := by decide +kernel
theorem dX12_rank_229 : decode cX12_rank 229 = .ok (.lconst 0, 1) := by decide +kernel
theorem dX12_rank_230 : decode cX12_rank 230 = .ok (.lcmp, 1) := by decide +kernel
theorem dX12_rank_231 : decode cX12_rank 231 = .ok (.ifCond .le 30, 3) := by decide +kernel
theorem dX12_rank_234 : decode cX12_rank 234 = .ok (.iload 10, 2) := by decide +kernel
theorem dX12_rank_236 : decode cX12_rank 236 = .ok (.ifCond .lt 21, 3) := by decide +kernel
theorem dX12_rank_239 : decode cX12_rank 239 = .ok (.aload_n 0, 1) := by decide +kernel
theorem dX12_rank_240 : decode cX12_rank 240 = .ok (.getfield 143, 3) := by decide +kernel
theorem dX12_rank_243 : decode cX12_rank 243 = .ok (.iload 11, 2) := by decide +kernel
theorem dX12_rank_245 : decode cX12_rank 245 = .ok (.laload, 1) := by decide +kernel
theorem dX12_rank_246 : decode cX12_rank 246 = .ok (.aload_n 0, 1) := by decide +kernel
theorem dX12_rank_247 : decode cX12_rank 247 = .ok (.getfield 143, 3) := by decide +kernel
theorem dX12_rank_250 : decode cX12_rank 250 = .ok (.iload 10, 2) := by decide +kernel
theorem dX12_rank_252 : decode cX12_rank 252 = .ok (.laload, 1) := by decide +kernel
theorem dX12_rank_253 : decode cX12_rank 253 = .ok (.lcmp, 1) := by decide +kernel
theorem dX12_rank_254 : decode cX12_rank 254 = .ok (.ifCond .le 7, 3) := by decide +kernel
theorem dX12_rank_257 : decode cX12_rank 257 = .ok (.iload 11, 2) := by decide +kernel
theorem dX12_rank_259 : decode cX12_rank 259 = .ok (.istore 10, 2) := by decide +kernel
theorem dX12_rank_261 : decode cX12_rank 261 = .ok (.iinc 11 1, 3) := by decide +kernel
theorem dX12_rank_264 : decode cX12_rank 264 = .ok (.goto (-62), 3) := by decide +kernel
theorem dX12_rank_267 : decode cX12_rank 267 = .ok (.iload 10, 2) := by decide +kernel
theorem dX12_rank_269 : decode cX12_rank 269 = .ok (.ifCond .ge 6, 3) := by decide +kernel
theorem dX12_rank_272 : decode cX12_rank 272 = .ok (.goto 31, 3) := by decide +kernel
theorem dX12_rank_275 : decode cX12_rank 275 = .ok (.aload_n 0, 1) := by decide +kernel
theorem dX12_rank_276 : decode cX12_rank 276 = .ok (.getfield 140, 3) := by decide +kernel
theorem dX12_rank_279 : decode cX12_rank 279 = .ok (.iload 10, 2) := by decide +kernel
theorem dX12_rank_281 : decode cX12_rank 281 = .ok (.dup2, 1) := by decide +kernel
theorem dX12_rank_282 : decode cX12_rank 282 = .ok (.laload, 1) := by decide +kernel
theorem dX12_rank_283 : decode cX12_rank 283 = .ok (.lconst 1, 1) := by decide +kernel
theorem dX12_rank_284 : decode cX12_rank 284 = .ok (.ladd, 1) := by decide +kernel
theorem dX12_rank_285 : decode cX12_rank 285 = .ok (.lastore, 1) := by decide +kernel
theorem dX12_rank_286 : decode cX12_rank 286 = .ok (.aload_n 0, 1) := by decide +kernel
theorem dX12_rank_287 : decode cX12_rank 287 = .ok (.getfield 143, 3) := by decide +kernel
theorem dX12_rank_290 : decode cX12_rank 290 = .ok (.iload 10, 2) := by decide +kernel
theorem dX12_rank_292 : decode cX12_rank 292 = .ok (.lconst 0, 1) := by decide +kernel
theorem dX12_rank_293 : decode cX12_rank 293 = .ok (.lastore, 1) := by decide +kernel
theorem dX12_rank_294 : decode cX12_rank 294 = .ok (.lload 8, 2) := by decide +kernel
theorem dX12_rank_296 : decode cX12_rank 296 = .ok (.lconst 1, 1) := by decide +kernel
theorem dX12_rank_297 : decode cX12_rank 297 = .ok (.lsub, 1) := by decide +kernel
theorem dX12_rank_298 : decode cX12_rank 298 = .ok (.lstore 8, 2) := by decide +kernel
theorem dX12_rank_300 : decode cX12_rank 300 = .ok (.goto (-111), 3) := by decide +kernel
theorem dX12_rank_303 : decode cX12_rank 303 = .ok (.iconst 0, 1) := by decide +kernel
theorem dX12_rank_304 : decode cX12_rank 304 = .ok (.istore 8, 2) := by decide +kernel
theorem dX12_rank_306 : decode cX12_rank 306 = .ok (.iload 8, 2) := by decide +kernel
theorem dX12_rank_308 : decode cX12_rank 308 = .ok (.aload_n 0, 1) := by decide +kernel
theorem dX12_rank_309 : decode cX12_rank 309 = .ok (.getfield 388, 3) := by decide +kernel
theorem dX12_rank_312 : decode cX12_rank 312 = .ok (.if_icmp .ge 67, 3) := by decide +kernel
theorem dX12_rank_315 : decode cX12_rank 315 = .ok (.aload_n 0, 1) := by decide +kernel
theorem dX12_rank_316 : decode cX12_rank 316 = .ok (.getfield 134, 3) := by decide +kernel
theorem dX12_rank_319 : decode cX12_rank 319 = .ok (.iload 8, 2) := by decide +kernel
theorem dX12_rank_321 : decode cX12_rank 321 = .ok (.iaload, 1) := by decide +kernel
theorem dX12_rank_322 : decode cX12_rank 322 = .ok (.iload_n 1, 1) := by decide +kernel
theorem dX12_rank_323 : decode cX12_rank 323 = .ok (.if_icmp .ne 50, 3) := by decide +kernel
theorem dX12_rank_326 : decode cX12_rank 326 = .ok (.aload_n 0, 1) := by decide +kernel
theorem dX12_rank_327 : decode cX12_rank 327 = .ok (.getfield 140, 3) := by decide +kernel
theorem dX12_rank_330 : decode cX12_rank 330 = .ok (.iload 8, 2) := by decide +kernel
theorem dX12_rank_332 : decode cX12_rank 332 = .ok (.laload, 1) := by decide +kernel
theorem dX12_rank_333 : decode cX12_rank 333 = .ok (.lconst 0, 1) := by decide +kernel
theorem dX12_rank_334 : decode cX12_rank 334 = .ok (.lcmp, 1) := by decide +kernel
theorem dX12_rank_335 : decode cX12_rank 335 = .ok (.ifCond .ne 6, 3) := by decide +kernel
theorem dX12_rank_338 : decode cX12_rank 338 = .ok (.goto 35, 3) := by decide +kernel
theorem dX12_rank_341 : decode cX12_rank 341 = .ok (.aload_n 0, 1) := by decide +kernel
theorem dX12_rank_342 : decode cX12_rank 342 = .ok (.getfield 137, 3) := by decide +kernel
theorem dX12_rank_345 : decode cX12_rank 345 = .ok (.iload 8, 2) := by decide +kernel
theorem dX12_rank_347 : decode cX12_rank 347 = .ok (.dup2, 1) := by decide +kernel
theorem dX12_rank_348 : decode cX12_rank 348 = .ok (.laload, 1) := by decide +kernel
theorem dX12_rank_349 : decode cX12_rank 349 = .ok (.aload_n 0, 1) := by decide +kernel
theorem dX12_rank_350 : decode cX12_rank 350 = .ok (.getfield 140, 3) := by decide +kernel
theorem dX12_rank_353 : decode cX12_rank 353 = .ok (.iload 8, 2) := by decide +kernel
theorem dX12_rank_355 : decode cX12_rank 355 = .ok (.laload, 1) := by decide +kernel
theorem dX12_rank_356 : decode cX12_rank 356 = .ok (.lsub, 1) := by decide +kernel
theorem dX12_rank_357 : decode cX12_rank 357 = .ok (.lastore, 1) := by decide +kernel
theorem dX12_rank_358 : decode cX12_rank 358 = .ok (.aload_n 0, 1) := by decide +kernel
theorem dX12_rank_359 : decode cX12_rank 359 = .ok (.iconst 4, 1) := by decide +kernel
theorem dX12_rank_360 : decode cX12_rank 360 = .ok (.iload 8, 2) := by decide +kernel
theorem dX12_rank_362 : decode cX12_rank 362 = .ok (.aload_n 0, 1) := by decide +kernel
theorem dX12_rank_363 : decode cX12_rank 363 = .ok (.getfield 140, 3) := by decide +kernel
theorem dX12_rank_366 : decode cX12_rank 366 = .ok (.iload 8, 2) := by decide +kernel
theorem dX12_rank_368 : decode cX12_rank 368 = .ok (.laload, 1) := by decide +kernel
theorem dX12_rank_369 : decode cX12_rank 369 = .ok (.lneg, 1) := by decide +kernel
theorem dX12_rank_370 : decode cX12_rank 370 = .ok (.invokevirtual 366, 3) := by decide +kernel
theorem dX12_rank_373 : decode cX12_rank 373 = .ok (.iinc 8 1, 3) := by decide +kernel
theorem dX12_rank_376 : decode cX12_rank 376 = .ok (.goto (-70), 3) := by decide +kernel
theorem dX12_rank_379 : decode cX12_rank 379 = .ok (.return_, 1) := by decide +kernel
theorem dX12_wait_0 : decode cX12_wait 0 = .ok (.aload_n 0, 1) := by decide +kernel
theorem dX12_wait_1 : decode cX12_wait 1 = .ok (.iconst 0, 1) := by decide +kernel
theorem dX12_wait_2 : decode cX12_wait 2 = .ok (.putfield 146, 3) := by decide +kernel
theorem dX12_wait_5 : decode cX12_wait 5 = .ok (.aload_n 0, 1) := by decide +kernel
theorem dX12_wait_6 : decode cX12_wait 6 = .ok (.iload_n 1, 1) := by decide +kernel
theorem dX12_wait_7 : decode cX12_wait 7 = .ok (.ifCond .lt 22, 3) := by decide +kernel
theorem dX12_wait_10 : decode cX12_wait 10 = .ok (.iload_n 1, 1) := by decide +kernel
theorem dX12_wait_11 : decode cX12_wait 11 = .ok (.sipush 1000, 3) := by decide +kernel
theorem dX12_wait_14 : decode cX12_wait 14 = .ok (.if_icmp .gt 15, 3) := by decide +kernel
theorem dX12_wait_17 : decode cX12_wait 17 = .ok (.aload_n 0, 1) := by decide +kernel
theorem dX12_wait_18 : decode cX12_wait 18 = .ok (.getfield 331, 3) := by decide +kernel
theorem dX12_wait_21 : decode cX12_wait 21 = .ok (.iload_n 1, 1) := by decide +kernel
theorem dX12_wait_22 : decode cX12_wait 22 = .ok (.iadd, 1) := by decide +kernel
theorem dX12_wait_23 : decode cX12_wait 23 = .ok (.sipush 9999, 3) := by decide +kernel
theorem dX12_wait_26 : decode cX12_wait 26 = .ok (.if_icmp .le 7, 3) := by decide +kernel
theorem dX12_wait_29 : decode cX12_wait 29 = .ok (.iconst 1, 1) := by decide +kernel
theorem dX12_wait_30 : decode cX12_wait 30 = .ok (.goto 4, 3) := by decide +kernel
theorem dX12_wait_33 : decode cX12_wait 33 = .ok (.iconst 0, 1) := by decide +kernel
theorem dX12_wait_34 : decode cX12_wait 34 = .ok (.iconst 1, 1) := by decide +kernel
theorem dX12_wait_35 : decode cX12_wait 35 = .ok (.invokevirtual 308, 3) := by decide +kernel
theorem dX12_wait_38 : decode cX12_wait 38 = .ok (.ifCond .eq 5, 3) := by decide +kernel
theorem dX12_wait_41 : decode cX12_wait 41 = .ok (.iconst 0, 1) := by decide +kernel
theorem dX12_wait_42 : decode cX12_wait 42 = .ok (.ireturn, 1) := by decide +kernel
theorem dX12_wait_43 : decode cX12_wait 43 = .ok (.iconst 0, 1) := by decide +kernel
theorem dX12_wait_44 : decode cX12_wait 44 = .ok (.istore_n 2, 1) := by decide +kernel
theorem dX12_wait_45 : decode cX12_wait 45 = .ok (.iload_n 2, 1) := by decide +kernel
theorem dX12_wait_46 : decode cX12_wait 46 = .ok (.iload_n 1, 1) := by decide +kernel
theorem dX12_wait_47 : decode cX12_wait 47 = .ok (.if_icmp .ge 98, 3) := by decide +kernel
theorem dX12_wait_50 : decode cX12_wait 50 = .ok (.aload_n 0, 1) := by decide +kernel
theorem dX12_wait_51 : decode cX12_wait 51 = .ok (.dup, 1) := by decide +kernel
theorem dX12_wait_52 : decode cX12_wait 52 = .ok (.getfield 331, 3) := by decide +kernel
theorem dX12_wait_55 : decode cX12_wait 55 = .ok (.iconst 1, 1) := by decide +kernel
theorem dX12_wait_56 : decode cX12_wait 56 = .ok (.iadd, 1) := by decide +kernel
theorem dX12_wait_57 : decode cX12_wait 57 = .ok (.putfield 331, 3) := by decide +kernel
theorem dX12_wait_60 : decode cX12_wait 60 = .ok (.aload_n 0, 1) := by decide +kernel
theorem dX12_wait_61 : decode cX12_wait 61 = .ok (.dup, 1) := by decide +kernel
theorem dX12_wait_62 : decode cX12_wait 62 = .ok (.getfield 363, 3) := by decide +kernel
theorem dX12_wait_65 : decode cX12_wait 65 = .ok (.aload_n 0, 1) := by decide +kernel
theorem dX12_wait_66 : decode cX12_wait 66 = .ok (.getfield 363, 3) := by decide +kernel
theorem dX12_wait_69 : decode cX12_wait 69 = .ok (.ifCond .le 7, 3) := by decide +kernel
theorem dX12_wait_72 : decode cX12_wait 72 = .ok (.iconst 1, 1) := by decide +kernel
theorem dX12_wait_73 : decode cX12_wait 73 = .ok (.goto 4, 3) := by decide +kernel
theorem dX12_wait_76 : decode cX12_wait 76 = .ok (.iconst 0, 1) := by decide +kernel
theorem dX12_wait_77 : decode cX12_wait 77 = .ok (.isub, 1) := by decide +kernel
theorem dX12_wait_78 : decode cX12_wait 78 = .ok (.putfield 363, 3) := by decide +kernel
theorem dX12_wait_81 : decode cX12_wait 81 = .ok (.aload_n 0, 1) := by decide +kernel
theorem dX12_wait_82 : decode cX12_wait 82 = .ok (.getfield 331, 3) := by decide +kernel
theorem dX12_wait_85 : decode cX12_wait 85 = .ok (.sipush 365, 3) := by decide +kernel
theorem dX12_wait_88 : decode cX12_wait 88 = .ok (.irem, 1) := by decide +kernel
theorem dX12_wait_89 : decode cX12_wait 89 = .ok (.ifCond .ne 7, 3) := by decide +kernel
theorem dX12_wait_92 : decode cX12_wait 92 = .ok (.aload_n 0, 1) := by decide +kernel
theorem dX12_wait_93 : decode cX12_wait 93 = .ok (.invokevirtual 396, 3) := by decide +kernel
theorem dX12_wait_96 : decode cX12_wait 96 = .ok (.iconst 0, 1) := by decide +kernel
theorem dX12_wait_97 : decode cX12_wait 97 = .ok (.istore_n 3, 1) := by decide +kernel
theorem dX12_wait_98 : decode cX12_wait 98 = .ok (.iload_n 3, 1) := by decide +kernel
theorem dX12_wait_99 : decode cX12_wait 99 = .ok (.aload_n 0, 1) := by decide +kernel
theorem dX12_wait_100 : decode cX12_wait 100 = .ok (.getfield 321, 3) := by decide +kernel
theorem dX12_wait_103 : decode cX12_wait 103 = .ok (.if_icmp .ge 36, 3) := by decide +kernel
theorem dX12_wait_106 : decode cX12_wait 106 = .ok (.aload_n 0, 1) := by decide +kernel
theorem dX12_wait_107 : decode cX12_wait 107 = .ok (.getfield 113, 3) := by decide +kernel
theorem dX12_wait_110 : decode cX12_wait 110 = .ok (.iload_n 3, 1) := by decide +kernel
theorem dX12_wait_111 : decode cX12_wait 111 = .ok (.iaload, 1) := by decide +kernel
theorem dX12_wait_112 : decode cX12_wait 112 = .ok (.ifCond .lt 21, 3) := by decide +kernel
theorem dX12_wait_115 : decode cX12_wait 115 = .ok (.aload_n 0, 1) := by decide +kernel
theorem dX12_wait_116 : decode cX12_wait 116 = .ok (.getfield 122, 3) := by decide +kernel
theorem dX12_wait_119 : decode cX12_wait 119 = .ok (.iload_n 3, 1) := by decide +kernel
theorem dX12_wait_120 : decode cX12_wait 120 = .ok (.iaload, 1) := by decide +kernel
theorem dX12_wait_121 : decode cX12_wait 121 = .ok (.aload_n 0, 1) := by decide +kernel
theorem dX12_wait_122 : decode cX12_wait 122 = .ok (.getfield 331, 3) := by decide +kernel
theorem dX12_wait_125 : decode cX12_wait 125 = .ok (.if_icmp .ne 8, 3) := by decide +kernel
theorem dX12_wait_128 : decode cX12_wait 128 = .ok (.aload_n 0, 1) := by decide +kernel
theorem dX12_wait_129 : decode cX12_wait 129 = .ok (.iload_n 3, 1) := by decide +kernel
theorem dX12_wait_130 : decode cX12_wait 130 = .ok (.invokevirtual 385, 3) := by decide +kernel
theorem dX12_wait_133 : decode cX12_wait 133 = .ok (.iinc 3 1, 3) := by decide +kernel
theorem dX12_wait_136 : decode cX12_wait 136 = .ok (.goto (-38), 3) := by decide +kernel
theorem dX12_wait_139 : decode cX12_wait 139 = .ok (.iinc 2 1, 3) := by decide +kernel
theorem dX12_wait_142 : decode cX12_wait 142 = .ok (.goto (-97), 3) := by decide +kernel
theorem dX12_wait_145 : decode cX12_wait 145 = .ok (.aload_n 0, 1) := by decide +kernel
theorem dX12_wait_146 : decode cX12_wait 146 = .ok (.getfield 331, 3) := by decide +kernel
theorem dX12_wait_149 : decode cX12_wait 149 = .ok (.ireturn, 1) := by decide +kernel
theorem dX12_rain_0 : decode cX12_rain 0 = .ok (.aload_n 0, 1) := by decide +kernel
theorem dX12_rain_1 : decode cX12_rain 1 = .ok (.iconst 0, 1) := by decide +kernel
theorem dX12_rain_2 : decode cX12_rain 2 = .ok (.putfield 146, 3) := by decide +kernel
theorem dX12_rain_5 : decode cX12_rain 5 = .ok (.aload_n 0, 1) := by decide +kernel
theorem dX12_rain_6 : decode cX12_rain 6 = .ok (.iload_n 1, 1) := by decide +kernel
theorem dX12_rain_7 : decode cX12_rain 7 = .ok (.ifCond .lt 10, 3) := by decide +kernel
theorem dX12_rain_10 : decode cX12_rain 10 = .ok (.iload_n 1, 1) := by decide +kernel
theorem dX12_rain_11 : decode cX12_rain 11 = .ok (.sipush 1000, 3) := by decide +kernel
theorem dX12_rain_14 : decode cX12_rain 14 = .ok (.if_icmp .le 7, 3) := by decide +kernel
theorem dX12_rain_17 : decode cX12_rain 17 = .ok (.iconst 1, 1) := by decide +kernel
theorem dX12_rain_18 : decode cX12_rain 18 = .ok (.goto 4, 3) := by decide +kernel
theorem dX12_rain_21 : decode cX12_rain 21 = .ok (.iconst 0, 1) := by decide +kernel
theorem dX12_rain_22 : decode cX12_rain 22 = .ok (.iconst 1, 1) := by decide +kernel
theorem dX12_rain_23 : decode cX12_rain 23 = .ok (.invokevirtual 308, 3) := by decide +kernel
theorem dX12_rain_26 : decode cX12_rain 26 = .ok (.ifCond .eq 4, 3) := by decide +kernel
theorem dX12_rain_29 : decode cX12_rain 29 = .ok (.return_, 1) := by decide +kernel
theorem dX12_rain_30 : decode cX12_rain 30 = .ok (.aload_n 0, 1) := by decide +kernel
theorem dX12_rain_31 : decode cX12_rain 31 = .ok (.iload_n 1, 1) := by decide +kernel
theorem dX12_rain_32 : decode cX12_rain 32 = .ok (.putfield 363, 3) := by decide +kernel
theorem dX12_rain_35 : decode cX12_rain 35 = .ok (.return_, 1) := by decide +kernel
theorem dX12_mend_0 : decode cX12_mend 0 = .ok (.aload_n 0, 1) := by decide +kernel
theorem dX12_mend_1 : decode cX12_mend 1 = .ok (.iconst 0, 1) := by decide +kernel
theorem dX12_mend_2 : decode cX12_mend 2 = .ok (.putfield 146, 3) := by decide +kernel
theorem dX12_mend_5 : decode cX12_mend 5 = .ok (.aload_n 0, 1) := by decide +kernel
theorem dX12_mend_6 : decode cX12_mend 6 = .ok (.iload_n 1, 1) := by decide +kernel
theorem dX12_mend_7 : decode cX12_mend 7 = .ok (.ifCond .lt 9, 3) := by decide +kernel
theorem dX12_mend_10 : decode cX12_mend 10 = .ok (.iload_n 1, 1) := by decide +kernel
theorem dX12_mend_11 : decode cX12_mend 11 = .ok (.bipush 20, 2) := by decide +kernel
theorem dX12_mend_13 : decode cX12_mend 13 = .ok (.if_icmp .le 7, 3) := by decide +kernel
theorem dX12_mend_16 : decode cX12_mend 16 = .ok (.iconst 1, 1) := by decide +kernel
theorem dX12_mend_17 : decode cX12_mend 17 = .ok (.goto 4, 3) := by decide +kernel
theorem dX12_mend_20 : decode cX12_mend 20 = .ok (.iconst 0, 1) := by decide +kernel
theorem dX12_mend_21 : decode cX12_mend 21 = .ok (.iconst 1, 1) := by decide +kernel
theorem dX12_mend_22 : decode cX12_mend 22 = .ok (.invokevirtual 308, 3) := by decide +kernel
theorem dX12_mend_25 : decode cX12_mend 25 = .ok (.ifCond .eq 5, 3) := by decide +kernel
theorem dX12_mend_28 : decode cX12_mend 28 = .ok (.iconst 0, 1) := by decide +kernel
theorem dX12_mend_29 : decode cX12_mend 29 = .ok (.ireturn, 1) := by decide +kernel
theorem dX12_mend_30 : decode cX12_mend 30 = .ok (.iconst 0, 1) := by decide +kernel
theorem dX12_mend_31 : decode cX12_mend 31 = .ok (.istore_n 2, 1) := by decide +kernel
theorem dX12_mend_32 : decode cX12_mend 32 = .ok (.iload_n 2, 1) := by decide +kernel
theorem dX12_mend_33 : decode cX12_mend 33 = .ok (.iload_n 1, 1) := by decide +kernel
theorem dX12_mend_34 : decode cX12_mend 34 = .ok (.if_icmp .ge 133, 3) := by decide +kernel
theorem dX12_mend_37 : decode cX12_mend 37 = .ok (.iconst (-1), 1) := by decide +kernel
theorem dX12_mend_38 : decode cX12_mend 38 = .ok (.istore_n 3, 1) := by decide +kernel
theorem dX12_mend_39 : decode cX12_mend 39 = .ok (.iconst 0, 1) := by decide +kernel
theorem dX12_mend_40 : decode cX12_mend 40 = .ok (.istore 4, 2) := by decide +kernel
theorem dX12_mend_42 : decode cX12_mend 42 = .ok (.iload 4, 2) := by decide +kernel
theorem dX12_mend_44 : decode cX12_mend 44 = .ok (.aload_n 0, 1) := by decide +kernel
theorem dX12_mend_45 : decode cX12_mend 45 = .ok (.getfield 318, 3) := by decide +kernel
theorem dX12_mend_48 : decode cX12_mend 48 = .ok (.if_icmp .ge 63, 3) := by decide +kernel
theorem dX12_mend_51 : decode cX12_mend 51 = .ok (.aload_n 0, 1) := by decide +kernel
theorem dX12_mend_52 : decode cX12_mend 52 = .ok (.getfield 66, 3) := by decide +kernel
theorem dX12_mend_55 : decode cX12_mend 55 = .ok (.iload 4, 2) := by decide +kernel
theorem dX12_mend_57 : decode cX12_mend 57 = .ok (.laload, 1) := by decide +kernel
theorem dX12_mend_58 : decode cX12_mend 58 = .ok (.lconst 0, 1) := by decide +kernel
theorem dX12_mend_59 : decode cX12_mend 59 = .ok (.lcmp, 1) := by decide +kernel
theorem dX12_mend_60 : decode cX12_mend 60 = .ok (.ifCond .ne 6, 3) := by decide +kernel
theorem dX12_mend_63 : decode cX12_mend 63 = .ok (.goto 42, 3) := by decide +kernel
theorem dX12_mend_66 : decode cX12_mend 66 = .ok (.iload_n 3, 1) := by decide +kernel
theorem dX12_mend_67 : decode cX12_mend 67 = .ok (.ifCond .lt 35, 3) := by decide +kernel
theorem dX12_mend_70 : decode cX12_mend 70 = .ok (.aload_n 0, 1) := by decide +kernel
theorem dX12_mend_71 : decode cX12_mend 71 = .ok (.iload 4, 2) := by decide +kernel
theorem dX12_mend_73 : decode cX12_mend 73 = .ok (.invokevirtual 399, 3) := by decide +kernel
theorem dX12_mend_76 : decode cX12_mend 76 = .ok (.aload_n 0, 1) := by decide +kernel
theorem dX12_mend_77 : decode cX12_mend 77 = .ok (.getfield 63, 3) := by decide +kernel
theorem dX12_mend_80 : decode cX12_mend 80 = .ok (.iload_n 3, 1) := by decide +kernel
theorem dX12_mend_81 : decode cX12_mend 81 = .ok (.iaload, 1) := by decide +kernel
theorem dX12_mend_82 : decode cX12_mend 82 = .ok (.i2l, 1) := by decide +kernel
theorem dX12_mend_83 : decode cX12_mend 83 = .ok (.lmul, 1) := by decide +kernel
theorem dX12_mend_84 : decode cX12_mend 84 = .ok (.aload_n 0, 1) := by decide +kernel
theorem dX12_mend_85 : decode cX12_mend 85 = .ok (.iload_n 3, 1) := by decide +kernel
theorem dX12_mend_86 : decode cX12_mend 86 = .ok (.invokevirtual 399, 3) := by decide +kernel
theorem dX12_mend_89 : decode cX12_mend 89 = .ok (.aload_n 0, 1) := by decide +kernel
theorem dX12_mend_90 : decode cX12_mend 90 = .ok (.getfield 63, 3) := by decide +kernel
theorem dX12_mend_93 : decode cX12_mend 93 = .ok (.iload 4, 2) := by decide +kernel
theorem dX12_mend_95 : decode cX12_mend 95 = .ok (.iaload, 1) := by decide +kernel
theorem dX12_mend_96 : decode cX12_mend 96 = .ok (.i2l, 1) := by decide +kernel
theorem dX12_mend_97 : decode cX12_mend 97 = .ok (.lmul, 1) := by decide +kernel
theorem dX12_mend_98 : decode cX12_mend 98 = .ok (.lcmp, 1) := by decide +kernel
theorem dX12_mend_99 : decode cX12_mend 99 = .ok (.ifCond .le 6, 3) := by decide +kernel
theorem dX12_mend_102 : decode cX12_mend 102 = .ok (.iload 4, 2) := by decide +kernel
theorem dX12_mend_104 : decode cX12_mend 104 = .ok (.istore_n 3, 1) := by decide +kernel
theorem dX12_mend_105 : decode cX12_mend 105 = .ok (.iinc 4 1, 3) := by decide +kernel
theorem dX12_mend_108 : decode cX12_mend 108 = .ok (.goto (-66), 3) := by decide +kernel
theorem dX12_mend_111 : decode cX12_mend 111 = .ok (.iload_n 3, 1) := by decide +kernel
theorem dX12_mend_112 : decode cX12_mend 112 = .ok (.ifCond .lt 18, 3) := by decide +kernel
theorem dX12_mend_115 : decode cX12_mend 115 = .ok (.aload_n 0, 1) := by decide +kernel
theorem dX12_mend_116 : decode cX12_mend 116 = .ok (.getfield 373, 3) := by decide +kernel
theorem dX12_mend_119 : decode cX12_mend 119 = .ok (.aload_n 0, 1) := by decide +kernel
theorem dX12_mend_120 : decode cX12_mend 120 = .ok (.getfield 63, 3) := by decide +kernel
theorem dX12_mend_123 : decode cX12_mend 123 = .ok (.iload_n 3, 1) := by decide +kernel
theorem dX12_mend_124 : decode cX12_mend 124 = .ok (.iaload, 1) := by decide +kernel
theorem dX12_mend_125 : decode cX12_mend 125 = .ok (.i2l, 1) := by decide +kernel
theorem dX12_mend_126 : decode cX12_mend 126 = .ok (.lcmp, 1) := by decide +kernel
theorem dX12_mend_127 : decode cX12_mend 127 = .ok (.ifCond .ge 5, 3) := by decide +kernel
theorem dX12_mend_130 : decode cX12_mend 130 = .ok (.iload_n 2, 1) := by decide +kernel
theorem dX12_mend_131 : decode cX12_mend 131 = .ok (.ireturn, 1) := by decide +kernel
theorem dX12_mend_132 : decode cX12_mend 132 = .ok (.aload_n 0, 1) := by decide +kernel
theorem dX12_mend_133 : decode cX12_mend 133 = .ok (.getfield 66, 3) := by decide +kernel
theorem dX12_mend_136 : decode cX12_mend 136 = .ok (.iload_n 3, 1) := by decide +kernel
theorem dX12_mend_137 : decode cX12_mend 137 = .ok (.dup2, 1) := by decide +kernel
theorem dX12_mend_138 : decode cX12_mend 138 = .ok (.laload, 1) := by decide +kernel
theorem dX12_mend_139 : decode cX12_mend 139 = .ok (.aload_n 0, 1) := by decide +kernel
theorem dX12_mend_140 : decode cX12_mend 140 = .ok (.iload_n 3, 1) := by decide +kernel
theorem dX12_mend_141 : decode cX12_mend 141 = .ok (.invokevirtual 399, 3) := by decide +kernel
theorem dX12_mend_144 : decode cX12_mend 144 = .ok (.lsub, 1) := by decide +kernel
theorem dX12_mend_145 : decode cX12_mend 145 = .ok (.lastore, 1) := by decide +kernel
theorem dX12_mend_146 : decode cX12_mend 146 = .ok (.aload_n 0, 1) := by decide +kernel
theorem dX12_mend_147 : decode cX12_mend 147 = .ok (.bipush 6, 2) := by decide +kernel
theorem dX12_mend_149 : decode cX12_mend 149 = .ok (.iload_n 3, 1) := by decide +kernel
theorem dX12_mend_150 : decode cX12_mend 150 = .ok (.aload_n 0, 1) := by decide +kernel
theorem dX12_mend_151 : decode cX12_mend 151 = .ok (.getfield 63, 3) := by decide +kernel
theorem dX12_mend_154 : decode cX12_mend 154 = .ok (.iload_n 3, 1) := by decide +kernel
theorem dX12_mend_155 : decode cX12_mend 155 = .ok (.iaload, 1) := by decide +kernel
theorem dX12_mend_156 : decode cX12_mend 156 = .ok (.ineg, 1) := by decide +kernel
theorem dX12_mend_157 : decode cX12_mend 157 = .ok (.i2l, 1) := by decide +kernel
theorem dX12_mend_158 : decode cX12_mend 158 = .ok (.invokevirtual 366, 3) := by decide +kernel
theorem dX12_mend_161 : decode cX12_mend 161 = .ok (.iinc 2 1, 3) := by decide +kernel
theorem dX12_mend_164 : decode cX12_mend 164 = .ok (.goto (-132), 3) := by decide +kernel
theorem dX12_mend_167 : decode cX12_mend 167 = .ok (.iload_n 1, 1) := by decide +kernel
theorem dX12_mend_168 : decode cX12_mend 168 = .ok (.ireturn, 1) := by decide +kernel
theorem dX12_takes_0 : decode cX12_takes 0 = .ok (.aload_n 0, 1) := by decide +kernel
theorem dX12_takes_1 : decode cX12_takes 1 = .ok (.getfield 66, 3) := by decide +kernel
theorem dX12_takes_4 : decode cX12_takes 4 = .ok (.iload_n 1, 1) := by decide +kernel
theorem dX12_takes_5 : decode cX12_takes 5 = .ok (.laload, 1) := by decide +kernel
theorem dX12_takes_6 : decode cX12_takes 6 = .ok (.ldc2_w 403, 3) := by decide +kernel
theorem dX12_takes_9 : decode cX12_takes 9 = .ok (.lcmp, 1) := by decide +kernel
theorem dX12_takes_10 : decode cX12_takes 10 = .ok (.ifCond .ge 12, 3) := by decide +kernel
theorem dX12_takes_13 : decode cX12_takes 13 = .ok (.aload_n 0, 1) := by decide +kernel
theorem dX12_takes_14 : decode cX12_takes 14 = .ok (.getfield 66, 3) := by decide +kernel
theorem dX12_takes_17 : decode cX12_takes 17 = .ok (.iload_n 1, 1) := by decide +kernel
theorem dX12_takes_18 : decode cX12_takes 18 = .ok (.laload, 1) := by decide +kernel
theorem dX12_takes_19 : decode cX12_takes 19 = .ok (.goto 6, 3) := by decide +kernel
theorem dX12_takes_22 : decode cX12_takes 22 = .ok (.ldc2_w 403, 3) := by decide +kernel
theorem dX12_takes_25 : decode cX12_takes 25 = .ok (.lreturn, 1) := by decide +kernel
theorem dX12_no_0 : decode cX12_no 0 = .ok (.aload_n 0, 1) := by decide +kernel
theorem dX12_no_1 : decode cX12_no 1 = .ok (.iload_n 1, 1) := by decide +kernel
theorem dX12_no_2 : decode cX12_no 2 = .ok (.ifCond .lt 8, 3) := by decide +kernel
theorem dX12_no_5 : decode cX12_no 5 = .ok (.iload_n 1, 1) := by decide +kernel
theorem dX12_no_6 : decode cX12_no 6 = .ok (.iload_n 2, 1) := by decide +kernel
theorem dX12_no_7 : decode cX12_no 7 = .ok (.if_icmp .lt 7, 3) := by decide +kernel
theorem dX12_no_10 : decode cX12_no 10 = .ok (.iconst 1, 1) := by decide +kernel
theorem dX12_no_11 : decode cX12_no 11 = .ok (.goto 4, 3) := by decide +kernel
theorem dX12_no_14 : decode cX12_no 14 = .ok (.iconst 0, 1) := by decide +kernel
theorem dX12_no_15 : decode cX12_no 15 = .ok (.putfield 146, 3) := by decide +kernel
theorem dX12_no_18 : decode cX12_no 18 = .ok (.aload_n 0, 1) := by decide +kernel
theorem dX12_no_19 : decode cX12_no 19 = .ok (.getfield 146, 3) := by decide +kernel
theorem dX12_no_22 : decode cX12_no 22 = .ok (.ifCond .le 7, 3) := by decide +kernel
theorem dX12_no_25 : decode cX12_no 25 = .ok (.iconst 1, 1) := by decide +kernel
theorem dX12_no_26 : decode cX12_no 26 = .ok (.goto 4, 3) := by decide +kernel
theorem dX12_no_29 : decode cX12_no 29 = .ok (.iconst 0, 1) := by decide +kernel
theorem dX12_no_30 : decode cX12_no 30 = .ok (.ireturn, 1) := by decide +kernel
theorem dX12_money_0 : decode cX12_money 0 = .ok (.aload_n 0, 1) := by decide +kernel
theorem dX12_money_1 : decode cX12_money 1 = .ok (.iload_n 1, 1) := by decide +kernel
theorem dX12_money_2 : decode cX12_money 2 = .ok (.aload_n 0, 1) := by decide +kernel
theorem dX12_money_3 : decode cX12_money 3 = .ok (.getfield 378, 3) := by decide +kernel
theorem dX12_money_6 : decode cX12_money 6 = .ok (.invokevirtual 405, 3) := by decide +kernel
theorem dX12_money_9 : decode cX12_money 9 = .ok (.ifCond .eq 7, 3) := by decide +kernel
theorem dX12_money_12 : decode cX12_money 12 = .ok (.lconst 0, 1) := by decide +kernel
theorem dX12_money_13 : decode cX12_money 13 = .ok (.goto 9, 3) := by decide +kernel
theorem dX12_money_16 : decode cX12_money 16 = .ok (.aload_n 0, 1) := by decide +kernel
theorem dX12_money_17 : decode cX12_money 17 = .ok (.getfield 98, 3) := by decide +kernel
theorem dX12_money_20 : decode cX12_money 20 = .ok (.iload_n 1, 1) := by decide +kernel
theorem dX12_money_21 : decode cX12_money 21 = .ok (.laload, 1) := by decide +kernel
theorem dX12_money_22 : decode cX12_money 22 = .ok (.lreturn, 1) := by decide +kernel
theorem dX12_wear_0 : decode cX12_wear 0 = .ok (.aload_n 0, 1) := by decide +kernel
theorem dX12_wear_1 : decode cX12_wear 1 = .ok (.iload_n 1, 1) := by decide +kernel
theorem dX12_wear_2 : decode cX12_wear 2 = .ok (.aload_n 0, 1) := by decide +kernel
theorem dX12_wear_3 : decode cX12_wear 3 = .ok (.getfield 318, 3) := by decide +kernel
theorem dX12_wear_6 : decode cX12_wear 6 = .ok (.invokevirtual 405, 3) := by decide +kernel
theorem dX12_wear_9 : decode cX12_wear 9 = .ok (.ifCond .eq 7, 3) := by decide +kernel
theorem dX12_wear_12 : decode cX12_wear 12 = .ok (.lconst 0, 1) := by decide +kernel
theorem dX12_wear_13 : decode cX12_wear 13 = .ok (.goto 9, 3) := by decide +kernel
theorem dX12_wear_16 : decode cX12_wear 16 = .ok (.aload_n 0, 1) := by decide +kernel
theorem dX12_wear_17 : decode cX12_wear 17 = .ok (.getfield 66, 3) := by decide +kernel
theorem dX12_wear_20 : decode cX12_wear 20 = .ok (.iload_n 1, 1) := by decide +kernel
theorem dX12_wear_21 : decode cX12_wear 21 = .ok (.laload, 1) := by decide +kernel
theorem dX12_wear_22 : decode cX12_wear 22 = .ok (.lreturn, 1) := by decide +kernel
theorem dX12_box_0 : decode cX12_box 0 = .ok (.aload_n 0, 1) := by decide +kernel
theorem dX12_box_1 : decode cX12_box 1 = .ok (.iconst 0, 1) := by decide +kernel
theorem dX12_box_2 : decode cX12_box 2 = .ok (.putfield 146, 3) := by decide +kernel
theorem dX12_box_5 : decode cX12_box 5 = .ok (.aload_n 0, 1) := by decide +kernel
theorem dX12_box_6 : decode cX12_box 6 = .ok (.iload_n 1, 1) := by decide +kernel
theorem dX12_box_7 : decode cX12_box 7 = .ok (.ifCond .lt 10, 3) := by decide +kernel
theorem dX12_box_10 : decode cX12_box 10 = .ok (.iload_n 1, 1) := by decide +kernel
theorem dX12_box_11 : decode cX12_box 11 = .ok (.sipush 9999, 3) := by decide +kernel
theorem dX12_box_14 : decode cX12_box 14 = .ok (.if_icmp .le 7, 3) := by decide +kernel
theorem dX12_box_17 : decode cX12_box 17 = .ok (.iconst 1, 1) := by decide +kernel
theorem dX12_box_18 : decode cX12_box 18 = .ok (.goto 4, 3) := by decide +kernel
theorem dX12_box_21 : decode cX12_box 21 = .ok (.iconst 0, 1) := by decide +kernel
theorem dX12_box_22 : decode cX12_box 22 = .ok (.iconst 1, 1) := by decide +kernel
theorem dX12_box_23 : decode cX12_box 23 = .ok (.invokevirtual 308, 3) := by decide +kernel
theorem dX12_box_26 : decode cX12_box 26 = .ok (.ifCond .eq 5, 3) := by decide +kernel
theorem dX12_box_29 : decode cX12_box 29 = .ok (.lconst 0, 1) := by decide +kernel
theorem dX12_box_30 : decode cX12_box 30 = .ok (.lreturn, 1) := by decide +kernel
theorem dX12_box_31 : decode cX12_box 31 = .ok (.lconst 0, 1) := by decide +kernel
theorem dX12_box_32 : decode cX12_box 32 = .ok (.lstore_n 2, 1) := by decide +kernel
theorem dX12_box_33 : decode cX12_box 33 = .ok (.iconst 0, 1) := by decide +kernel
theorem dX12_box_34 : decode cX12_box 34 = .ok (.istore 4, 2) := by decide +kernel
theorem dX12_box_36 : decode cX12_box 36 = .ok (.iload 4, 2) := by decide +kernel
theorem dX12_box_38 : decode cX12_box 38 = .ok (.aload_n 0, 1) := by decide +kernel
theorem dX12_box_39 : decode cX12_box 39 = .ok (.getfield 370, 3) := by decide +kernel
theorem dX12_box_42 : decode cX12_box 42 = .ok (.if_icmp .ge 35, 3) := by decide +kernel
theorem dX12_box_45 : decode cX12_box 45 = .ok (.lload_n 2, 1) := by decide +kernel
theorem dX12_box_46 : decode cX12_box 46 = .ok (.aload_n 0, 1) := by decide +kernel
theorem dX12_box_47 : decode cX12_box 47 = .ok (.getfield 86, 3) := by decide +kernel
theorem dX12_box_50 : decode cX12_box 50 = .ok (.iload 4, 2) := by decide +kernel
theorem dX12_box_52 : decode cX12_box 52 = .ok (.iaload, 1) := by decide +kernel
theorem dX12_box_53 : decode cX12_box 53 = .ok (.iload_n 1, 1) := by decide +kernel
theorem dX12_box_54 : decode cX12_box 54 = .ok (.if_icmp .gt 14, 3) := by decide +kernel
theorem dX12_box_57 : decode cX12_box 57 = .ok (.aload_n 0, 1) := by decide +kernel
theorem dX12_box_58 : decode cX12_box 58 = .ok (.getfield 95, 3) := by decide +kernel
theorem dX12_box_61 : decode cX12_box 61 = .ok (.iload 4, 2) := by decide +kernel
theorem dX12_box_63 : decode cX12_box 63 = .ok (.iaload, 1) := by decide +kernel
theorem dX12_box_64 : decode cX12_box 64 = .ok (.i2l, 1) := by decide +kernel
theorem dX12_box_65 : decode cX12_box 65 = .ok (.goto 4, 3) := by decide +kernel
theorem dX12_box_68 : decode cX12_box 68 = .ok (.lconst 0, 1) := by decide +kernel
theorem dX12_box_69 : decode cX12_box 69 = .ok (.ladd, 1) := by decide +kernel
theorem dX12_box_70 : decode cX12_box 70 = .ok (.lstore_n 2, 1) := by decide +kernel
theorem dX12_box_71 : decode cX12_box 71 = .ok (.iinc 4 1, 3) := by decide +kernel
theorem dX12_box_74 : decode cX12_box 74 = .ok (.goto (-38), 3) := by decide +kernel
theorem dX12_box_77 : decode cX12_box 77 = .ok (.lload_n 2, 1) := by decide +kernel
theorem dX12_box_78 : decode cX12_box 78 = .ok (.lreturn, 1) := by decide +kernel
theorem dX12_journal_0 : decode cX12_journal 0 = .ok (.aload_n 0, 1) := by decide +kernel
theorem dX12_journal_1 : decode cX12_journal 1 = .ok (.iload_n 1, 1) := by decide +kernel
theorem dX12_journal_2 : decode cX12_journal 2 = .ok (.aload_n 0, 1) := by decide +kernel
theorem dX12_journal_3 : decode cX12_journal 3 = .ok (.getfield 370, 3) := by decide +kernel
theorem dX12_journal_6 : decode cX12_journal 6 = .ok (.invokevirtual 405, 3) := by decide +kernel
theorem dX12_journal_9 : decode cX12_journal 9 = .ok (.ifCond .ne 25, 3) := by decide +kernel
theorem dX12_journal_12 : decode cX12_journal 12 = .ok (.aload_n 0, 1) := by decide +kernel
theorem dX12_journal_13 : decode cX12_journal 13 = .ok (.iload_n 2, 1) := by decide +kernel
theorem dX12_journal_14 : decode cX12_journal 14 = .ok (.ifCond .lt 8, 3) := by decide +kernel
theorem dX12_journal_17 : decode cX12_journal 17 = .ok (.iload_n 2, 1) := by decide +kernel
theorem dX12_journal_18 : decode cX12_journal 18 = .ok (.iconst 3, 1) := by decide +kernel
theorem dX12_journal_19 : decode cX12_journal 19 = .ok (.if_icmp .le 7, 3) := by decide +kernel
theorem dX12_journal_22 : decode cX12_journal 22 = .ok (.iconst 1, 1) := by decide +kernel
theorem dX12_journal_23 : decode cX12_journal 23 = .ok (.goto 4, 3) := by decide +kernel
theorem dX12_journal_26 : decode cX12_journal 26 = .ok (.iconst 0, 1) := by decide +kernel
theorem dX12_journal_27 : decode cX12_journal 27 = .ok (.iconst 2, 1) := by decide +kernel
theorem dX12_journal_28 : decode cX12_journal 28 = .ok (.invokevirtual 308, 3) := by decide +kernel
theorem dX12_journal_31 : decode cX12_journal 31 = .ok (.ifCond .eq 5, 3) := by decide +kernel
theorem dX12_journal_34 : decode cX12_journal 34 = .ok (.lconst 0, 1) := by decide +kernel
theorem dX12_journal_35 : decode cX12_journal 35 = .ok (.lreturn, 1) := by decide +kernel
theorem dX12_journal_36 : decode cX12_journal 36 = .ok (.iload_n 2, 1) := by decide +kernel
theorem dX12_journal_37 : decode cX12_journal 37 = .ok (.ifCond .ne 13, 3) := by decide +kernel
theorem dX12_journal_40 : decode cX12_journal 40 = .ok (.aload_n 0, 1) := by decide +kernel
theorem dX12_journal_41 : decode cX12_journal 41 = .ok (.getfield 86, 3) := by decide +kernel
theorem dX12_journal_44 : decode cX12_journal 44 = .ok (.iload_n 1, 1) := by decide +kernel
theorem dX12_journal_45 : decode cX12_journal 45 = .ok (.iaload, 1) := by decide +kernel
theorem dX12_journal_46 : decode cX12_journal 46 = .ok (.i2l, 1) := by decide +kernel
theorem dX12_journal_47 : decode cX12_journal 47 = .ok (.goto 40, 3) := by decide +kernel
theorem dX12_journal_50 : decode cX12_journal 50 = .ok (.iload_n 2, 1) := by decide +kernel
theorem dX12_journal_51 : decode cX12_journal 51 = .ok (.iconst 1, 1) := by decide +kernel
theorem dX12_journal_52 : decode cX12_journal 52 = .ok (.if_icmp .ne 13, 3) := by decide +kernel
theorem dX12_journal_55 : decode cX12_journal 55 = .ok (.aload_n 0, 1) := by decide +kernel
theorem dX12_journal_56 : decode cX12_journal 56 = .ok (.getfield 89, 3) := by decide +kernel
theorem dX12_journal_59 : decode cX12_journal 59 = .ok (.iload_n 1, 1) := by decide +kernel
theorem dX12_journal_60 : decode cX12_journal 60 = .ok (.iaload, 1) := by decide +kernel
theorem dX12_journal_61 : decode cX12_journal 61 = .ok (.i2l, 1) := by decide +kernel
theorem dX12_journal_62 : decode cX12_journal 62 = .ok (.goto 25, 3) := by decide +kernel
theorem dX12_journal_65 : decode cX12_journal 65 = .ok (.iload_n 2, 1) := by decide +kernel
theorem dX12_journal_66 : decode cX12_journal 66 = .ok (.iconst 2, 1) := by decide +kernel
theorem dX12_journal_67 : decode cX12_journal 67 = .ok (.if_icmp .ne 13, 3) := by decide +kernel
theorem dX12_journal_70 : decode cX12_journal 70 = .ok (.aload_n 0, 1) := by decide +kernel
theorem dX12_journal_71 : decode cX12_journal 71 = .ok (.getfield 92, 3) := by decide +kernel
theorem dX12_journal_74 : decode cX12_journal 74 = .ok (.iload_n 1, 1) := by decide +kernel
theorem dX12_journal_75 : decode cX12_journal 75 = .ok (.iaload, 1) := by decide +kernel
theorem dX12_journal_76 : decode cX12_journal 76 = .ok (.i2l, 1) := by decide +kernel
theorem dX12_journal_77 : decode cX12_journal 77 = .ok (.goto 10, 3) := by decide +kernel
theorem dX12_journal_80 : decode cX12_journal 80 = .ok (.aload_n 0, 1) := by decide +kernel
theorem dX12_journal_81 : decode cX12_journal 81 = .ok (.getfield 95, 3) := by decide +kernel
theorem dX12_journal_84 : decode cX12_journal 84 = .ok (.iload_n 1, 1) := by decide +kernel
theorem dX12_journal_85 : decode cX12_journal 85 = .ok (.iaload, 1) := by decide +kernel
theorem dX12_journal_86 : decode cX12_journal 86 = .ok (.i2l, 1) := by decide +kernel
theorem dX12_journal_87 : decode cX12_journal 87 = .ok (.lreturn, 1) := by decide +kernel
theorem dX12_count_0 : decode cX12_count 0 = .ok (.aload_n 0, 1) := by decide +kernel
theorem dX12_count_1 : decode cX12_count 1 = .ok (.iconst 0, 1) := by decide +kernel
theorem dX12_count_2 : decode cX12_count 2 = .ok (.putfield 146, 3) := by decide +kernel
theorem dX12_count_5 : decode cX12_count 5 = .ok (.iload_n 1, 1) := by decide +kernel
theorem dX12_count_6 : decode cX12_count 6 = .ok (.tableswitch 104 0 9 #[54, 59, 64, 69, 74, 79, 84, 89, 94, 99], 54) := by decide +kernel
theorem dX12_count_60 : decode cX12_count 60 = .ok (.aload_n 0, 1) := by decide +kernel
theorem dX12_count_61 : decode cX12_count 61 = .ok (.getfield 331, 3) := by decide +kernel
theorem dX12_count_64 : decode cX12_count 64 = .ok (.ireturn, 1) := by decide +kernel
theorem dX12_count_65 : decode cX12_count 65 = .ok (.aload_n 0, 1) := by decide +kernel
theorem dX12_count_66 : decode cX12_count 66 = .ok (.getfield 289, 3) := by decide +kernel
theorem dX12_count_69 : decode cX12_count 69 = .ok (.ireturn, 1) := by decide +kernel
theorem dX12_count_70 : decode cX12_count 70 = .ok (.aload_n 0, 1) := by decide +kernel
theorem dX12_count_71 : decode cX12_count 71 = .ok (.getfield 318, 3) := by decide +kernel
theorem dX12_count_74 : decode cX12_count 74 = .ok (.ireturn, 1) := by decide +kernel
theorem dX12_count_75 : decode cX12_count 75 = .ok (.aload_n 0, 1) := by decide +kernel
theorem dX12_count_76 : decode cX12_count 76 = .ok (.getfield 321, 3) := by decide +kernel
theorem dX12_count_79 : decode cX12_count 79 = .ok (.ireturn, 1) := by decide +kernel
theorem dX12_count_80 : decode cX12_count 80 = .ok (.aload_n 0, 1) := by decide +kernel
theorem dX12_count_81 : decode cX12_count 81 = .ok (.getfield 324, 3) := by decide +kernel
theorem dX12_count_84 : decode cX12_count 84 = .ok (.ireturn, 1) := by decide +kernel
theorem dX12_count_85 : decode cX12_count 85 = .ok (.aload_n 0, 1) := by decide +kernel
theorem dX12_count_86 : decode cX12_count 86 = .ok (.getfield 378, 3) := by decide +kernel
theorem dX12_count_89 : decode cX12_count 89 = .ok (.ireturn, 1) := by decide +kernel
theorem dX12_count_90 : decode cX12_count 90 = .ok (.aload_n 0, 1) := by decide +kernel
theorem dX12_count_91 : decode cX12_count 91 = .ok (.getfield 388, 3) := by decide +kernel
theorem dX12_count_94 : decode cX12_count 94 = .ok (.ireturn, 1) := by decide +kernel
theorem dX12_count_95 : decode cX12_count 95 = .ok (.aload_n 0, 1) := by decide +kernel
theorem dX12_count_96 : decode cX12_count 96 = .ok (.getfield 370, 3) := by decide +kernel
theorem dX12_count_99 : decode cX12_count 99 = .ok (.ireturn, 1) := by decide +kernel
theorem dX12_count_100 : decode cX12_count 100 = .ok (.aload_n 0, 1) := by decide +kernel
theorem dX12_count_101 : decode cX12_count 101 = .ok (.getfield 149, 3) := by decide +kernel
theorem dX12_count_104 : decode cX12_count 104 = .ok (.ireturn, 1) := by decide +kernel
theorem dX12_count_105 : decode cX12_count 105 = .ok (.aload_n 0, 1) := by decide +kernel
theorem dX12_count_106 : decode cX12_count 106 = .ok (.getfield 363, 3) := by decide +kernel
theorem dX12_count_109 : decode cX12_count 109 = .ok (.ireturn, 1) := by decide +kernel
theorem dX12_count_110 : decode cX12_count 110 = .ok (.iconst (-1), 1) := by decide +kernel
theorem dX12_count_111 : decode cX12_count 111 = .ok (.ireturn, 1) := by decide +kernel
theorem dJ11_isValidCodePoint_9a6ad_0 : decode cJ11_isValidCodePoint_9a6ad 0 = .ok (.iload_n 0, 1) := by decide +kernel
theorem dJ11_isValidCodePoint_9a6ad_1 : decode cJ11_isValidCodePoint_9a6ad 1 = .ok (.bipush 16, 2) := by decide +kernel
theorem dJ11_isValidCodePoint_9a6ad_3 : decode cJ11_isValidCodePoint_9a6ad 3 = .ok (.iushr, 1) := by decide +kernel
theorem dJ11_isValidCodePoint_9a6ad_4 : decode cJ11_isValidCodePoint_9a6ad 4 = .ok (.istore_n 1, 1) := by decide +kernel
theorem dJ11_isValidCodePoint_9a6ad_5 : decode cJ11_isValidCodePoint_9a6ad 5 = .ok (.iload_n 1, 1) := by decide +kernel
theorem dJ11_isValidCodePoint_9a6ad_6 : decode cJ11_isValidCodePoint_9a6ad 6 = .ok (.bipush 17, 2) := by decide +kernel
theorem dJ11_isValidCodePoint_9a6ad_8 : decode cJ11_isValidCodePoint_9a6ad 8 = .ok (.if_icmp .ge 7, 3) := by decide +kernel
theorem dJ11_isValidCodePoint_9a6ad_11 : decode cJ11_isValidCodePoint_9a6ad 11 = .ok (.iconst 1, 1) := by decide +kernel
theorem dJ11_isValidCodePoint_9a6ad_12 : decode cJ11_isValidCodePoint_9a6ad 12 = .ok (.goto 4, 3) := by decide +kernel
theorem dJ11_isValidCodePoint_9a6ad_15 : decode cJ11_isValidCodePoint_9a6ad 15 = .ok (.iconst 0, 1) := by decide +kernel
theorem dJ11_isValidCodePoint_9a6ad_16 : decode cJ11_isValidCodePoint_9a6ad 16 = .ok (.ireturn, 1) := by decide +kernel
theorem dJ11_highSurrogate_5068e_0 : decode cJ11_highSurrogate_5068e 0 = .ok (.iload_n 0, 1) := by decide +kernel
theorem dJ11_highSurrogate_5068e_1 : decode cJ11_highSurrogate_5068e 1 = .ok (.bipush 10, 2) := by decide +kernel
theorem dJ11_highSurrogate_5068e_3 : decode cJ11_highSurrogate_5068e 3 = .ok (.iushr, 1) := by decide +kernel
theorem dJ11_highSurrogate_5068e_4 : decode cJ11_highSurrogate_5068e 4 = .ok (.ldc 110, 2) := by decide +kernel
theorem dJ11_highSurrogate_5068e_6 : decode cJ11_highSurrogate_5068e 6 = .ok (.iadd, 1) := by decide +kernel
theorem dJ11_highSurrogate_5068e_7 : decode cJ11_highSurrogate_5068e 7 = .ok (.i2c, 1) := by decide +kernel
theorem dJ11_highSurrogate_5068e_8 : decode cJ11_highSurrogate_5068e 8 = .ok (.ireturn, 1) := by decide +kernel
theorem dJ11_lowSurrogate_5068e_0 : decode cJ11_lowSurrogate_5068e 0 = .ok (.iload_n 0, 1) := by decide +kernel
theorem dJ11_lowSurrogate_5068e_1 : decode cJ11_lowSurrogate_5068e 1 = .ok (.sipush 1023, 3) := by decide +kernel
theorem dJ11_lowSurrogate_5068e_4 : decode cJ11_lowSurrogate_5068e 4 = .ok (.iand, 1) := by decide +kernel
theorem dJ11_lowSurrogate_5068e_5 : decode cJ11_lowSurrogate_5068e 5 = .ok (.ldc 76, 2) := by decide +kernel
theorem dJ11_lowSurrogate_5068e_7 : decode cJ11_lowSurrogate_5068e 7 = .ok (.iadd, 1) := by decide +kernel
theorem dJ11_lowSurrogate_5068e_8 : decode cJ11_lowSurrogate_5068e 8 = .ok (.i2c, 1) := by decide +kernel
theorem dJ11_lowSurrogate_5068e_9 : decode cJ11_lowSurrogate_5068e 9 = .ok (.ireturn, 1) := by decide +kernel
theorem dJ9_max_7cf53_0 : decode cJ9_max_7cf53 0 = .ok (.iload_n 0, 1) := by decide +kernel
theorem dJ9_max_7cf53_1 : decode cJ9_max_7cf53 1 = .ok (.iload_n 1, 1) := by decide +kernel
theorem dJ9_max_7cf53_2 : decode cJ9_max_7cf53 2 = .ok (.if_icmp .lt 7, 3) := by decide +kernel
theorem dJ9_max_7cf53_5 : decode cJ9_max_7cf53 5 = .ok (.iload_n 0, 1) := by decide +kernel
theorem dJ9_max_7cf53_6 : decode cJ9_max_7cf53 6 = .ok (.goto 4, 3) := by decide +kernel
theorem dJ9_max_7cf53_9 : decode cJ9_max_7cf53 9 = .ok (.iload_n 1, 1) := by decide +kernel
theorem dJ9_max_7cf53_10 : decode cJ9_max_7cf53 10 = .ok (.ireturn, 1) := by decide +kernel
theorem dJ9_min_7cf53_0 : decode cJ9_min_7cf53 0 = .ok (.iload_n 0, 1) := by decide +kernel
theorem dJ9_min_7cf53_1 : decode cJ9_min_7cf53 1 = .ok (.iload_n 1, 1) := by decide +kernel
theorem dJ9_min_7cf53_2 : decode cJ9_min_7cf53 2 = .ok (.if_icmp .gt 7, 3) := by decide +kernel
theorem dJ9_min_7cf53_5 : decode cJ9_min_7cf53 5 = .ok (.iload_n 0, 1) := by decide +kernel
theorem dJ9_min_7cf53_6 : decode cJ9_min_7cf53 6 = .ok (.goto 4, 3) := by decide +kernel
theorem dJ9_min_7cf53_9 : decode cJ9_min_7cf53 9 = .ok (.iload_n 1, 1) := by decide +kernel
theorem dJ9_min_7cf53_10 : decode cJ9_min_7cf53 10 = .ok (.ireturn, 1) := by decide +kernel
theorem dJ9_min_f86c9_0 : decode cJ9_min_f86c9 0 = .ok (.lload_n 0, 1) := by decide +kernel
theorem dJ9_min_f86c9_1 : decode cJ9_min_f86c9 1 = .ok (.lload_n 2, 1) := by decide +kernel
theorem dJ9_min_f86c9_2 : decode cJ9_min_f86c9 2 = .ok (.lcmp, 1) := by decide +kernel
theorem dJ9_min_f86c9_3 : decode cJ9_min_f86c9 3 = .ok (.ifCond .gt 7, 3) := by decide +kernel
theorem dJ9_min_f86c9_6 : decode cJ9_min_f86c9 6 = .ok (.lload_n 0, 1) := by decide +kernel
theorem dJ9_min_f86c9_7 : decode cJ9_min_f86c9 7 = .ok (.goto 4, 3) := by decide +kernel
theorem dJ9_min_f86c9_10 : decode cJ9_min_f86c9 10 = .ok (.lload_n 2, 1) := by decide +kernel
theorem dJ9_min_f86c9_11 : decode cJ9_min_f86c9 11 = .ok (.lreturn, 1) := by decide +kernel
theorem dJ0_length_8abf5_0 : decode cJ0_length_8abf5 0 = .ok (.aload_n 0, 1) := by decide +kernel
theorem dJ0_length_8abf5_1 : decode cJ0_length_8abf5 1 = .ok (.getfield 9, 3) := by decide +kernel
theorem dJ0_length_8abf5_4 : decode cJ0_length_8abf5 4 = .ok (.arraylength, 1) := by decide +kernel
theorem dJ0_length_8abf5_5 : decode cJ0_length_8abf5 5 = .ok (.aload_n 0, 1) := by decide +kernel
theorem dJ0_length_8abf5_6 : decode cJ0_length_8abf5 6 = .ok (.invokevirtual 335, 3) := by decide +kernel
theorem dJ0_length_8abf5_9 : decode cJ0_length_8abf5 9 = .ok (.ishr, 1) := by decide +kernel
theorem dJ0_length_8abf5_10 : decode cJ0_length_8abf5 10 = .ok (.ireturn, 1) := by decide +kernel
theorem dJ0_charAt_5068e_0 : decode cJ0_charAt_5068e 0 = .ok (.aload_n 0, 1) := by decide +kernel
theorem dJ0_charAt_5068e_1 : decode cJ0_charAt_5068e 1 = .ok (.invokevirtual 492, 3) := by decide +kernel
theorem dJ0_charAt_5068e_4 : decode cJ0_charAt_5068e 4 = .ok (.ifCond .eq 12, 3) := by decide +kernel
theorem dJ0_charAt_5068e_7 : decode cJ0_charAt_5068e 7 = .ok (.aload_n 0, 1) := by decide +kernel
theorem dJ0_charAt_5068e_8 : decode cJ0_charAt_5068e 8 = .ok (.getfield 9, 3) := by decide +kernel
theorem dJ0_charAt_5068e_11 : decode cJ0_charAt_5068e 11 = .ok (.iload_n 1, 1) := by decide +kernel
theorem dJ0_charAt_5068e_12 : decode cJ0_charAt_5068e 12 = .ok (.invokestatic 495, 3) := by decide +kernel
theorem dJ0_charAt_5068e_15 : decode cJ0_charAt_5068e 15 = .ok (.ireturn, 1) := by decide +kernel
theorem dJ0_charAt_5068e_16 : decode cJ0_charAt_5068e 16 = .ok (.aload_n 0, 1) := by decide +kernel
theorem dJ0_charAt_5068e_17 : decode cJ0_charAt_5068e 17 = .ok (.getfield 9, 3) := by decide +kernel
theorem dJ0_charAt_5068e_20 : decode cJ0_charAt_5068e 20 = .ok (.iload_n 1, 1) := by decide +kernel
theorem dJ0_charAt_5068e_21 : decode cJ0_charAt_5068e 21 = .ok (.invokestatic 498, 3) := by decide +kernel
theorem dJ0_charAt_5068e_24 : decode cJ0_charAt_5068e 24 = .ok (.ireturn, 1) := by decide +kernel
theorem dJ0_indexOf_0f7a4_0 : decode cJ0_indexOf_0f7a4 0 = .ok (.aload_n 0, 1) := by decide +kernel
theorem dJ0_indexOf_0f7a4_1 : decode cJ0_indexOf_0f7a4 1 = .ok (.iload_n 1, 1) := by decide +kernel
theorem dJ0_indexOf_0f7a4_2 : decode cJ0_indexOf_0f7a4 2 = .ok (.iconst 0, 1) := by decide +kernel
theorem dJ0_indexOf_0f7a4_3 : decode cJ0_indexOf_0f7a4 3 = .ok (.invokevirtual 633, 3) := by decide +kernel
theorem dJ0_indexOf_0f7a4_6 : decode cJ0_indexOf_0f7a4 6 = .ok (.ireturn, 1) := by decide +kernel
theorem dJ0_indexOf_7cf53_0 : decode cJ0_indexOf_7cf53 0 = .ok (.aload_n 0, 1) := by decide +kernel
theorem dJ0_indexOf_7cf53_1 : decode cJ0_indexOf_7cf53 1 = .ok (.invokevirtual 492, 3) := by decide +kernel
theorem dJ0_indexOf_7cf53_4 : decode cJ0_indexOf_7cf53 4 = .ok (.ifCond .eq 19, 3) := by decide +kernel
theorem dJ0_indexOf_7cf53_7 : decode cJ0_indexOf_7cf53 7 = .ok (.aload_n 0, 1) := by decide +kernel
theorem dJ0_indexOf_7cf53_8 : decode cJ0_indexOf_7cf53 8 = .ok (.getfield 9, 3) := by decide +kernel
theorem dJ0_indexOf_7cf53_11 : decode cJ0_indexOf_7cf53 11 = .ok (.iload_n 1, 1) := by decide +kernel
theorem dJ0_indexOf_7cf53_12 : decode cJ0_indexOf_7cf53 12 = .ok (.iload_n 2, 1) := by decide +kernel
theorem dJ0_indexOf_7cf53_13 : decode cJ0_indexOf_7cf53 13 = .ok (.aload_n 0, 1) := by decide +kernel
theorem dJ0_indexOf_7cf53_14 : decode cJ0_indexOf_7cf53 14 = .ok (.invokevirtual 505, 3) := by decide +kernel
theorem dJ0_indexOf_7cf53_17 : decode cJ0_indexOf_7cf53 17 = .ok (.invokestatic 637, 3) := by decide +kernel
theorem dJ0_indexOf_7cf53_20 : decode cJ0_indexOf_7cf53 20 = .ok (.goto 16, 3) := by decide +kernel
theorem dJ0_indexOf_7cf53_23 : decode cJ0_indexOf_7cf53 23 = .ok (.aload_n 0, 1) := by decide +kernel
theorem dJ0_indexOf_7cf53_24 : decode cJ0_indexOf_7cf53 24 = .ok (.getfield 9, 3) := by decide +kernel
theorem dJ0_indexOf_7cf53_27 : decode cJ0_indexOf_7cf53 27 = .ok (.iload_n 1, 1) := by decide +kernel
theorem dJ0_indexOf_7cf53_28 : decode cJ0_indexOf_7cf53 28 = .ok (.iload_n 2, 1) := by decide +kernel
theorem dJ0_indexOf_7cf53_29 : decode cJ0_indexOf_7cf53 29 = .ok (.aload_n 0, 1) := by decide +kernel
theorem dJ0_indexOf_7cf53_30 : decode cJ0_indexOf_7cf53 30 = .ok (.invokevirtual 505, 3) := by decide +kernel
theorem dJ0_indexOf_7cf53_33 : decode cJ0_indexOf_7cf53 33 = .ok (.invokestatic 640, 3) := by decide +kernel
theorem dJ0_indexOf_7cf53_36 : decode cJ0_indexOf_7cf53 36 = .ok (.ireturn, 1) := by decide +kernel
theorem dJ0_coder_7d493_0 : decode cJ0_coder_7d493 0 = .ok (.getstatic 38, 3) := by decide +kernel
theorem dJ0_coder_7d493_3 : decode cJ0_coder_7d493 3 = .ok (.ifCond .eq 10, 3) := by decide +kernel
theorem dJ0_coder_7d493_6 : decode cJ0_coder_7d493 6 = .ok (.aload_n 0, 1) := by decide +kernel
theorem dJ0_coder_7d493_7 : decode cJ0_coder_7d493 7 = .ok (.getfield 15, 3) := by decide +kernel
theorem dJ0_coder_7d493_10 : decode cJ0_coder_7d493 10 = .ok (.goto 4, 3) := by decide +kernel
theorem dJ0_coder_7d493_13 : decode cJ0_coder_7d493 13 = .ok (.iconst 1, 1) := by decide +kernel
theorem dJ0_coder_7d493_14 : decode cJ0_coder_7d493 14 = .ok (.ireturn, 1) := by decide +kernel
theorem dJ0_isLatin1_aae02_0 : decode cJ0_isLatin1_aae02 0 = .ok (.getstatic 38, 3) := by decide +kernel
theorem dJ0_isLatin1_aae02_3 : decode cJ0_isLatin1_aae02 3 = .ok (.ifCond .eq 14, 3) := by decide +kernel
theorem dJ0_isLatin1_aae02_6 : decode cJ0_isLatin1_aae02 6 = .ok (.aload_n 0, 1) := by decide +kernel
theorem dJ0_isLatin1_aae02_7 : decode cJ0_isLatin1_aae02 7 = .ok (.getfield 15, 3) := by decide +kernel
theorem dJ0_isLatin1_aae02_10 : decode cJ0_isLatin1_aae02 10 = .ok (.ifCond .ne 7, 3) := by decide +kernel
theorem dJ0_isLatin1_aae02_13 : decode cJ0_isLatin1_aae02 13 = .ok (.iconst 1, 1) := by decide +kernel
theorem dJ0_isLatin1_aae02_14 : decode cJ0_isLatin1_aae02 14 = .ok (.goto 4, 3) := by decide +kernel
theorem dJ0_isLatin1_aae02_17 : decode cJ0_isLatin1_aae02 17 = .ok (.iconst 0, 1) := by decide +kernel
theorem dJ0_isLatin1_aae02_18 : decode cJ0_isLatin1_aae02 18 = .ok (.ireturn, 1) := by decide +kernel
theorem dJ0_checkIndex_df160_0 : decode cJ0_checkIndex_df160 0 = .ok (.iload_n 0, 1) := by decide +kernel
theorem dJ0_checkIndex_df160_1 : decode cJ0_checkIndex_df160 1 = .ok (.iload_n 1, 1) := by decide +kernel
theorem dJ0_checkIndex_df160_2 : decode cJ0_checkIndex_df160 2 = .ok (.getstatic 1053, 3) := by decide +kernel
theorem dJ0_checkIndex_df160_5 : decode cJ0_checkIndex_df160 5 = .ok (.invokestatic 1059, 3) := by decide +kernel
theorem dJ0_checkIndex_df160_8 : decode cJ0_checkIndex_df160 8 = .ok (.pop, 1) := by decide +kernel
theorem dJ0_checkIndex_df160_9 : decode cJ0_checkIndex_df160 9 = .ok (.return_, 1) := by decide +kernel
theorem dJ0_checkBoundsBeginEnd_23922_0 : decode cJ0_checkBoundsBeginEnd_23922 0 = .ok (.iload_n 0, 1) := by decide +kernel
theorem dJ0_checkBoundsBeginEnd_23922_1 : decode cJ0_checkBoundsBeginEnd_23922 1 = .ok (.iload_n 1, 1) := by decide +kernel
theorem dJ0_checkBoundsBeginEnd_23922_2 : decode cJ0_checkBoundsBeginEnd_23922 2 = .ok (.iload_n 2, 1) := by decide +kernel
theorem dJ0_checkBoundsBeginEnd_23922_3 : decode cJ0_checkBoundsBeginEnd_23922 3 = .ok (.getstatic 1053, 3) := by decide +kernel
theorem dJ0_checkBoundsBeginEnd_23922_6 : decode cJ0_checkBoundsBeginEnd_23922 6 = .ok (.invokestatic 1062, 3) := by decide +kernel
theorem dJ0_checkBoundsBeginEnd_23922_9 : decode cJ0_checkBoundsBeginEnd_23922 9 = .ok (.pop, 1) := by decide +kernel
theorem dJ0_checkBoundsBeginEnd_23922_10 : decode cJ0_checkBoundsBeginEnd_23922 10 = .ok (.return_, 1) := by decide +kernel
theorem dJ1_charAt_3b067_0 : decode cJ1_charAt_3b067 0 = .ok (.iload_n 1, 1) := by decide +kernel
theorem dJ1_charAt_3b067_1 : decode cJ1_charAt_3b067 1 = .ok (.aload_n 0, 1) := by decide +kernel
theorem dJ1_charAt_3b067_2 : decode cJ1_charAt_3b067 2 = .ok (.arraylength, 1) := by decide +kernel
theorem dJ1_charAt_3b067_3 : decode cJ1_charAt_3b067 3 = .ok (.invokestatic 9, 3) := by decide +kernel
theorem dJ1_charAt_3b067_6 : decode cJ1_charAt_3b067 6 = .ok (.aload_n 0, 1) := by decide +kernel
theorem dJ1_charAt_3b067_7 : decode cJ1_charAt_3b067 7 = .ok (.iload_n 1, 1) := by decide +kernel
theorem dJ1_charAt_3b067_8 : decode cJ1_charAt_3b067 8 = .ok (.baload, 1) := by decide +kernel
theorem dJ1_charAt_3b067_9 : decode cJ1_charAt_3b067 9 = .ok (.sipush 255, 3) := by decide +kernel
theorem dJ1_charAt_3b067_12 : decode cJ1_charAt_3b067 12 = .ok (.iand, 1) := by decide +kernel
theorem dJ1_charAt_3b067_13 : decode cJ1_charAt_3b067 13 = .ok (.i2c, 1) := by decide +kernel
theorem dJ1_charAt_3b067_14 : decode cJ1_charAt_3b067 14 = .ok (.ireturn, 1) := by decide +kernel
theorem dJ1_canEncode_9a6ad_0 : decode cJ1_canEncode_9a6ad 0 = .ok (.iload_n 0, 1) := by decide +kernel
theorem dJ1_canEncode_9a6ad_1 : decode cJ1_canEncode_9a6ad 1 = .ok (.ifCond .lt 14, 3) := by decide +kernel
theorem dJ1_canEncode_9a6ad_4 : decode cJ1_canEncode_9a6ad 4 = .ok (.iload_n 0, 1) := by decide +kernel
theorem dJ1_canEncode_9a6ad_5 : decode cJ1_canEncode_9a6ad 5 = .ok (.sipush 255, 3) := by decide +kernel
theorem dJ1_canEncode_9a6ad_8 : decode cJ1_canEncode_9a6ad 8 = .ok (.if_icmp .gt 7, 3) := by decide +kernel
theorem dJ1_canEncode_9a6ad_11 : decode cJ1_canEncode_9a6ad 11 = .ok (.iconst 1, 1) := by decide +kernel
theorem dJ1_canEncode_9a6ad_12 : decode cJ1_canEncode_9a6ad 12 = .ok (.goto 4, 3) := by decide +kernel
theorem dJ1_canEncode_9a6ad_15 : decode cJ1_canEncode_9a6ad 15 = .ok (.iconst 0, 1) := by decide +kernel
theorem dJ1_canEncode_9a6ad_16 : decode cJ1_canEncode_9a6ad 16 = .ok (.ireturn, 1) := by decide +kernel
theorem dJ1_indexOf_4cfef_0 : decode cJ1_indexOf_4cfef 0 = .ok (.iload_n 1, 1) := by decide +kernel
theorem dJ1_indexOf_4cfef_1 : decode cJ1_indexOf_4cfef 1 = .ok (.invokestatic 88, 3) := by decide +kernel
theorem dJ1_indexOf_4cfef_4 : decode cJ1_indexOf_4cfef 4 = .ok (.ifCond .ne 5, 3) := by decide +kernel
theorem dJ1_indexOf_4cfef_7 : decode cJ1_indexOf_4cfef 7 = .ok (.iconst (-1), 1) := by decide +kernel
theorem dJ1_indexOf_4cfef_8 : decode cJ1_indexOf_4cfef 8 = .ok (.ireturn, 1) := by decide +kernel
theorem dJ1_indexOf_4cfef_9 : decode cJ1_indexOf_4cfef 9 = .ok (.iload_n 2, 1) := by decide +kernel
theorem dJ1_indexOf_4cfef_10 : decode cJ1_indexOf_4cfef 10 = .ok (.iconst 0, 1) := by decide +kernel
theorem dJ1_indexOf_4cfef_11 : decode cJ1_indexOf_4cfef 11 = .ok (.invokestatic 92, 3) := by decide +kernel
theorem dJ1_indexOf_4cfef_14 : decode cJ1_indexOf_4cfef 14 = .ok (.istore_n 2, 1) := by decide +kernel
theorem dJ1_indexOf_4cfef_15 : decode cJ1_indexOf_4cfef 15 = .ok (.iload_n 3, 1) := by decide +kernel
theorem dJ1_indexOf_4cfef_16 : decode cJ1_indexOf_4cfef 16 = .ok (.aload_n 0, 1) := by decide +kernel
theorem dJ1_indexOf_4cfef_17 : decode cJ1_indexOf_4cfef 17 = .ok (.arraylength, 1) := by decide +kernel
theorem dJ1_indexOf_4cfef_18 : decode cJ1_indexOf_4cfef 18 = .ok (.invokestatic 38, 3) := by decide +kernel
theorem dJ1_indexOf_4cfef_21 : decode cJ1_indexOf_4cfef 21 = .ok (.istore_n 3, 1) := by decide +kernel
theorem dJ1_indexOf_4cfef_22 : decode cJ1_indexOf_4cfef 22 = .ok (.iload_n 2, 1) := by decide +kernel
theorem dJ1_indexOf_4cfef_23 : decode cJ1_indexOf_4cfef 23 = .ok (.iload_n 3, 1) := by decide +kernel
theorem dJ1_indexOf_4cfef_24 : decode cJ1_indexOf_4cfef 24 = .ok (.if_icmp .lt 5, 3) := by decide +kernel
theorem dJ1_indexOf_4cfef_27 : decode cJ1_indexOf_4cfef 27 = .ok (.iconst (-1), 1) := by decide +kernel
theorem dJ1_indexOf_4cfef_28 : decode cJ1_indexOf_4cfef 28 = .ok (.ireturn, 1) := by decide +kernel
theorem dJ1_indexOf_4cfef_29 : decode cJ1_indexOf_4cfef 29 = .ok (.aload_n 0, 1) := by decide +kernel
theorem dJ1_indexOf_4cfef_30 : decode cJ1_indexOf_4cfef 30 = .ok (.iload_n 1, 1) := by decide +kernel
theorem dJ1_indexOf_4cfef_31 : decode cJ1_indexOf_4cfef 31 = .ok (.iload_n 2, 1) := by decide +kernel
theorem dJ1_indexOf_4cfef_32 : decode cJ1_indexOf_4cfef 32 = .ok (.iload_n 3, 1) := by decide +kernel
theorem dJ1_indexOf_4cfef_33 : decode cJ1_indexOf_4cfef 33 = .ok (.invokestatic 95, 3) := by decide +kernel
theorem dJ1_indexOf_4cfef_36 : decode cJ1_indexOf_4cfef 36 = .ok (.ireturn, 1) := by decide +kernel
theorem dJ1_indexOfChar_4cfef_0 : decode cJ1_indexOfChar_4cfef 0 = .ok (.iload_n 1, 1) := by decide +kernel
theorem dJ1_indexOfChar_4cfef_1 : decode cJ1_indexOfChar_4cfef 1 = .ok (.i2b, 1) := by decide +kernel
theorem dJ1_indexOfChar_4cfef_2 : decode cJ1_indexOfChar_4cfef 2 = .ok (.istore 4, 2) := by decide +kernel
theorem dJ1_indexOfChar_4cfef_4 : decode cJ1_indexOfChar_4cfef 4 = .ok (.iload_n 2, 1) := by decide +kernel
theorem dJ1_indexOfChar_4cfef_5 : decode cJ1_indexOfChar_4cfef 5 = .ok (.istore 5, 2) := by decide +kernel
theorem dJ1_indexOfChar_4cfef_7 : decode cJ1_indexOfChar_4cfef 7 = .ok (.iload 5, 2) := by decide +kernel
theorem dJ1_indexOfChar_4cfef_9 : decode cJ1_indexOfChar_4cfef 9 = .ok (.iload_n 3, 1) := by decide +kernel
theorem dJ1_indexOfChar_4cfef_10 : decode cJ1_indexOfChar_4cfef 10 = .ok (.if_icmp .ge 21, 3) := by decide +kernel
theorem dJ1_indexOfChar_4cfef_13 : decode cJ1_indexOfChar_4cfef 13 = .ok (.aload_n 0, 1) := by decide +kernel
theorem dJ1_indexOfChar_4cfef_14 : decode cJ1_indexOfChar_4cfef 14 = .ok (.iload 5, 2) := by decide +kernel
theorem dJ1_indexOfChar_4cfef_16 : decode cJ1_indexOfChar_4cfef 16 = .ok (.baload, 1) := by decide +kernel
theorem dJ1_indexOfChar_4cfef_17 : decode cJ1_indexOfChar_4cfef 17 = .ok (.iload 4, 2) := by decide +kernel
theorem dJ1_indexOfChar_4cfef_19 : decode cJ1_indexOfChar_4cfef 19 = .ok (.if_icmp .ne 6, 3) := by decide +kernel
theorem dJ1_indexOfChar_4cfef_22 : decode cJ1_indexOfChar_4cfef 22 = .ok (.iload 5, 2) := by decide +kernel
theorem dJ1_indexOfChar_4cfef_24 : decode cJ1_indexOfChar_4cfef 24 = .ok (.ireturn, 1) := by decide +kernel
theorem dJ1_indexOfChar_4cfef_25 : decode cJ1_indexOfChar_4cfef 25 = .ok (.iinc 5 1, 3) := by decide +kernel
theorem dJ1_indexOfChar_4cfef_28 : decode cJ1_indexOfChar_4cfef 28 = .ok (.goto (-21), 3) := by decide +kernel
theorem dJ1_indexOfChar_4cfef_31 : decode cJ1_indexOfChar_4cfef 31 = .ok (.iconst (-1), 1) := by decide +kernel
theorem dJ1_indexOfChar_4cfef_32 : decode cJ1_indexOfChar_4cfef 32 = .ok (.ireturn, 1) := by decide +kernel
theorem dJ2_getChar_3b067_0 : decode cJ2_getChar_3b067 0 = .ok (.getstatic 44, 3) := by decide +kernel
theorem dJ2_getChar_3b067_3 : decode cJ2_getChar_3b067 3 = .ok (.ifCond .ne 25, 3) := by decide +kernel
theorem dJ2_getChar_3b067_6 : decode cJ2_getChar_3b067 6 = .ok (.iload_n 1, 1) := by decide +kernel
theorem dJ2_getChar_3b067_7 : decode cJ2_getChar_3b067 7 = .ok (.ifCond .lt 11, 3) := by decide +kernel
theorem dJ2_getChar_3b067_10 : decode cJ2_getChar_3b067 10 = .ok (.iload_n 1, 1) := by decide +kernel
theorem dJ2_getChar_3b067_11 : decode cJ2_getChar_3b067 11 = .ok (.aload_n 0, 1) := by decide +kernel
theorem dJ2_getChar_3b067_12 : decode cJ2_getChar_3b067 12 = .ok (.invokestatic 48, 3) := by decide +kernel
theorem dJ2_getChar_3b067_15 : decode cJ2_getChar_3b067 15 = .ok (.if_icmp .lt 13, 3) := by decide +kernel
theorem dJ2_getChar_3b067_18 : decode cJ2_getChar_3b067 18 = .ok (.new 52, 3) := by decide +kernel
theorem dJ2_getChar_3b067_21 : decode cJ2_getChar_3b067 21 = .ok (.dup, 1) := by decide +kernel
theorem dJ2_getChar_3b067_22 : decode cJ2_getChar_3b067 22 = .ok (.ldc 54, 2) := by decide +kernel
theorem dJ2_getChar_3b067_24 : decode cJ2_getChar_3b067 24 = .ok (.invokespecial 56, 3) := by decide +kernel
theorem dJ2_getChar_3b067_27 : decode cJ2_getChar_3b067 27 = .ok (.athrow, 1) := by decide +kernel
theorem dJ2_getChar_3b067_28 : decode cJ2_getChar_3b067 28 = .ok (.iload_n 1, 1) := by decide +kernel
theorem dJ2_getChar_3b067_29 : decode cJ2_getChar_3b067 29 = .ok (.iconst 1, 1) := by decide +kernel
theorem dJ2_getChar_3b067_30 : decode cJ2_getChar_3b067 30 = .ok (.ishl, 1) := by decide +kernel
theorem dJ2_getChar_3b067_31 : decode cJ2_getChar_3b067 31 = .ok (.istore_n 1, 1) := by decide +kernel
theorem dJ2_getChar_3b067_32 : decode cJ2_getChar_3b067 32 = .ok (.aload_n 0, 1) := by decide +kernel
theorem dJ2_getChar_3b067_33 : decode cJ2_getChar_3b067 33 = .ok (.iload_n 1, 1) := by decide +kernel
theorem dJ2_getChar_3b067_34 : decode cJ2_getChar_3b067 34 = .ok (.iinc 1 1, 3) := by decide +kernel
theorem dJ2_getChar_3b067_37 : decode cJ2_getChar_3b067 37 = .ok (.baload, 1) := by decide +kernel
theorem dJ2_getChar_3b067_38 : decode cJ2_getChar_3b067 38 = .ok (.sipush 255, 3) := by decide +kernel
theorem dJ2_getChar_3b067_41 : decode cJ2_getChar_3b067 41 = .ok (.iand, 1) := by decide +kernel
theorem dJ2_getChar_3b067_42 : decode cJ2_getChar_3b067 42 = .ok (.getstatic 59, 3) := by decide +kernel
theorem dJ2_getChar_3b067_45 : decode cJ2_getChar_3b067 45 = .ok (.ishl, 1) := by decide +kernel
theorem dJ2_getChar_3b067_46 : decode cJ2_getChar_3b067 46 = .ok (.aload_n 0, 1) := by decide +kernel
theorem dJ2_getChar_3b067_47 : decode cJ2_getChar_3b067 47 = .ok (.iload_n 1, 1) := by decide +kernel
theorem dJ2_getChar_3b067_48 : decode cJ2_getChar_3b067 48 = .ok (.baload, 1) := by decide +kernel
theorem dJ2_getChar_3b067_49 : decode cJ2_getChar_3b067 49 = .ok (.sipush 255, 3) := by decide +kernel
theorem dJ2_getChar_3b067_52 : decode cJ2_getChar_3b067 52 = .ok (.iand, 1) := by decide +kernel
theorem dJ2_getChar_3b067_53 : decode cJ2_getChar_3b067 53 = .ok (.getstatic 63, 3) := by decide +kernel
theorem dJ2_getChar_3b067_56 : decode cJ2_getChar_3b067 56 = .ok (.ishl, 1) := by decide +kernel
theorem dJ2_getChar_3b067_57 : decode cJ2_getChar_3b067 57 = .ok (.ior, 1) := by decide +kernel
theorem dJ2_getChar_3b067_58 : decode cJ2_getChar_3b067 58 = .ok (.i2c, 1) := by decide +kernel
theorem dJ2_getChar_3b067_59 : decode cJ2_getChar_3b067 59 = .ok (.ireturn, 1) := by decide +kernel
theorem dJ2_length_9d52b_0 : decode cJ2_length_9d52b 0 = .ok (.aload_n 0, 1) := by decide +kernel
theorem dJ2_length_9d52b_1 : decode cJ2_length_9d52b 1 = .ok (.arraylength, 1) := by decide +kernel
theorem dJ2_length_9d52b_2 : decode cJ2_length_9d52b 2 = .ok (.iconst 1, 1) := by decide +kernel
theorem dJ2_length_9d52b_3 : decode cJ2_length_9d52b 3 = .ok (.ishr, 1) := by decide +kernel
theorem dJ2_length_9d52b_4 : decode cJ2_length_9d52b 4 = .ok (.ireturn, 1) := by decide +kernel
theorem dJ2_indexOf_4cfef_0 : decode cJ2_indexOf_4cfef 0 = .ok (.iload_n 2, 1) := by decide +kernel
theorem dJ2_indexOf_4cfef_1 : decode cJ2_indexOf_4cfef 1 = .ok (.iconst 0, 1) := by decide +kernel
theorem dJ2_indexOf_4cfef_2 : decode cJ2_indexOf_4cfef 2 = .ok (.invokestatic 224, 3) := by decide +kernel
theorem dJ2_indexOf_4cfef_5 : decode cJ2_indexOf_4cfef 5 = .ok (.istore_n 2, 1) := by decide +kernel
theorem dJ2_indexOf_4cfef_6 : decode cJ2_indexOf_4cfef 6 = .ok (.iload_n 3, 1) := by decide +kernel
theorem dJ2_indexOf_4cfef_7 : decode cJ2_indexOf_4cfef 7 = .ok (.aload_n 0, 1) := by decide +kernel
theorem dJ2_indexOf_4cfef_8 : decode cJ2_indexOf_4cfef 8 = .ok (.arraylength, 1) := by decide +kernel
theorem dJ2_indexOf_4cfef_9 : decode cJ2_indexOf_4cfef 9 = .ok (.iconst 1, 1) := by decide +kernel
theorem dJ2_indexOf_4cfef_10 : decode cJ2_indexOf_4cfef 10 = .ok (.ishr, 1) := by decide +kernel
theorem dJ2_indexOf_4cfef_11 : decode cJ2_indexOf_4cfef 11 = .ok (.invokestatic 183, 3) := by decide +kernel
theorem dJ2_indexOf_4cfef_14 : decode cJ2_indexOf_4cfef 14 = .ok (.istore_n 3, 1) := by decide +kernel
theorem dJ2_indexOf_4cfef_15 : decode cJ2_indexOf_4cfef 15 = .ok (.iload_n 2, 1) := by decide +kernel
theorem dJ2_indexOf_4cfef_16 : decode cJ2_indexOf_4cfef 16 = .ok (.iload_n 3, 1) := by decide +kernel
theorem dJ2_indexOf_4cfef_17 : decode cJ2_indexOf_4cfef 17 = .ok (.if_icmp .lt 5, 3) := by decide +kernel
theorem dJ2_indexOf_4cfef_20 : decode cJ2_indexOf_4cfef 20 = .ok (.iconst (-1), 1) := by decide +kernel
theorem dJ2_indexOf_4cfef_21 : decode cJ2_indexOf_4cfef 21 = .ok (.ireturn, 1) := by decide +kernel
theorem dJ2_indexOf_4cfef_22 : decode cJ2_indexOf_4cfef 22 = .ok (.iload_n 1, 1) := by decide +kernel
theorem dJ2_indexOf_4cfef_23 : decode cJ2_indexOf_4cfef 23 = .ok (.ldc 227, 2) := by decide +kernel
theorem dJ2_indexOf_4cfef_25 : decode cJ2_indexOf_4cfef 25 = .ok (.if_icmp .ge 11, 3) := by decide +kernel
theorem dJ2_indexOf_4cfef_28 : decode cJ2_indexOf_4cfef 28 = .ok (.aload_n 0, 1) := by decide +kernel
theorem dJ2_indexOf_4cfef_29 : decode cJ2_indexOf_4cfef 29 = .ok (.iload_n 1, 1) := by decide +kernel
theorem dJ2_indexOf_4cfef_30 : decode cJ2_indexOf_4cfef 30 = .ok (.iload_n 2, 1) := by decide +kernel
theorem dJ2_indexOf_4cfef_31 : decode cJ2_indexOf_4cfef 31 = .ok (.iload_n 3, 1) := by decide +kernel
theorem dJ2_indexOf_4cfef_32 : decode cJ2_indexOf_4cfef 32 = .ok (.invokestatic 228, 3) := by decide +kernel
theorem dJ2_indexOf_4cfef_35 : decode cJ2_indexOf_4cfef 35 = .ok (.ireturn, 1) := by decide +kernel
theorem dJ2_indexOf_4cfef_36 : decode cJ2_indexOf_4cfef 36 = .ok (.aload_n 0, 1) := by decide +kernel
theorem dJ2_indexOf_4cfef_37 : decode cJ2_indexOf_4cfef 37 = .ok (.iload_n 1, 1) := by decide +kernel
theorem dJ2_indexOf_4cfef_38 : decode cJ2_indexOf_4cfef 38 = .ok (.iload_n 2, 1) := by decide +kernel
theorem dJ2_indexOf_4cfef_39 : decode cJ2_indexOf_4cfef 39 = .ok (.iload_n 3, 1) := by decide +kernel
theorem dJ2_indexOf_4cfef_40 : decode cJ2_indexOf_4cfef 40 = .ok (.invokestatic 232, 3) := by decide +kernel
theorem dJ2_indexOf_4cfef_43 : decode cJ2_indexOf_4cfef 43 = .ok (.ireturn, 1) := by decide +kernel
theorem dJ2_indexOfChar_4cfef_0 : decode cJ2_indexOfChar_4cfef 0 = .ok (.iload_n 2, 1) := by decide +kernel
theorem dJ2_indexOfChar_4cfef_1 : decode cJ2_indexOfChar_4cfef 1 = .ok (.iload_n 3, 1) := by decide +kernel
theorem dJ2_indexOfChar_4cfef_2 : decode cJ2_indexOfChar_4cfef 2 = .ok (.aload_n 0, 1) := by decide +kernel
theorem dJ2_indexOfChar_4cfef_3 : decode cJ2_indexOfChar_4cfef 3 = .ok (.invokestatic 96, 3) := by decide +kernel
theorem dJ2_indexOfChar_4cfef_6 : decode cJ2_indexOfChar_4cfef 6 = .ok (.aload_n 0, 1) := by decide +kernel
theorem dJ2_indexOfChar_4cfef_7 : decode cJ2_indexOfChar_4cfef 7 = .ok (.iload_n 1, 1) := by decide +kernel
theorem dJ2_indexOfChar_4cfef_8 : decode cJ2_indexOfChar_4cfef 8 = .ok (.iload_n 2, 1) := by decide +kernel
theorem dJ2_indexOfChar_4cfef_9 : decode cJ2_indexOfChar_4cfef 9 = .ok (.iload_n 3, 1) := by decide +kernel
theorem dJ2_indexOfChar_4cfef_10 : decode cJ2_indexOfChar_4cfef 10 = .ok (.invokestatic 244, 3) := by decide +kernel
theorem dJ2_indexOfChar_4cfef_13 : decode cJ2_indexOfChar_4cfef 13 = .ok (.ireturn, 1) := by decide +kernel
theorem dJ2_indexOfCharUnsafe_4cfef_0 : decode cJ2_indexOfCharUnsafe_4cfef 0 = .ok (.iload_n 2, 1) := by decide +kernel
theorem dJ2_indexOfCharUnsafe_4cfef_1 : decode cJ2_indexOfCharUnsafe_4cfef 1 = .ok (.istore 4, 2) := by decide +kernel
theorem dJ2_indexOfCharUnsafe_4cfef_3 : decode cJ2_indexOfCharUnsafe_4cfef 3 = .ok (.iload 4, 2) := by decide +kernel
theorem dJ2_indexOfCharUnsafe_4cfef_5 : decode cJ2_indexOfCharUnsafe_4cfef 5 = .ok (.iload_n 3, 1) := by decide +kernel
theorem dJ2_indexOfCharUnsafe_4cfef_6 : decode cJ2_indexOfCharUnsafe_4cfef 6 = .ok (.if_icmp .ge 22, 3) := by decide +kernel
theorem dJ2_indexOfCharUnsafe_4cfef_9 : decode cJ2_indexOfCharUnsafe_4cfef 9 = .ok (.aload_n 0, 1) := by decide +kernel
theorem dJ2_indexOfCharUnsafe_4cfef_10 : decode cJ2_indexOfCharUnsafe_4cfef 10 = .ok (.iload 4, 2) := by decide +kernel
theorem dJ2_indexOfCharUnsafe_4cfef_12 : decode cJ2_indexOfCharUnsafe_4cfef 12 = .ok (.invokestatic 71, 3) := by decide +kernel
theorem dJ2_indexOfCharUnsafe_4cfef_15 : decode cJ2_indexOfCharUnsafe_4cfef 15 = .ok (.iload_n 1, 1) := by decide +kernel
theorem dJ2_indexOfCharUnsafe_4cfef_16 : decode cJ2_indexOfCharUnsafe_4cfef 16 = .ok (.if_icmp .ne 6, 3) := by decide +kernel
theorem dJ2_indexOfCharUnsafe_4cfef_19 : decode cJ2_indexOfCharUnsafe_4cfef 19 = .ok (.iload 4, 2) := by decide +kernel
theorem dJ2_indexOfCharUnsafe_4cfef_21 : decode cJ2_indexOfCharUnsafe_4cfef 21 = .ok (.ireturn, 1) := by decide +kernel
theorem dJ2_indexOfCharUnsafe_4cfef_22 : decode cJ2_indexOfCharUnsafe_4cfef 22 = .ok (.iinc 4 1, 3) := by decide +kernel
theorem dJ2_indexOfCharUnsafe_4cfef_25 : decode cJ2_indexOfCharUnsafe_4cfef 25 = .ok (.goto (-22), 3) := by decide +kernel
theorem dJ2_indexOfCharUnsafe_4cfef_28 : decode cJ2_indexOfCharUnsafe_4cfef 28 = .ok (.iconst (-1), 1) := by decide +kernel
theorem dJ2_indexOfCharUnsafe_4cfef_29 : decode cJ2_indexOfCharUnsafe_4cfef 29 = .ok (.ireturn, 1) := by decide +kernel
theorem dJ2_indexOfSupplementary_4cfef_0 : decode cJ2_indexOfSupplementary_4cfef 0 = .ok (.iload_n 1, 1) := by decide +kernel
theorem dJ2_indexOfSupplementary_4cfef_1 : decode cJ2_indexOfSupplementary_4cfef 1 = .ok (.invokestatic 164, 3) := by decide +kernel
theorem dJ2_indexOfSupplementary_4cfef_4 : decode cJ2_indexOfSupplementary_4cfef 4 = .ok (.ifCond .eq 65, 3) := by decide +kernel
theorem dJ2_indexOfSupplementary_4cfef_7 : decode cJ2_indexOfSupplementary_4cfef 7 = .ok (.iload_n 1, 1) := by decide +kernel
theorem dJ2_indexOfSupplementary_4cfef_8 : decode cJ2_indexOfSupplementary_4cfef 8 = .ok (.invokestatic 157, 3) := by decide +kernel
theorem dJ2_indexOfSupplementary_4cfef_11 : decode cJ2_indexOfSupplementary_4cfef 11 = .ok (.istore 4, 2) := by decide +kernel
theorem dJ2_indexOfSupplementary_4cfef_13 : decode cJ2_indexOfSupplementary_4cfef 13 = .ok (.iload_n 1, 1) := by decide +kernel
theorem dJ2_indexOfSupplementary_4cfef_14 : decode cJ2_indexOfSupplementary_4cfef 14 = .ok (.invokestatic 161, 3) := by decide +kernel
theorem dJ2_indexOfSupplementary_4cfef_17 : decode cJ2_indexOfSupplementary_4cfef 17 = .ok (.istore 5, 2) := by decide +kernel
theorem dJ2_indexOfSupplementary_4cfef_19 : decode cJ2_indexOfSupplementary_4cfef 19 = .ok (.iload_n 2, 1) := by decide +kernel
theorem dJ2_indexOfSupplementary_4cfef_20 : decode cJ2_indexOfSupplementary_4cfef 20 = .ok (.iload_n 3, 1) := by decide +kernel
theorem dJ2_indexOfSupplementary_4cfef_21 : decode cJ2_indexOfSupplementary_4cfef 21 = .ok (.aload_n 0, 1) := by decide +kernel
theorem dJ2_indexOfSupplementary_4cfef_22 : decode cJ2_indexOfSupplementary_4cfef 22 = .ok (.invokestatic 96, 3) := by decide +kernel
theorem dJ2_indexOfSupplementary_4cfef_25 : decode cJ2_indexOfSupplementary_4cfef 25 = .ok (.iload_n 2, 1) := by decide +kernel
theorem dJ2_indexOfSupplementary_4cfef_26 : decode cJ2_indexOfSupplementary_4cfef 26 = .ok (.istore 6, 2) := by decide +kernel
theorem dJ2_indexOfSupplementary_4cfef_28 : decode cJ2_indexOfSupplementary_4cfef 28 = .ok (.iload 6, 2) := by decide +kernel
theorem dJ2_indexOfSupplementary_4cfef_30 : decode cJ2_indexOfSupplementary_4cfef 30 = .ok (.iload_n 3, 1) := by decide +kernel
theorem dJ2_indexOfSupplementary_4cfef_31 : decode cJ2_indexOfSupplementary_4cfef 31 = .ok (.iconst 1, 1) := by decide +kernel
theorem dJ2_indexOfSupplementary_4cfef_32 : decode cJ2_indexOfSupplementary_4cfef 32 = .ok (.isub, 1) := by decide +kernel
theorem dJ2_indexOfSupplementary_4cfef_33 : decode cJ2_indexOfSupplementary_4cfef 33 = .ok (.if_icmp .ge 36, 3) := by decide +kernel
theorem dJ2_indexOfSupplementary_4cfef_36 : decode cJ2_indexOfSupplementary_4cfef 36 = .ok (.aload_n 0, 1) := by decide +kernel
theorem dJ2_indexOfSupplementary_4cfef_37 : decode cJ2_indexOfSupplementary_4cfef 37 = .ok (.iload 6, 2) := by decide +kernel
theorem dJ2_indexOfSupplementary_4cfef_39 : decode cJ2_indexOfSupplementary_4cfef 39 = .ok (.invokestatic 71, 3) := by decide +kernel
theorem dJ2_indexOfSupplementary_4cfef_42 : decode cJ2_indexOfSupplementary_4cfef 42 = .ok (.iload 4, 2) := by decide +kernel
theorem dJ2_indexOfSupplementary_4cfef_44 : decode cJ2_indexOfSupplementary_4cfef 44 = .ok (.if_icmp .ne 19, 3) := by decide +kernel
theorem dJ2_indexOfSupplementary_4cfef_47 : decode cJ2_indexOfSupplementary_4cfef 47 = .ok (.aload_n 0, 1) := by decide +kernel
theorem dJ2_indexOfSupplementary_4cfef_48 : decode cJ2_indexOfSupplementary_4cfef 48 = .ok (.iload 6, 2) := by decide +kernel
theorem dJ2_indexOfSupplementary_4cfef_50 : decode cJ2_indexOfSupplementary_4cfef 50 = .ok (.iconst 1, 1) := by decide +kernel
theorem dJ2_indexOfSupplementary_4cfef_51 : decode cJ2_indexOfSupplementary_4cfef 51 = .ok (.iadd, 1) := by decide +kernel
theorem dJ2_indexOfSupplementary_4cfef_52 : decode cJ2_indexOfSupplementary_4cfef 52 = .ok (.invokestatic 71, 3) := by decide +kernel
theorem dJ2_indexOfSupplementary_4cfef_55 : decode cJ2_indexOfSupplementary_4cfef 55 = .ok (.iload 5, 2) := by decide +kernel
theorem dJ2_indexOfSupplementary_4cfef_57 : decode cJ2_indexOfSupplementary_4cfef 57 = .ok (.if_icmp .ne 6, 3) := by decide +kernel
theorem dJ2_indexOfSupplementary_4cfef_60 : decode cJ2_indexOfSupplementary_4cfef 60 = .ok (.iload 6, 2) := by decide +kernel
theorem dJ2_indexOfSupplementary_4cfef_62 : decode cJ2_indexOfSupplementary_4cfef 62 = .ok (.ireturn, 1) := by decide +kernel
theorem dJ2_indexOfSupplementary_4cfef_63 : decode cJ2_indexOfSupplementary_4cfef 63 = .ok (.iinc 6 1, 3) := by decide +kernel
theorem dJ2_indexOfSupplementary_4cfef_66 : decode cJ2_indexOfSupplementary_4cfef 66 = .ok (.goto (-38), 3) := by decide +kernel
theorem dJ2_indexOfSupplementary_4cfef_69 : decode cJ2_indexOfSupplementary_4cfef 69 = .ok (.iconst (-1), 1) := by decide +kernel
theorem dJ2_indexOfSupplementary_4cfef_70 : decode cJ2_indexOfSupplementary_4cfef 70 = .ok (.ireturn, 1) := by decide +kernel
theorem dJ2_charAt_3b067_0 : decode cJ2_charAt_3b067 0 = .ok (.iload_n 1, 1) := by decide +kernel
theorem dJ2_charAt_3b067_1 : decode cJ2_charAt_3b067 1 = .ok (.aload_n 0, 1) := by decide +kernel
theorem dJ2_charAt_3b067_2 : decode cJ2_charAt_3b067 2 = .ok (.invokestatic 67, 3) := by decide +kernel
theorem dJ2_charAt_3b067_5 : decode cJ2_charAt_3b067 5 = .ok (.aload_n 0, 1) := by decide +kernel
theorem dJ2_charAt_3b067_6 : decode cJ2_charAt_3b067 6 = .ok (.iload_n 1, 1) := by decide +kernel
theorem dJ2_charAt_3b067_7 : decode cJ2_charAt_3b067 7 = .ok (.invokestatic 71, 3) := by decide +kernel
theorem dJ2_charAt_3b067_10 : decode cJ2_charAt_3b067 10 = .ok (.ireturn, 1) := by decide +kernel
theorem dJ2_checkIndex_2214a_0 : decode cJ2_checkIndex_2214a 0 = .ok (.iload_n 0, 1) := by decide +kernel
theorem dJ2_checkIndex_2214a_1 : decode cJ2_checkIndex_2214a 1 = .ok (.aload_n 1, 1) := by decide +kernel
theorem dJ2_checkIndex_2214a_2 : decode cJ2_checkIndex_2214a 2 = .ok (.invokestatic 48, 3) := by decide +kernel
theorem dJ2_checkIndex_2214a_5 : decode cJ2_checkIndex_2214a 5 = .ok (.invokestatic 414, 3) := by decide +kernel
theorem dJ2_checkIndex_2214a_8 : decode cJ2_checkIndex_2214a 8 = .ok (.return_, 1) := by decide +kernel
theorem dJ2_checkBoundsBeginEnd_d044e_0 : decode cJ2_checkBoundsBeginEnd_d044e 0 = .ok (.iload_n 0, 1) := by decide +kernel
theorem dJ2_checkBoundsBeginEnd_d044e_1 : decode cJ2_checkBoundsBeginEnd_d044e 1 = .ok (.iload_n 1, 1) := by decide +kernel
theorem dJ2_checkBoundsBeginEnd_d044e_2 : decode cJ2_checkBoundsBeginEnd_d044e 2 = .ok (.aload_n 2, 1) := by decide +kernel
theorem dJ2_checkBoundsBeginEnd_d044e_3 : decode cJ2_checkBoundsBeginEnd_d044e 3 = .ok (.invokestatic 48, 3) := by decide +kernel
theorem dJ2_checkBoundsBeginEnd_d044e_6 : decode cJ2_checkBoundsBeginEnd_d044e 6 = .ok (.invokestatic 241, 3) := by decide +kernel
theorem dJ2_checkBoundsBeginEnd_d044e_9 : decode cJ2_checkBoundsBeginEnd_d044e 9 = .ok (.return_, 1) := by decide +kernel
theorem dJxa1e45_init_da8c8_0 : decode cJxa1e45_init_da8c8 0 = .ok (.aload_n 0, 1) := by decide +kernel
theorem dJxa1e45_init_da8c8_1 : decode cJxa1e45_init_da8c8 1 = .ok (.invokespecial 1, 3) := by decide +kernel
theorem dJxa1e45_init_da8c8_4 : decode cJxa1e45_init_da8c8 4 = .ok (.return_, 1) := by decide +kernel
theorem dJxc12de_init_da8c8_0 : decode cJxc12de_init_da8c8 0 = .ok (.aload_n 0, 1) := by decide +kernel
theorem dJxc12de_init_da8c8_1 : decode cJxc12de_init_da8c8 1 = .ok (.invokespecial 1, 3) := by decide +kernel
theorem dJxc12de_init_da8c8_4 : decode cJxc12de_init_da8c8 4 = .ok (.aload_n 0, 1) := by decide +kernel
theorem dJxc12de_init_da8c8_5 : decode cJxc12de_init_da8c8 5 = .ok (.iconst 0, 1) := by decide +kernel
theorem dJxc12de_init_da8c8_6 : decode cJxc12de_init_da8c8 6 = .ok (.putfield 7, 3) := by decide +kernel
theorem dJxc12de_init_da8c8_9 : decode cJxc12de_init_da8c8 9 = .ok (.return_, 1) := by decide +kernel
theorem dJx4a65c_init_da8c8_0 : decode cJx4a65c_init_da8c8 0 = .ok (.aload_n 0, 1) := by decide +kernel
theorem dJx4a65c_init_da8c8_1 : decode cJx4a65c_init_da8c8 1 = .ok (.invokespecial 1, 3) := by decide +kernel
theorem dJx4a65c_init_da8c8_4 : decode cJx4a65c_init_da8c8 4 = .ok (.aload_n 0, 1) := by decide +kernel
theorem dJx4a65c_init_da8c8_5 : decode cJx4a65c_init_da8c8 5 = .ok (.getstatic 39, 3) := by decide +kernel
theorem dJx4a65c_init_da8c8_8 : decode cJx4a65c_init_da8c8 8 = .ok (.putfield 9, 3) := by decide +kernel
theorem dJx4a65c_init_da8c8_11 : decode cJx4a65c_init_da8c8 11 = .ok (.return_, 1) := by decide +kernel
theorem dJx4a65c_grow_92f84_0 : decode cJx4a65c_grow_92f84 0 = .ok (.aload_n 0, 1) := by decide +kernel
theorem dJx4a65c_grow_92f84_1 : decode cJx4a65c_grow_92f84 1 = .ok (.getfield 9, 3) := by decide +kernel
theorem dJx4a65c_grow_92f84_4 : decode cJx4a65c_grow_92f84 4 = .ok (.arraylength, 1) := by decide +kernel
theorem dJx4a65c_grow_92f84_5 : decode cJx4a65c_grow_92f84 5 = .ok (.istore_n 2, 1) := by decide +kernel
theorem dJx4a65c_grow_92f84_6 : decode cJx4a65c_grow_92f84 6 = .ok (.iload_n 2, 1) := by decide +kernel
theorem dJx4a65c_grow_92f84_7 : decode cJx4a65c_grow_92f84 7 = .ok (.ifCond .gt 13, 3) := by decide +kernel
theorem dJx4a65c_grow_92f84_10 : decode cJx4a65c_grow_92f84 10 = .ok (.aload_n 0, 1) := by decide +kernel
theorem dJx4a65c_grow_92f84_11 : decode cJx4a65c_grow_92f84 11 = .ok (.getfield 9, 3) := by decide +kernel
theorem dJx4a65c_grow_92f84_14 : decode cJx4a65c_grow_92f84 14 = .ok (.getstatic 39, 3) := by decide +kernel
theorem dJx4a65c_grow_92f84_17 : decode cJx4a65c_grow_92f84 17 = .ok (.if_acmp .eq 28, 3) := by decide +kernel
theorem dJx4a65c_grow_92f84_20 : decode cJx4a65c_grow_92f84 20 = .ok (.iload_n 2, 1) := by decide +kernel
theorem dJx4a65c_grow_92f84_21 : decode cJx4a65c_grow_92f84 21 = .ok (.iload_n 1, 1) := by decide +kernel
theorem dJx4a65c_grow_92f84_22 : decode cJx4a65c_grow_92f84 22 = .ok (.iload_n 2, 1) := by decide +kernel
theorem dJx4a65c_grow_92f84_23 : decode cJx4a65c_grow_92f84 23 = .ok (.isub, 1) := by decide +kernel
theorem dJx4a65c_grow_92f84_24 : decode cJx4a65c_grow_92f84 24 = .ok (.iload_n 2, 1) := by decide +kernel
theorem dJx4a65c_grow_92f84_25 : decode cJx4a65c_grow_92f84 25 = .ok (.iconst 1, 1) := by decide +kernel
theorem dJx4a65c_grow_92f84_26 : decode cJx4a65c_grow_92f84 26 = .ok (.ishr, 1) := by decide +kernel
theorem dJx4a65c_grow_92f84_27 : decode cJx4a65c_grow_92f84 27 = .ok (.invokestatic 73, 3) := by decide +kernel
theorem dJx4a65c_grow_92f84_30 : decode cJx4a65c_grow_92f84 30 = .ok (.istore_n 3, 1) := by decide +kernel
theorem dJx4a65c_grow_92f84_31 : decode cJx4a65c_grow_92f84 31 = .ok (.aload_n 0, 1) := by decide +kernel
theorem dJx4a65c_grow_92f84_32 : decode cJx4a65c_grow_92f84 32 = .ok (.aload_n 0, 1) := by decide +kernel
theorem dJx4a65c_grow_92f84_33 : decode cJx4a65c_grow_92f84 33 = .ok (.getfield 9, 3) := by decide +kernel
theorem dJx4a65c_grow_92f84_36 : decode cJx4a65c_grow_92f84 36 = .ok (.iload_n 3, 1) := by decide +kernel
theorem dJx4a65c_grow_92f84_37 : decode cJx4a65c_grow_92f84 37 = .ok (.invokestatic 66, 3) := by decide +kernel
theorem dJx4a65c_grow_92f84_40 : decode cJx4a65c_grow_92f84 40 = .ok (.dup_x1, 1) := by decide +kernel
theorem dJx4a65c_grow_92f84_41 : decode cJx4a65c_grow_92f84 41 = .ok (.putfield 9, 3) := by decide +kernel
theorem dJx4a65c_grow_92f84_44 : decode cJx4a65c_grow_92f84 44 = .ok (.areturn, 1) := by decide +kernel
theorem dJx4a65c_grow_92f84_45 : decode cJx4a65c_grow_92f84 45 = .ok (.aload_n 0, 1) := by decide +kernel
theorem dJx4a65c_grow_92f84_46 : decode cJx4a65c_grow_92f84 46 = .ok (.bipush 10, 2) := by decide +kernel
theorem dJx4a65c_grow_92f84_48 : decode cJx4a65c_grow_92f84 48 = .ok (.iload_n 1, 1) := by decide +kernel
theorem dJx4a65c_grow_92f84_49 : decode cJx4a65c_grow_92f84 49 = .ok (.invokestatic 79, 3) := by decide +kernel
theorem dJx4a65c_grow_92f84_52 : decode cJx4a65c_grow_92f84 52 = .ok (.anewarray 7, 3) := by decide +kernel
theorem dJx4a65c_grow_92f84_55 : decode cJx4a65c_grow_92f84 55 = .ok (.dup_x1, 1) := by decide +kernel
theorem dJx4a65c_grow_92f84_56 : decode cJx4a65c_grow_92f84 56 = .ok (.putfield 9, 3) := by decide +kernel
theorem dJx4a65c_grow_92f84_59 : decode cJx4a65c_grow_92f84 59 = .ok (.areturn, 1) := by decide +kernel
theorem dJx4a65c_grow_d5877_0 : decode cJx4a65c_grow_d5877 0 = .ok (.aload_n 0, 1) := by decide +kernel
theorem dJx4a65c_grow_d5877_1 : decode cJx4a65c_grow_d5877 1 = .ok (.aload_n 0, 1) := by decide +kernel
theorem dJx4a65c_grow_d5877_2 : decode cJx4a65c_grow_d5877 2 = .ok (.getfield 48, 3) := by decide +kernel
theorem dJx4a65c_grow_d5877_5 : decode cJx4a65c_grow_d5877 5 = .ok (.iconst 1, 1) := by decide +kernel
theorem dJx4a65c_grow_d5877_6 : decode cJx4a65c_grow_d5877 6 = .ok (.iadd, 1) := by decide +kernel
theorem dJx4a65c_grow_d5877_7 : decode cJx4a65c_grow_d5877 7 = .ok (.invokevirtual 69, 3) := by decide +kernel
theorem dJx4a65c_grow_d5877_10 : decode cJx4a65c_grow_d5877 10 = .ok (.areturn, 1) := by decide +kernel
theorem dJx4a65c_size_8abf5_0 : decode cJx4a65c_size_8abf5 0 = .ok (.aload_n 0, 1) := by decide +kernel
theorem dJx4a65c_size_8abf5_1 : decode cJx4a65c_size_8abf5 1 = .ok (.getfield 48, 3) := by decide +kernel
theorem dJx4a65c_size_8abf5_4 : decode cJx4a65c_size_8abf5 4 = .ok (.ireturn, 1) := by decide +kernel
theorem dJx4a65c_elementData_915e3_0 : decode cJx4a65c_elementData_915e3 0 = .ok (.aload_n 0, 1) := by decide +kernel
theorem dJx4a65c_elementData_915e3_1 : decode cJx4a65c_elementData_915e3 1 = .ok (.getfield 9, 3) := by decide +kernel
theorem dJx4a65c_elementData_915e3_4 : decode cJx4a65c_elementData_915e3 4 = .ok (.iload_n 1, 1) := by decide +kernel
theorem dJx4a65c_elementData_915e3_5 : decode cJx4a65c_elementData_915e3 5 = .ok (.aaload, 1) := by decide +kernel
theorem dJx4a65c_elementData_915e3_6 : decode cJx4a65c_elementData_915e3 6 = .ok (.areturn, 1) := by decide +kernel
theorem dJx4a65c_get_915e3_0 : decode cJx4a65c_get_915e3 0 = .ok (.iload_n 1, 1) := by decide +kernel
theorem dJx4a65c_get_915e3_1 : decode cJx4a65c_get_915e3 1 = .ok (.aload_n 0, 1) := by decide +kernel
theorem dJx4a65c_get_915e3_2 : decode cJx4a65c_get_915e3 2 = .ok (.getfield 48, 3) := by decide +kernel
theorem dJx4a65c_get_915e3_5 : decode cJx4a65c_get_915e3 5 = .ok (.invokestatic 118, 3) := by decide +kernel
theorem dJx4a65c_get_915e3_8 : decode cJx4a65c_get_915e3 8 = .ok (.pop, 1) := by decide +kernel
theorem dJx4a65c_get_915e3_9 : decode cJx4a65c_get_915e3 9 = .ok (.aload_n 0, 1) := by decide +kernel
theorem dJx4a65c_get_915e3_10 : decode cJx4a65c_get_915e3 10 = .ok (.iload_n 1, 1) := by decide +kernel
theorem dJx4a65c_get_915e3_11 : decode cJx4a65c_get_915e3 11 = .ok (.invokevirtual 123, 3) := by decide +kernel
theorem dJx4a65c_get_915e3_14 : decode cJx4a65c_get_915e3 14 = .ok (.areturn, 1) := by decide +kernel
theorem dJx4a65c_add_72be8_0 : decode cJx4a65c_add_72be8 0 = .ok (.iload_n 3, 1) := by decide +kernel
theorem dJx4a65c_add_72be8_1 : decode cJx4a65c_add_72be8 1 = .ok (.aload_n 2, 1) := by decide +kernel
theorem dJx4a65c_add_72be8_2 : decode cJx4a65c_add_72be8 2 = .ok (.arraylength, 1) := by decide +kernel
theorem dJx4a65c_add_72be8_3 : decode cJx4a65c_add_72be8 3 = .ok (.if_icmp .ne 8, 3) := by decide +kernel
theorem dJx4a65c_add_72be8_6 : decode cJx4a65c_add_72be8 6 = .ok (.aload_n 0, 1) := by decide +kernel
theorem dJx4a65c_add_72be8_7 : decode cJx4a65c_add_72be8 7 = .ok (.invokevirtual 129, 3) := by decide +kernel
theorem dJx4a65c_add_72be8_10 : decode cJx4a65c_add_72be8 10 = .ok (.astore_n 2, 1) := by decide +kernel
theorem dJx4a65c_add_72be8_11 : decode cJx4a65c_add_72be8 11 = .ok (.aload_n 2, 1) := by decide +kernel
theorem dJx4a65c_add_72be8_12 : decode cJx4a65c_add_72be8 12 = .ok (.iload_n 3, 1) := by decide +kernel
theorem dJx4a65c_add_72be8_13 : decode cJx4a65c_add_72be8 13 = .ok (.aload_n 1, 1) := by decide +kernel
theorem dJx4a65c_add_72be8_14 : decode cJx4a65c_add_72be8 14 = .ok (.aastore, 1) := by decide +kernel
theorem dJx4a65c_add_72be8_15 : decode cJx4a65c_add_72be8 15 = .ok (.aload_n 0, 1) := by decide +kernel
theorem dJx4a65c_add_72be8_16 : decode cJx4a65c_add_72be8 16 = .ok (.iload_n 3, 1) := by decide +kernel
theorem dJx4a65c_add_72be8_17 : decode cJx4a65c_add_72be8 17 = .ok (.iconst 1, 1) := by decide +kernel
theorem dJx4a65c_add_72be8_18 : decode cJx4a65c_add_72be8 18 = .ok (.iadd, 1) := by decide +kernel
theorem dJx4a65c_add_72be8_19 : decode cJx4a65c_add_72be8 19 = .ok (.putfield 48, 3) := by decide +kernel
theorem dJx4a65c_add_72be8_22 : decode cJx4a65c_add_72be8 22 = .ok (.return_, 1) := by decide +kernel
theorem dJx4a65c_add_9ea2d_0 : decode cJx4a65c_add_9ea2d 0 = .ok (.aload_n 0, 1) := by decide +kernel
theorem dJx4a65c_add_9ea2d_1 : decode cJx4a65c_add_9ea2d 1 = .ok (.dup, 1) := by decide +kernel
theorem dJx4a65c_add_9ea2d_2 : decode cJx4a65c_add_9ea2d 2 = .ok (.getfield 63, 3) := by decide +kernel
theorem dJx4a65c_add_9ea2d_5 : decode cJx4a65c_add_9ea2d 5 = .ok (.iconst 1, 1) := by decide +kernel
theorem dJx4a65c_add_9ea2d_6 : decode cJx4a65c_add_9ea2d 6 = .ok (.iadd, 1) := by decide +kernel
theorem dJx4a65c_add_9ea2d_7 : decode cJx4a65c_add_9ea2d 7 = .ok (.putfield 63, 3) := by decide +kernel
theorem dJx4a65c_add_9ea2d_10 : decode cJx4a65c_add_9ea2d 10 = .ok (.aload_n 0, 1) := by decide +kernel
theorem dJx4a65c_add_9ea2d_11 : decode cJx4a65c_add_9ea2d 11 = .ok (.aload_n 1, 1) := by decide +kernel
theorem dJx4a65c_add_9ea2d_12 : decode cJx4a65c_add_9ea2d 12 = .ok (.aload_n 0, 1) := by decide +kernel
theorem dJx4a65c_add_9ea2d_13 : decode cJx4a65c_add_9ea2d 13 = .ok (.getfield 9, 3) := by decide +kernel
theorem dJx4a65c_add_9ea2d_16 : decode cJx4a65c_add_9ea2d 16 = .ok (.aload_n 0, 1) := by decide +kernel
theorem dJx4a65c_add_9ea2d_17 : decode cJx4a65c_add_9ea2d 17 = .ok (.getfield 48, 3) := by decide +kernel
theorem dJx4a65c_add_9ea2d_20 : decode cJx4a65c_add_9ea2d 20 = .ok (.invokevirtual 131, 3) := by decide +kernel
theorem dJx4a65c_add_9ea2d_23 : decode cJx4a65c_add_9ea2d 23 = .ok (.iconst 1, 1) := by decide +kernel
theorem dJx4a65c_add_9ea2d_24 : decode cJx4a65c_add_9ea2d 24 = .ok (.ireturn, 1) := by decide +kernel
theorem dJx4a65c_clear_da8c8_0 : decode cJx4a65c_clear_da8c8 0 = .ok (.aload_n 0, 1) := by decide +kernel
theorem dJx4a65c_clear_da8c8_1 : decode cJx4a65c_clear_da8c8 1 = .ok (.dup, 1) := by decide +kernel
theorem dJx4a65c_clear_da8c8_2 : decode cJx4a65c_clear_da8c8 2 = .ok (.getfield 63, 3) := by decide +kernel
theorem dJx4a65c_clear_da8c8_5 : decode cJx4a65c_clear_da8c8 5 = .ok (.iconst 1, 1) := by decide +kernel
theorem dJx4a65c_clear_da8c8_6 : decode cJx4a65c_clear_da8c8 6 = .ok (.iadd, 1) := by decide +kernel
theorem dJx4a65c_clear_da8c8_7 : decode cJx4a65c_clear_da8c8 7 = .ok (.putfield 63, 3) := by decide +kernel
theorem dJx4a65c_clear_da8c8_10 : decode cJx4a65c_clear_da8c8 10 = .ok (.aload_n 0, 1) := by decide +kernel
theorem dJx4a65c_clear_da8c8_11 : decode cJx4a65c_clear_da8c8 11 = .ok (.getfield 9, 3) := by decide +kernel
theorem dJx4a65c_clear_da8c8_14 : decode cJx4a65c_clear_da8c8 14 = .ok (.astore_n 1, 1) := by decide +kernel
theorem dJx4a65c_clear_da8c8_15 : decode cJx4a65c_clear_da8c8 15 = .ok (.aload_n 0, 1) := by decide +kernel
theorem dJx4a65c_clear_da8c8_16 : decode cJx4a65c_clear_da8c8 16 = .ok (.getfield 48, 3) := by decide +kernel
theorem dJx4a65c_clear_da8c8_19 : decode cJx4a65c_clear_da8c8 19 = .ok (.istore_n 2, 1) := by decide +kernel
theorem dJx4a65c_clear_da8c8_20 : decode cJx4a65c_clear_da8c8 20 = .ok (.aload_n 0, 1) := by decide +kernel
theorem dJx4a65c_clear_da8c8_21 : decode cJx4a65c_clear_da8c8 21 = .ok (.iconst 0, 1) := by decide +kernel
theorem dJx4a65c_clear_da8c8_22 : decode cJx4a65c_clear_da8c8 22 = .ok (.dup_x1, 1) := by decide +kernel
theorem dJx4a65c_clear_da8c8_23 : decode cJx4a65c_clear_da8c8 23 = .ok (.putfield 48, 3) := by decide +kernel
theorem dJx4a65c_clear_da8c8_26 : decode cJx4a65c_clear_da8c8 26 = .ok (.istore_n 3, 1) := by decide +kernel
theorem dJx4a65c_clear_da8c8_27 : decode cJx4a65c_clear_da8c8 27 = .ok (.iload_n 3, 1) := by decide +kernel
theorem dJx4a65c_clear_da8c8_28 : decode cJx4a65c_clear_da8c8 28 = .ok (.iload_n 2, 1) := by decide +kernel
theorem dJx4a65c_clear_da8c8_29 : decode cJx4a65c_clear_da8c8 29 = .ok (.if_icmp .ge 13, 3) := by decide +kernel
theorem dJx4a65c_clear_da8c8_32 : decode cJx4a65c_clear_da8c8 32 = .ok (.aload_n 1, 1) := by decide +kernel
theorem dJx4a65c_clear_da8c8_33 : decode cJx4a65c_clear_da8c8 33 = .ok (.iload_n 3, 1) := by decide +kernel
theorem dJx4a65c_clear_da8c8_34 : decode cJx4a65c_clear_da8c8 34 = .ok (.aconst_null, 1) := by decide +kernel
theorem dJx4a65c_clear_da8c8_35 : decode cJx4a65c_clear_da8c8 35 = .ok (.aastore, 1) := by decide +kernel
theorem dJx4a65c_clear_da8c8_36 : decode cJx4a65c_clear_da8c8 36 = .ok (.iinc 3 1, 3) := by decide +kernel
theorem dJx4a65c_clear_da8c8_39 : decode cJx4a65c_clear_da8c8 39 = .ok (.goto (-12), 3) := by decide +kernel
theorem dJx4a65c_clear_da8c8_42 : decode cJx4a65c_clear_da8c8 42 = .ok (.return_, 1) := by decide +kernel
theorem dJ7_fill_53178_0 : decode cJ7_fill_53178 0 = .ok (.iconst 0, 1) := by decide +kernel
theorem dJ7_fill_53178_1 : decode cJ7_fill_53178 1 = .ok (.istore_n 2, 1) := by decide +kernel
theorem dJ7_fill_53178_2 : decode cJ7_fill_53178 2 = .ok (.aload_n 0, 1) := by decide +kernel
theorem dJ7_fill_53178_3 : decode cJ7_fill_53178 3 = .ok (.arraylength, 1) := by decide +kernel
theorem dJ7_fill_53178_4 : decode cJ7_fill_53178 4 = .ok (.istore_n 3, 1) := by decide +kernel
theorem dJ7_fill_53178_5 : decode cJ7_fill_53178 5 = .ok (.iload_n 2, 1) := by decide +kernel
theorem dJ7_fill_53178_6 : decode cJ7_fill_53178 6 = .ok (.iload_n 3, 1) := by decide +kernel
theorem dJ7_fill_53178_7 : decode cJ7_fill_53178 7 = .ok (.if_icmp .ge 13, 3) := by decide +kernel
theorem dJ7_fill_53178_10 : decode cJ7_fill_53178 10 = .ok (.aload_n 0, 1) := by decide +kernel
theorem dJ7_fill_53178_11 : decode cJ7_fill_53178 11 = .ok (.iload_n 2, 1) := by decide +kernel
theorem dJ7_fill_53178_12 : decode cJ7_fill_53178 12 = .ok (.iload_n 1, 1) := by decide +kernel
theorem dJ7_fill_53178_13 : decode cJ7_fill_53178 13 = .ok (.iastore, 1) := by decide +kernel
theorem dJ7_fill_53178_14 : decode cJ7_fill_53178 14 = .ok (.iinc 2 1, 3) := by decide +kernel
theorem dJ7_fill_53178_17 : decode cJ7_fill_53178 17 = .ok (.goto (-12), 3) := by decide +kernel
theorem dJ7_fill_53178_20 : decode cJ7_fill_53178 20 = .ok (.return_, 1) := by decide +kernel
theorem dJ7_copyOf_1904c_0 : decode cJ7_copyOf_1904c 0 = .ok (.aload_n 0, 1) := by decide +kernel
theorem dJ7_copyOf_1904c_1 : decode cJ7_copyOf_1904c 1 = .ok (.iload_n 1, 1) := by decide +kernel
theorem dJ7_copyOf_1904c_2 : decode cJ7_copyOf_1904c 2 = .ok (.aload_n 0, 1) := by decide +kernel
theorem dJ7_copyOf_1904c_3 : decode cJ7_copyOf_1904c 3 = .ok (.invokevirtual 86, 3) := by decide +kernel
theorem dJ7_copyOf_1904c_6 : decode cJ7_copyOf_1904c 6 = .ok (.invokestatic 300, 3) := by decide +kernel
theorem dJ7_copyOf_1904c_9 : decode cJ7_copyOf_1904c 9 = .ok (.areturn, 1) := by decide +kernel
theorem dJ7_copyOf_6403c_0 : decode cJ7_copyOf_6403c 0 = .ok (.aload_n 2, 1) := by decide +kernel
theorem dJ7_copyOf_6403c_1 : decode cJ7_copyOf_6403c 1 = .ok (.ldc 110, 2) := by decide +kernel
theorem dJ7_copyOf_6403c_3 : decode cJ7_copyOf_6403c 3 = .ok (.if_acmp .ne 10, 3) := by decide +kernel
theorem dJ7_copyOf_6403c_6 : decode cJ7_copyOf_6403c 6 = .ok (.iload_n 1, 1) := by decide +kernel
theorem dJ7_copyOf_6403c_7 : decode cJ7_copyOf_6403c 7 = .ok (.anewarray 2, 3) := by decide +kernel
theorem dJ7_copyOf_6403c_10 : decode cJ7_copyOf_6403c 10 = .ok (.goto 14, 3) := by decide +kernel
theorem dJ7_copyOf_6403c_13 : decode cJ7_copyOf_6403c 13 = .ok (.aload_n 2, 1) := by decide +kernel
theorem dJ7_copyOf_6403c_14 : decode cJ7_copyOf_6403c 14 = .ok (.invokevirtual 90, 3) := by decide +kernel
theorem dJ7_copyOf_6403c_17 : decode cJ7_copyOf_6403c 17 = .ok (.iload_n 1, 1) := by decide +kernel
theorem dJ7_copyOf_6403c_18 : decode cJ7_copyOf_6403c 18 = .ok (.invokestatic 95, 3) := by decide +kernel
theorem dJ7_copyOf_6403c_21 : decode cJ7_copyOf_6403c 21 = .ok (.checkcast 110, 3) := by decide +kernel
theorem dJ7_copyOf_6403c_24 : decode cJ7_copyOf_6403c 24 = .ok (.astore_n 3, 1) := by decide +kernel
theorem dJ7_copyOf_6403c_25 : decode cJ7_copyOf_6403c 25 = .ok (.aload_n 0, 1) := by decide +kernel
theorem dJ7_copyOf_6403c_26 : decode cJ7_copyOf_6403c 26 = .ok (.iconst 0, 1) := by decide +kernel
theorem dJ7_copyOf_6403c_27 : decode cJ7_copyOf_6403c 27 = .ok (.aload_n 3, 1) := by decide +kernel
theorem dJ7_copyOf_6403c_28 : decode cJ7_copyOf_6403c 28 = .ok (.iconst 0, 1) := by decide +kernel
theorem dJ7_copyOf_6403c_29 : decode cJ7_copyOf_6403c 29 = .ok (.aload_n 0, 1) := by decide +kernel
theorem dJ7_copyOf_6403c_30 : decode cJ7_copyOf_6403c 30 = .ok (.arraylength, 1) := by decide +kernel
theorem dJ7_copyOf_6403c_31 : decode cJ7_copyOf_6403c 31 = .ok (.iload_n 1, 1) := by decide +kernel
theorem dJ7_copyOf_6403c_32 : decode cJ7_copyOf_6403c 32 = .ok (.invokestatic 304, 3) := by decide +kernel
theorem dJ7_copyOf_6403c_35 : decode cJ7_copyOf_6403c 35 = .ok (.invokestatic 150, 3) := by decide +kernel
theorem dJ7_copyOf_6403c_38 : decode cJ7_copyOf_6403c 38 = .ok (.aload_n 3, 1) := by decide +kernel
theorem dJ7_copyOf_6403c_39 : decode cJ7_copyOf_6403c 39 = .ok (.areturn, 1) := by decide +kernel
theorem dJ7_copyOf_59c91_0 : decode cJ7_copyOf_59c91 0 = .ok (.iload_n 1, 1) := by decide +kernel
theorem dJ7_copyOf_59c91_1 : decode cJ7_copyOf_59c91 1 = .ok (.aload_n 0, 1) := by decide +kernel
theorem dJ7_copyOf_59c91_2 : decode cJ7_copyOf_59c91 2 = .ok (.arraylength, 1) := by decide +kernel
theorem dJ7_copyOf_59c91_3 : decode cJ7_copyOf_59c91 3 = .ok (.if_icmp .ne 11, 3) := by decide +kernel
theorem dJ7_copyOf_59c91_6 : decode cJ7_copyOf_59c91 6 = .ok (.aload_n 0, 1) := by decide +kernel
theorem dJ7_copyOf_59c91_7 : decode cJ7_copyOf_59c91 7 = .ok (.invokevirtual 316, 3) := by decide +kernel
theorem dJ7_copyOf_59c91_10 : decode cJ7_copyOf_59c91 10 = .ok (.checkcast 317, 3) := by decide +kernel
theorem dJ7_copyOf_59c91_13 : decode cJ7_copyOf_59c91 13 = .ok (.areturn, 1) := by decide +kernel
theorem dJ7_copyOf_59c91_14 : decode cJ7_copyOf_59c91 14 = .ok (.iload_n 1, 1) := by decide +kernel
theorem dJ7_copyOf_59c91_15 : decode cJ7_copyOf_59c91 15 = .ok (.newarray .int, 2) := by decide +kernel
theorem dJ7_copyOf_59c91_17 : decode cJ7_copyOf_59c91 17 = .ok (.astore_n 2, 1) := by decide +kernel
theorem dJ7_copyOf_59c91_18 : decode cJ7_copyOf_59c91 18 = .ok (.aload_n 0, 1) := by decide +kernel
theorem dJ7_copyOf_59c91_19 : decode cJ7_copyOf_59c91 19 = .ok (.iconst 0, 1) := by decide +kernel
theorem dJ7_copyOf_59c91_20 : decode cJ7_copyOf_59c91 20 = .ok (.aload_n 2, 1) := by decide +kernel
theorem dJ7_copyOf_59c91_21 : decode cJ7_copyOf_59c91 21 = .ok (.iconst 0, 1) := by decide +kernel
theorem dJ7_copyOf_59c91_22 : decode cJ7_copyOf_59c91 22 = .ok (.aload_n 0, 1) := by decide +kernel
theorem dJ7_copyOf_59c91_23 : decode cJ7_copyOf_59c91 23 = .ok (.arraylength, 1) := by decide +kernel
theorem dJ7_copyOf_59c91_24 : decode cJ7_copyOf_59c91 24 = .ok (.iload_n 1, 1) := by decide +kernel
theorem dJ7_copyOf_59c91_25 : decode cJ7_copyOf_59c91 25 = .ok (.invokestatic 304, 3) := by decide +kernel
theorem dJ7_copyOf_59c91_28 : decode cJ7_copyOf_59c91 28 = .ok (.invokestatic 150, 3) := by decide +kernel
theorem dJ7_copyOf_59c91_31 : decode cJ7_copyOf_59c91 31 = .ok (.aload_n 2, 1) := by decide +kernel
theorem dJ7_copyOf_59c91_32 : decode cJ7_copyOf_59c91 32 = .ok (.areturn, 1) := by decide +kernel
theorem dJ7_copyOf_c38d5_0 : decode cJ7_copyOf_c38d5 0 = .ok (.iload_n 1, 1) := by decide +kernel
theorem dJ7_copyOf_c38d5_1 : decode cJ7_copyOf_c38d5 1 = .ok (.aload_n 0, 1) := by decide +kernel
theorem dJ7_copyOf_c38d5_2 : decode cJ7_copyOf_c38d5 2 = .ok (.arraylength, 1) := by decide +kernel
theorem dJ7_copyOf_c38d5_3 : decode cJ7_copyOf_c38d5 3 = .ok (.if_icmp .ne 11, 3) := by decide +kernel
theorem dJ7_copyOf_c38d5_6 : decode cJ7_copyOf_c38d5 6 = .ok (.aload_n 0, 1) := by decide +kernel
theorem dJ7_copyOf_c38d5_7 : decode cJ7_copyOf_c38d5 7 = .ok (.invokevirtual 319, 3) := by decide +kernel
theorem dJ7_copyOf_c38d5_10 : decode cJ7_copyOf_c38d5 10 = .ok (.checkcast 320, 3) := by decide +kernel
theorem dJ7_copyOf_c38d5_13 : decode cJ7_copyOf_c38d5 13 = .ok (.areturn, 1) := by decide +kernel
theorem dJ7_copyOf_c38d5_14 : decode cJ7_copyOf_c38d5 14 = .ok (.iload_n 1, 1) := by decide +kernel
theorem dJ7_copyOf_c38d5_15 : decode cJ7_copyOf_c38d5 15 = .ok (.newarray .long, 2) := by decide +kernel
theorem dJ7_copyOf_c38d5_17 : decode cJ7_copyOf_c38d5 17 = .ok (.astore_n 2, 1) := by decide +kernel
theorem dJ7_copyOf_c38d5_18 : decode cJ7_copyOf_c38d5 18 = .ok (.aload_n 0, 1) := by decide +kernel
theorem dJ7_copyOf_c38d5_19 : decode cJ7_copyOf_c38d5 19 = .ok (.iconst 0, 1) := by decide +kernel
theorem dJ7_copyOf_c38d5_20 : decode cJ7_copyOf_c38d5 20 = .ok (.aload_n 2, 1) := by decide +kernel
theorem dJ7_copyOf_c38d5_21 : decode cJ7_copyOf_c38d5 21 = .ok (.iconst 0, 1) := by decide +kernel
theorem dJ7_copyOf_c38d5_22 : decode cJ7_copyOf_c38d5 22 = .ok (.aload_n 0, 1) := by decide +kernel
theorem dJ7_copyOf_c38d5_23 : decode cJ7_copyOf_c38d5 23 = .ok (.arraylength, 1) := by decide +kernel
theorem dJ7_copyOf_c38d5_24 : decode cJ7_copyOf_c38d5 24 = .ok (.iload_n 1, 1) := by decide +kernel
theorem dJ7_copyOf_c38d5_25 : decode cJ7_copyOf_c38d5 25 = .ok (.invokestatic 304, 3) := by decide +kernel
theorem dJ7_copyOf_c38d5_28 : decode cJ7_copyOf_c38d5 28 = .ok (.invokestatic 150, 3) := by decide +kernel
theorem dJ7_copyOf_c38d5_31 : decode cJ7_copyOf_c38d5 31 = .ok (.aload_n 2, 1) := by decide +kernel
theorem dJ7_copyOf_c38d5_32 : decode cJ7_copyOf_c38d5 32 = .ok (.areturn, 1) := by decide +kernel
theorem dJ15_checkIndex_7cf53_0 : decode cJ15_checkIndex_7cf53 0 = .ok (.iload_n 0, 1) := by decide +kernel
theorem dJ15_checkIndex_7cf53_1 : decode cJ15_checkIndex_7cf53 1 = .ok (.iload_n 1, 1) := by decide +kernel
theorem dJ15_checkIndex_7cf53_2 : decode cJ15_checkIndex_7cf53 2 = .ok (.aconst_null, 1) := by decide +kernel
theorem dJ15_checkIndex_7cf53_3 : decode cJ15_checkIndex_7cf53 3 = .ok (.invokestatic 105, 3) := by decide +kernel
theorem dJ15_checkIndex_7cf53_6 : decode cJ15_checkIndex_7cf53 6 = .ok (.ireturn, 1) := by decide +kernel
theorem dJ8_newLength_cabcc_0 : decode cJ8_newLength_cabcc 0 = .ok (.iload_n 0, 1) := by decide +kernel
theorem dJ8_newLength_cabcc_1 : decode cJ8_newLength_cabcc 1 = .ok (.iload_n 1, 1) := by decide +kernel
theorem dJ8_newLength_cabcc_2 : decode cJ8_newLength_cabcc 2 = .ok (.iload_n 2, 1) := by decide +kernel
theorem dJ8_newLength_cabcc_3 : decode cJ8_newLength_cabcc 3 = .ok (.invokestatic 194, 3) := by decide +kernel
theorem dJ8_newLength_cabcc_6 : decode cJ8_newLength_cabcc 6 = .ok (.iadd, 1) := by decide +kernel
theorem dJ8_newLength_cabcc_7 : decode cJ8_newLength_cabcc 7 = .ok (.istore_n 3, 1) := by decide +kernel
theorem dJ8_newLength_cabcc_8 : decode cJ8_newLength_cabcc 8 = .ok (.iconst 0, 1) := by decide +kernel
theorem dJ8_newLength_cabcc_9 : decode cJ8_newLength_cabcc 9 = .ok (.iload_n 3, 1) := by decide +kernel
theorem dJ8_newLength_cabcc_10 : decode cJ8_newLength_cabcc 10 = .ok (.if_icmp .ge 11, 3) := by decide +kernel
theorem dJ8_newLength_cabcc_13 : decode cJ8_newLength_cabcc 13 = .ok (.iload_n 3, 1) := by decide +kernel
theorem dJ8_newLength_cabcc_14 : decode cJ8_newLength_cabcc 14 = .ok (.ldc 200, 2) := by decide +kernel
theorem dJ8_newLength_cabcc_16 : decode cJ8_newLength_cabcc 16 = .ok (.if_icmp .gt 5, 3) := by decide +kernel
theorem dJ8_newLength_cabcc_19 : decode cJ8_newLength_cabcc 19 = .ok (.iload_n 3, 1) := by decide +kernel
theorem dJ8_newLength_cabcc_20 : decode cJ8_newLength_cabcc 20 = .ok (.ireturn, 1) := by decide +kernel
theorem dJ8_newLength_cabcc_21 : decode cJ8_newLength_cabcc 21 = .ok (.iload_n 0, 1) := by decide +kernel
theorem dJ8_newLength_cabcc_22 : decode cJ8_newLength_cabcc 22 = .ok (.iload_n 1, 1) := by decide +kernel
theorem dJ8_newLength_cabcc_23 : decode cJ8_newLength_cabcc 23 = .ok (.invokestatic 201, 3) := by decide +kernel
theorem dJ8_newLength_cabcc_26 : decode cJ8_newLength_cabcc 26 = .ok (.ireturn, 1) := by decide +kernel
theorem dJ8_hugeLength_7cf53_0 : decode cJ8_hugeLength_7cf53 0 = .ok (.iload_n 0, 1) := by decide +kernel
theorem dJ8_hugeLength_7cf53_1 : decode cJ8_hugeLength_7cf53 1 = .ok (.iload_n 1, 1) := by decide +kernel
theorem dJ8_hugeLength_7cf53_2 : decode cJ8_hugeLength_7cf53 2 = .ok (.iadd, 1) := by decide +kernel
theorem dJ8_hugeLength_7cf53_3 : decode cJ8_hugeLength_7cf53 3 = .ok (.istore_n 2, 1) := by decide +kernel
theorem dJ8_hugeLength_7cf53_4 : decode cJ8_hugeLength_7cf53 4 = .ok (.iload_n 2, 1) := by decide +kernel
theorem dJ8_hugeLength_7cf53_5 : decode cJ8_hugeLength_7cf53 5 = .ok (.ifCond .ge 44, 3) := by decide +kernel
theorem dJ8_hugeLength_7cf53_8 : decode cJ8_hugeLength_7cf53 8 = .ok (.new 204, 3) := by decide +kernel
theorem dJ8_hugeLength_7cf53_11 : decode cJ8_hugeLength_7cf53 11 = .ok (.dup, 1) := by decide +kernel
theorem dJ8_hugeLength_7cf53_12 : decode cJ8_hugeLength_7cf53 12 = .ok (.new 89, 3) := by decide +kernel
theorem dJ8_hugeLength_7cf53_15 : decode cJ8_hugeLength_7cf53 15 = .ok (.dup, 1) := by decide +kernel
theorem dJ8_hugeLength_7cf53_16 : decode cJ8_hugeLength_7cf53 16 = .ok (.invokespecial 91, 3) := by decide +kernel
theorem dJ8_hugeLength_7cf53_19 : decode cJ8_hugeLength_7cf53 19 = .ok (.ldc 206, 2) := by decide +kernel
theorem dJ8_hugeLength_7cf53_21 : decode cJ8_hugeLength_7cf53 21 = .ok (.invokevirtual 94, 3) := by decide +kernel
theorem dJ8_hugeLength_7cf53_24 : decode cJ8_hugeLength_7cf53 24 = .ok (.iload_n 0, 1) := by decide +kernel
theorem dJ8_hugeLength_7cf53_25 : decode cJ8_hugeLength_7cf53 25 = .ok (.invokevirtual 98, 3) := by decide +kernel
theorem dJ8_hugeLength_7cf53_28 : decode cJ8_hugeLength_7cf53 28 = .ok (.ldc 208, 2) := by decide +kernel
theorem dJ8_hugeLength_7cf53_30 : decode cJ8_hugeLength_7cf53 30 = .ok (.invokevirtual 94, 3) := by decide +kernel
theorem dJ8_hugeLength_7cf53_33 : decode cJ8_hugeLength_7cf53 33 = .ok (.iload_n 1, 1) := by decide +kernel
theorem dJ8_hugeLength_7cf53_34 : decode cJ8_hugeLength_7cf53 34 = .ok (.invokevirtual 98, 3) := by decide +kernel
theorem dJ8_hugeLength_7cf53_37 : decode cJ8_hugeLength_7cf53 37 = .ok (.ldc 210, 2) := by decide +kernel
theorem dJ8_hugeLength_7cf53_39 : decode cJ8_hugeLength_7cf53 39 = .ok (.invokevirtual 94, 3) := by decide +kernel
theorem dJ8_hugeLength_7cf53_42 : decode cJ8_hugeLength_7cf53 42 = .ok (.invokevirtual 101, 3) := by decide +kernel
theorem dJ8_hugeLength_7cf53_45 : decode cJ8_hugeLength_7cf53 45 = .ok (.invokespecial 212, 3) := by decide +kernel
theorem dJ8_hugeLength_7cf53_48 : decode cJ8_hugeLength_7cf53 48 = .ok (.athrow, 1) := by decide +kernel
theorem dJ8_hugeLength_7cf53_49 : decode cJ8_hugeLength_7cf53 49 = .ok (.iload_n 2, 1) := by decide +kernel
theorem dJ8_hugeLength_7cf53_50 : decode cJ8_hugeLength_7cf53 50 = .ok (.ldc 200, 2) := by decide +kernel
theorem dJ8_hugeLength_7cf53_52 : decode cJ8_hugeLength_7cf53 52 = .ok (.if_icmp .gt 6, 3) := by decide +kernel
theorem dJ8_hugeLength_7cf53_55 : decode cJ8_hugeLength_7cf53 55 = .ok (.ldc 200, 2) := by decide +kernel
theorem dJ8_hugeLength_7cf53_57 : decode cJ8_hugeLength_7cf53 57 = .ok (.ireturn, 1) := by decide +kernel
theorem dJ8_hugeLength_7cf53_58 : decode cJ8_hugeLength_7cf53 58 = .ok (.iload_n 2, 1) := by decide +kernel
theorem dJ8_hugeLength_7cf53_59 : decode cJ8_hugeLength_7cf53 59 = .ok (.ireturn, 1) := by decide +kernel
theorem dJ3_checkIndex_8e157_0 : decode cJ3_checkIndex_8e157 0 = .ok (.iload_n 0, 1) := by decide +kernel
theorem dJ3_checkIndex_8e157_1 : decode cJ3_checkIndex_8e157 1 = .ok (.ifCond .lt 8, 3) := by decide +kernel
theorem dJ3_checkIndex_8e157_4 : decode cJ3_checkIndex_8e157 4 = .ok (.iload_n 0, 1) := by decide +kernel
theorem dJ3_checkIndex_8e157_5 : decode cJ3_checkIndex_8e157 5 = .ok (.iload_n 1, 1) := by decide +kernel
theorem dJ3_checkIndex_8e157_6 : decode cJ3_checkIndex_8e157 6 = .ok (.if_icmp .lt 10, 3) := by decide +kernel
theorem dJ3_checkIndex_8e157_9 : decode cJ3_checkIndex_8e157 9 = .ok (.aload_n 2, 1) := by decide +kernel
theorem dJ3_checkIndex_8e157_10 : decode cJ3_checkIndex_8e157 10 = .ok (.iload_n 0, 1) := by decide +kernel
theorem dJ3_checkIndex_8e157_11 : decode cJ3_checkIndex_8e157 11 = .ok (.iload_n 1, 1) := by decide +kernel
theorem dJ3_checkIndex_8e157_12 : decode cJ3_checkIndex_8e157 12 = .ok (.invokestatic 95, 3) := by decide +kernel
theorem dJ3_checkIndex_8e157_15 : decode cJ3_checkIndex_8e157 15 = .ok (.athrow, 1) := by decide +kernel
theorem dJ3_checkIndex_8e157_16 : decode cJ3_checkIndex_8e157 16 = .ok (.iload_n 0, 1) := by decide +kernel
theorem dJ3_checkIndex_8e157_17 : decode cJ3_checkIndex_8e157 17 = .ok (.ireturn, 1) := by decide +kernel
theorem dJ3_checkFromToIndex_8c36e_0 : decode cJ3_checkFromToIndex_8c36e 0 = .ok (.iload_n 0, 1) := by decide +kernel
theorem dJ3_checkFromToIndex_8c36e_1 : decode cJ3_checkFromToIndex_8c36e 1 = .ok (.ifCond .lt 13, 3) := by decide +kernel
theorem dJ3_checkFromToIndex_8c36e_4 : decode cJ3_checkFromToIndex_8c36e 4 = .ok (.iload_n 0, 1) := by decide +kernel
theorem dJ3_checkFromToIndex_8c36e_5 : decode cJ3_checkFromToIndex_8c36e 5 = .ok (.iload_n 1, 1) := by decide +kernel
theorem dJ3_checkFromToIndex_8c36e_6 : decode cJ3_checkFromToIndex_8c36e 6 = .ok (.if_icmp .gt 8, 3) := by decide +kernel
theorem dJ3_checkFromToIndex_8c36e_9 : decode cJ3_checkFromToIndex_8c36e 9 = .ok (.iload_n 1, 1) := by decide +kernel
theorem dJ3_checkFromToIndex_8c36e_10 : decode cJ3_checkFromToIndex_8c36e 10 = .ok (.iload_n 2, 1) := by decide +kernel
theorem dJ3_checkFromToIndex_8c36e_11 : decode cJ3_checkFromToIndex_8c36e 11 = .ok (.if_icmp .le 11, 3) := by decide +kernel
theorem dJ3_checkFromToIndex_8c36e_14 : decode cJ3_checkFromToIndex_8c36e 14 = .ok (.aload_n 3, 1) := by decide +kernel
theorem dJ3_checkFromToIndex_8c36e_15 : decode cJ3_checkFromToIndex_8c36e 15 = .ok (.iload_n 0, 1) := by decide +kernel
theorem dJ3_checkFromToIndex_8c36e_16 : decode cJ3_checkFromToIndex_8c36e 16 = .ok (.iload_n 1, 1) := by decide +kernel
theorem dJ3_checkFromToIndex_8c36e_17 : decode cJ3_checkFromToIndex_8c36e 17 = .ok (.iload_n 2, 1) := by decide +kernel
theorem dJ3_checkFromToIndex_8c36e_18 : decode cJ3_checkFromToIndex_8c36e 18 = .ok (.invokestatic 99, 3) := by decide +kernel
theorem dJ3_checkFromToIndex_8c36e_21 : decode cJ3_checkFromToIndex_8c36e 21 = .ok (.athrow, 1) := by decide +kernel
theorem dJ3_checkFromToIndex_8c36e_22 : decode cJ3_checkFromToIndex_8c36e 22 = .ok (.iload_n 0, 1) := by decide +kernel
theorem dJ3_checkFromToIndex_8c36e_23 : decode cJ3_checkFromToIndex_8c36e 23 = .ok (.ireturn, 1) := by decide +kernel
theorem dL_act_0 : decode cL_act 0 = .ok (.aload_n 3, 1) := by decide +kernel
theorem dL_act_1 : decode cL_act 1 = .ok (.iconst 0, 1) := by decide +kernel
theorem dL_act_2 : decode cL_act 2 = .ok (.aload_n 0, 1) := by decide +kernel
theorem dL_act_3 : decode cL_act 3 = .ok (.iload_n 1, 1) := by decide +kernel
theorem dL_act_4 : decode cL_act 4 = .ok (.iload_n 2, 1) := by decide +kernel
theorem dL_act_5 : decode cL_act 5 = .ok (.invokevirtual 7, 3) := by decide +kernel
theorem dL_act_8 : decode cL_act 8 = .ok (.i2l, 1) := by decide +kernel
theorem dL_act_9 : decode cL_act 9 = .ok (.lastore, 1) := by decide +kernel
theorem dL_act_10 : decode cL_act 10 = .ok (.goto 11, 3) := by decide +kernel
theorem dL_act_13 : decode cL_act 13 = .ok (.astore 4, 2) := by decide +kernel
theorem dL_act_15 : decode cL_act 15 = .ok (.iconst 1, 1) := by decide +kernel
theorem dL_act_16 : decode cL_act 16 = .ok (.ireturn, 1) := by decide +kernel
theorem dL_act_17 : decode cL_act 17 = .ok (.astore 4, 2) := by decide +kernel
theorem dL_act_19 : decode cL_act 19 = .ok (.iconst 2, 1) := by decide +kernel
theorem dL_act_20 : decode cL_act 20 = .ok (.ireturn, 1) := by decide +kernel
theorem dL_act_21 : decode cL_act 21 = .ok (.iconst 0, 1) := by decide +kernel
theorem dL_act_22 : decode cL_act 22 = .ok (.ireturn, 1) := by decide +kernel
theorem dL_stretch_0 : decode cL_stretch 0 = .ok (.aload_n 2, 1) := by decide +kernel
theorem dL_stretch_1 : decode cL_stretch 1 = .ok (.iconst 0, 1) := by decide +kernel
theorem dL_stretch_2 : decode cL_stretch 2 = .ok (.aload_n 0, 1) := by decide +kernel
theorem dL_stretch_3 : decode cL_stretch 3 = .ok (.iload_n 1, 1) := by decide +kernel
theorem dL_stretch_4 : decode cL_stretch 4 = .ok (.invokevirtual 17, 3) := by decide +kernel
theorem dL_stretch_7 : decode cL_stretch 7 = .ok (.i2l, 1) := by decide +kernel
theorem dL_stretch_8 : decode cL_stretch 8 = .ok (.lastore, 1) := by decide +kernel
theorem dL_stretch_9 : decode cL_stretch 9 = .ok (.goto 9, 3) := by decide +kernel
theorem dL_stretch_12 : decode cL_stretch 12 = .ok (.astore_n 3, 1) := by decide +kernel
theorem dL_stretch_13 : decode cL_stretch 13 = .ok (.iconst 1, 1) := by decide +kernel
theorem dL_stretch_14 : decode cL_stretch 14 = .ok (.ireturn, 1) := by decide +kernel
theorem dL_stretch_15 : decode cL_stretch 15 = .ok (.astore_n 3, 1) := by decide +kernel
theorem dL_stretch_16 : decode cL_stretch 16 = .ok (.iconst 2, 1) := by decide +kernel
theorem dL_stretch_17 : decode cL_stretch 17 = .ok (.ireturn, 1) := by decide +kernel
theorem dL_stretch_18 : decode cL_stretch 18 = .ok (.iconst 0, 1) := by decide +kernel
theorem dL_stretch_19 : decode cL_stretch 19 = .ok (.ireturn, 1) := by decide +kernel
theorem dL_gate_0 : decode cL_gate 0 = .ok (.aload_n 2, 1) := by decide +kernel
theorem dL_gate_1 : decode cL_gate 1 = .ok (.iconst 0, 1) := by decide +kernel
theorem dL_gate_2 : decode cL_gate 2 = .ok (.aload_n 0, 1) := by decide +kernel
theorem dL_gate_3 : decode cL_gate 3 = .ok (.iload_n 1, 1) := by decide +kernel
theorem dL_gate_4 : decode cL_gate 4 = .ok (.invokevirtual 21, 3) := by decide +kernel
theorem dL_gate_7 : decode cL_gate 7 = .ok (.i2l, 1) := by decide +kernel
theorem dL_gate_8 : decode cL_gate 8 = .ok (.lastore, 1) := by decide +kernel
theorem dL_gate_9 : decode cL_gate 9 = .ok (.goto 9, 3) := by decide +kernel
theorem dL_gate_12 : decode cL_gate 12 = .ok (.astore_n 3, 1) := by decide +kernel
theorem dL_gate_13 : decode cL_gate 13 = .ok (.iconst 1, 1) := by decide +kernel
theorem dL_gate_14 : decode cL_gate 14 = .ok (.ireturn, 1) := by decide +kernel
theorem dL_gate_15 : decode cL_gate 15 = .ok (.astore_n 3, 1) := by decide +kernel
theorem dL_gate_16 : decode cL_gate 16 = .ok (.iconst 2, 1) := by decide +kernel
theorem dL_gate_17 : decode cL_gate 17 = .ok (.ireturn, 1) := by decide +kernel
theorem dL_gate_18 : decode cL_gate 18 = .ok (.iconst 0, 1) := by decide +kernel
theorem dL_gate_19 : decode cL_gate 19 = .ok (.ireturn, 1) := by decide +kernel
theorem dL_traveller_0 : decode cL_traveller 0 = .ok (.aload 5, 2) := by decide +kernel
theorem dL_traveller_2 : decode cL_traveller 2 = .ok (.iconst 0, 1) := by decide +kernel
theorem dL_traveller_3 : decode cL_traveller 3 = .ok (.aload_n 0, 1) := by decide +kernel
theorem dL_traveller_4 : decode cL_traveller 4 = .ok (.iload_n 1, 1) := by decide +kernel
theorem dL_traveller_5 : decode cL_traveller 5 = .ok (.iload_n 2, 1) := by decide +kernel
theorem dL_traveller_6 : decode cL_traveller 6 = .ok (.iload_n 3, 1) := by decide +kernel
theorem dL_traveller_7 : decode cL_traveller 7 = .ok (.iload 4, 2) := by decide +kernel
theorem dL_traveller_9 : decode cL_traveller 9 = .ok (.invokevirtual 26, 3) := by decide +kernel
theorem dL_traveller_12 : decode cL_traveller 12 = .ok (.i2l, 1) := by decide +kernel
theorem dL_traveller_13 : decode cL_traveller 13 = .ok (.lastore, 1) := by decide +kernel
theorem dL_traveller_14 : decode cL_traveller 14 = .ok (.goto 11, 3) := by decide +kernel
theorem dL_traveller_17 : decode cL_traveller 17 = .ok (.astore 6, 2) := by decide +kernel
theorem dL_traveller_19 : decode cL_traveller 19 = .ok (.iconst 1, 1) := by decide +kernel
theorem dL_traveller_20 : decode cL_traveller 20 = .ok (.ireturn, 1) := by decide +kernel
theorem dL_traveller_21 : decode cL_traveller 21 = .ok (.astore 6, 2) := by decide +kernel
theorem dL_traveller_23 : decode cL_traveller 23 = .ok (.iconst 2, 1) := by decide +kernel
theorem dL_traveller_24 : decode cL_traveller 24 = .ok (.ireturn, 1) := by decide +kernel
theorem dL_traveller_25 : decode cL_traveller 25 = .ok (.iconst 0, 1) := by decide +kernel
theorem dL_traveller_26 : decode cL_traveller 26 = .ok (.ireturn, 1) := by decide +kernel
theorem dL_pass_0 : decode cL_pass 0 = .ok (.aload_n 3, 1) := by decide +kernel
theorem dL_pass_1 : decode cL_pass 1 = .ok (.iconst 0, 1) := by decide +kernel
theorem dL_pass_2 : decode cL_pass 2 = .ok (.aload_n 0, 1) := by decide +kernel
theorem dL_pass_3 : decode cL_pass 3 = .ok (.iload_n 1, 1) := by decide +kernel
theorem dL_pass_4 : decode cL_pass 4 = .ok (.iload_n 2, 1) := by decide +kernel
theorem dL_pass_5 : decode cL_pass 5 = .ok (.invokevirtual 30, 3) := by decide +kernel
theorem dL_pass_8 : decode cL_pass 8 = .ok (.i2l, 1) := by decide +kernel
theorem dL_pass_9 : decode cL_pass 9 = .ok (.lastore, 1) := by decide +kernel
theorem dL_pass_10 : decode cL_pass 10 = .ok (.goto 7, 3) := by decide +kernel
theorem dL_pass_13 : decode cL_pass 13 = .ok (.astore 4, 2) := by decide +kernel
theorem dL_pass_15 : decode cL_pass 15 = .ok (.iconst 1, 1) := by decide +kernel
theorem dL_pass_16 : decode cL_pass 16 = .ok (.ireturn, 1) := by decide +kernel
theorem dL_pass_17 : decode cL_pass 17 = .ok (.iconst 0, 1) := by decide +kernel
theorem dL_pass_18 : decode cL_pass 18 = .ok (.ireturn, 1) := by decide +kernel
theorem dL_asked_0 : decode cL_asked 0 = .ok (.aload 4, 2) := by decide +kernel
theorem dL_asked_2 : decode cL_asked 2 = .ok (.iconst 0, 1) := by decide +kernel
theorem dL_asked_3 : decode cL_asked 3 = .ok (.aload_n 0, 1) := by decide +kernel
theorem dL_asked_4 : decode cL_asked 4 = .ok (.iload_n 1, 1) := by decide +kernel
theorem dL_asked_5 : decode cL_asked 5 = .ok (.iload_n 2, 1) := by decide +kernel
theorem dL_asked_6 : decode cL_asked 6 = .ok (.iload_n 3, 1) := by decide +kernel
theorem dL_asked_7 : decode cL_asked 7 = .ok (.invokevirtual 33, 3) := by decide +kernel
theorem dL_asked_10 : decode cL_asked 10 = .ok (.i2l, 1) := by decide +kernel
theorem dL_asked_11 : decode cL_asked 11 = .ok (.lastore, 1) := by decide +kernel
theorem dL_asked_12 : decode cL_asked 12 = .ok (.goto 7, 3) := by decide +kernel
theorem dL_asked_15 : decode cL_asked 15 = .ok (.astore 5, 2) := by decide +kernel
theorem dL_asked_17 : decode cL_asked 17 = .ok (.iconst 1, 1) := by decide +kernel
theorem dL_asked_18 : decode cL_asked 18 = .ok (.ireturn, 1) := by decide +kernel
theorem dL_asked_19 : decode cL_asked 19 = .ok (.iconst 0, 1) := by decide +kernel
theorem dL_asked_20 : decode cL_asked 20 = .ok (.ireturn, 1) := by decide +kernel
theorem dL_force_0 : decode cL_force 0 = .ok (.aload_n 2, 1) := by decide +kernel
theorem dL_force_1 : decode cL_force 1 = .ok (.iconst 0, 1) := by decide +kernel
theorem dL_force_2 : decode cL_force 2 = .ok (.aload_n 0, 1) := by decide +kernel
theorem dL_force_3 : decode cL_force 3 = .ok (.iload_n 1, 1) := by decide +kernel
theorem dL_force_4 : decode cL_force 4 = .ok (.invokevirtual 37, 3) := by decide +kernel
theorem dL_force_7 : decode cL_force 7 = .ok (.i2l, 1) := by decide +kernel
theorem dL_force_8 : decode cL_force 8 = .ok (.lastore, 1) := by decide +kernel
theorem dL_force_9 : decode cL_force 9 = .ok (.goto 6, 3) := by decide +kernel
theorem dL_force_12 : decode cL_force 12 = .ok (.astore_n 3, 1) := by decide +kernel
theorem dL_force_13 : decode cL_force 13 = .ok (.iconst 1, 1) := by decide +kernel
theorem dL_force_14 : decode cL_force 14 = .ok (.ireturn, 1) := by decide +kernel
theorem dL_force_15 : decode cL_force 15 = .ok (.iconst 0, 1) := by decide +kernel
theorem dL_force_16 : decode cL_force 16 = .ok (.ireturn, 1) := by decide +kernel
theorem dL_wait_0 : decode cL_wait 0 = .ok (.aload_n 2, 1) := by decide +kernel
theorem dL_wait_1 : decode cL_wait 1 = .ok (.iconst 0, 1) := by decide +kernel
theorem dL_wait_2 : decode cL_wait 2 = .ok (.aload_n 0, 1) := by decide +kernel
theorem dL_wait_3 : decode cL_wait 3 = .ok (.iload_n 1, 1) := by decide +kernel
theorem dL_wait_4 : decode cL_wait 4 = .ok (.invokevirtual 40, 3) := by decide +kernel
theorem dL_wait_7 : decode cL_wait 7 = .ok (.i2l, 1) := by decide +kernel
theorem dL_wait_8 : decode cL_wait 8 = .ok (.lastore, 1) := by decide +kernel
theorem dL_wait_9 : decode cL_wait 9 = .ok (.goto 6, 3) := by decide +kernel
theorem dL_wait_12 : decode cL_wait 12 = .ok (.astore_n 3, 1) := by decide +kernel
theorem dL_wait_13 : decode cL_wait 13 = .ok (.iconst 1, 1) := by decide +kernel
theorem dL_wait_14 : decode cL_wait 14 = .ok (.ireturn, 1) := by decide +kernel
theorem dL_wait_15 : decode cL_wait 15 = .ok (.iconst 0, 1) := by decide +kernel
theorem dL_wait_16 : decode cL_wait 16 = .ok (.ireturn, 1) := by decide +kernel
theorem dL_rain_0 : decode cL_rain 0 = .ok (.aload_n 0, 1) := by decide +kernel
theorem dL_rain_1 : decode cL_rain 1 = .ok (.iload_n 1, 1) := by decide +kernel
theorem dL_rain_2 : decode cL_rain 2 = .ok (.invokevirtual 43, 3) := by decide +kernel
theorem dL_rain_5 : decode cL_rain 5 = .ok (.goto 6, 3) := by decide +kernel
theorem dL_rain_8 : decode cL_rain 8 = .ok (.astore_n 2, 1) := by decide +kernel
theorem dL_rain_9 : decode cL_rain 9 = .ok (.iconst 1, 1) := by decide +kernel
theorem dL_rain_10 : decode cL_rain 10 = .ok (.ireturn, 1) := by decide +kernel
theorem dL_rain_11 : decode cL_rain 11 = .ok (.iconst 0, 1) := by decide +kernel
theorem dL_rain_12 : decode cL_rain 12 = .ok (.ireturn, 1) := by decide +kernel
theorem dL_mend_0 : decode cL_mend 0 = .ok (.aload_n 2, 1) := by decide +kernel
theorem dL_mend_1 : decode cL_mend 1 = .ok (.iconst 0, 1) := by decide +kernel
theorem dL_mend_2 : decode cL_mend 2 = .ok (.aload_n 0, 1) := by decide +kernel
theorem dL_mend_3 : decode cL_mend 3 = .ok (.iload_n 1, 1) := by decide +kernel
theorem dL_mend_4 : decode cL_mend 4 = .ok (.invokevirtual 47, 3) := by decide +kernel
theorem dL_mend_7 : decode cL_mend 7 = .ok (.i2l, 1) := by decide +kernel
theorem dL_mend_8 : decode cL_mend 8 = .ok (.lastore, 1) := by decide +kernel
theorem dL_mend_9 : decode cL_mend 9 = .ok (.goto 6, 3) := by decide +kernel
theorem dL_mend_12 : decode cL_mend 12 = .ok (.astore_n 3, 1) := by decide +kernel
theorem dL_mend_13 : decode cL_mend 13 = .ok (.iconst 1, 1) := by decide +kernel
theorem dL_mend_14 : decode cL_mend 14 = .ok (.ireturn, 1) := by decide +kernel
theorem dL_mend_15 : decode cL_mend 15 = .ok (.iconst 0, 1) := by decide +kernel
theorem dL_mend_16 : decode cL_mend 16 = .ok (.ireturn, 1) := by decide +kernel
theorem dL_farmer_0 : decode cL_farmer 0 = .ok (.aload_n 2, 1) := by decide +kernel
theorem dL_farmer_1 : decode cL_farmer 1 = .ok (.iconst 0, 1) := by decide +kernel
theorem dL_farmer_2 : decode cL_farmer 2 = .ok (.aload_n 0, 1) := by decide +kernel
theorem dL_farmer_3 : decode cL_farmer 3 = .ok (.iload_n 1, 1) := by decide +kernel
theorem dL_farmer_4 : decode cL_farmer 4 = .ok (.invokevirtual 50, 3) := by decide +kernel
theorem dL_farmer_7 : decode cL_farmer 7 = .ok (.i2l, 1) := by decide +kernel
theorem dL_farmer_8 : decode cL_farmer 8 = .ok (.lastore, 1) := by decide +kernel
theorem dL_farmer_9 : decode cL_farmer 9 = .ok (.goto 9, 3) := by decide +kernel
theorem dL_farmer_12 : decode cL_farmer 12 = .ok (.astore_n 3, 1) := by decide +kernel
theorem dL_farmer_13 : decode cL_farmer 13 = .ok (.iconst 1, 1) := by decide +kernel
theorem dL_farmer_14 : decode cL_farmer 14 = .ok (.ireturn, 1) := by decide +kernel
theorem dL_farmer_15 : decode cL_farmer 15 = .ok (.astore_n 3, 1) := by decide +kernel
theorem dL_farmer_16 : decode cL_farmer 16 = .ok (.iconst 2, 1) := by decide +kernel
theorem dL_farmer_17 : decode cL_farmer 17 = .ok (.ireturn, 1) := by decide +kernel
theorem dL_farmer_18 : decode cL_farmer 18 = .ok (.iconst 0, 1) := by decide +kernel
theorem dL_farmer_19 : decode cL_farmer 19 = .ok (.ireturn, 1) := by decide +kernel
theorem dL_bid_0 : decode cL_bid 0 = .ok (.aload 5, 2) := by decide +kernel
theorem dL_bid_2 : decode cL_bid 2 = .ok (.iconst 0, 1) := by decide +kernel
theorem dL_bid_3 : decode cL_bid 3 = .ok (.aload_n 0, 1) := by decide +kernel
theorem dL_bid_4 : decode cL_bid 4 = .ok (.iload_n 1, 1) := by decide +kernel
theorem dL_bid_5 : decode cL_bid 5 = .ok (.iload_n 2, 1) := by decide +kernel
theorem dL_bid_6 : decode cL_bid 6 = .ok (.iload_n 3, 1) := by decide +kernel
theorem dL_bid_7 : decode cL_bid 7 = .ok (.iload 4, 2) := by decide +kernel
theorem dL_bid_9 : decode cL_bid 9 = .ok (.invokevirtual 53, 3) := by decide +kernel
theorem dL_bid_12 : decode cL_bid 12 = .ok (.i2l, 1) := by decide +kernel
theorem dL_bid_13 : decode cL_bid 13 = .ok (.lastore, 1) := by decide +kernel
theorem dL_bid_14 : decode cL_bid 14 = .ok (.goto 15, 3) := by decide +kernel
theorem dL_bid_17 : decode cL_bid 17 = .ok (.astore 6, 2) := by decide +kernel
theorem dL_bid_19 : decode cL_bid 19 = .ok (.iconst 1, 1) := by decide +kernel
theorem dL_bid_20 : decode cL_bid 20 = .ok (.ireturn, 1) := by decide +kernel
theorem dL_bid_21 : decode cL_bid 21 = .ok (.astore 6, 2) := by decide +kernel
theorem dL_bid_23 : decode cL_bid 23 = .ok (.iconst 2, 1) := by decide +kernel
theorem dL_bid_24 : decode cL_bid 24 = .ok (.ireturn, 1) := by decide +kernel
theorem dL_bid_25 : decode cL_bid 25 = .ok (.astore 6, 2) := by decide +kernel
theorem dL_bid_27 : decode cL_bid 27 = .ok (.iconst 3, 1) := by decide +kernel
theorem dL_bid_28 : decode cL_bid 28 = .ok (.ireturn, 1) := by decide +kernel
theorem dL_bid_29 : decode cL_bid 29 = .ok (.iconst 0, 1) := by decide +kernel
theorem dL_bid_30 : decode cL_bid 30 = .ok (.ireturn, 1) := by decide +kernel
theorem dL_let_0 : decode cL_let 0 = .ok (.aload_n 3, 1) := by decide +kernel
theorem dL_let_1 : decode cL_let 1 = .ok (.iconst 0, 1) := by decide +kernel
theorem dL_let_2 : decode cL_let 2 = .ok (.aload_n 0, 1) := by decide +kernel
theorem dL_let_3 : decode cL_let 3 = .ok (.iload_n 1, 1) := by decide +kernel
theorem dL_let_4 : decode cL_let 4 = .ok (.iload_n 2, 1) := by decide +kernel
theorem dL_let_5 : decode cL_let 5 = .ok (.invokevirtual 56, 3) := by decide +kernel
theorem dL_let_8 : decode cL_let 8 = .ok (.i2l, 1) := by decide +kernel
theorem dL_let_9 : decode cL_let 9 = .ok (.lastore, 1) := by decide +kernel
theorem dL_let_10 : decode cL_let 10 = .ok (.goto 15, 3) := by decide +kernel
theorem dL_let_13 : decode cL_let 13 = .ok (.astore 4, 2) := by decide +kernel
theorem dL_let_15 : decode cL_let 15 = .ok (.iconst 1, 1) := by decide +kernel
theorem dL_let_16 : decode cL_let 16 = .ok (.ireturn, 1) := by decide +kernel
theorem dL_let_17 : decode cL_let 17 = .ok (.astore 4, 2) := by decide +kernel
theorem dL_let_19 : decode cL_let 19 = .ok (.iconst 2, 1) := by decide +kernel
theorem dL_let_20 : decode cL_let 20 = .ok (.ireturn, 1) := by decide +kernel
theorem dL_let_21 : decode cL_let 21 = .ok (.astore 4, 2) := by decide +kernel
theorem dL_let_23 : decode cL_let 23 = .ok (.iconst 3, 1) := by decide +kernel
theorem dL_let_24 : decode cL_let 24 = .ok (.ireturn, 1) := by decide +kernel
theorem dL_let_25 : decode cL_let 25 = .ok (.iconst 0, 1) := by decide +kernel
theorem dL_let_26 : decode cL_let 26 = .ok (.ireturn, 1) := by decide +kernel
theorem dL_gateTold_0 : decode cL_gateTold 0 = .ok (.aload_n 3, 1) := by decide +kernel
theorem dL_gateTold_1 : decode cL_gateTold 1 = .ok (.iconst 0, 1) := by decide +kernel
theorem dL_gateTold_2 : decode cL_gateTold 2 = .ok (.aload_n 0, 1) := by decide +kernel
theorem dL_gateTold_3 : decode cL_gateTold 3 = .ok (.iload_n 1, 1) := by decide +kernel
theorem dL_gateTold_4 : decode cL_gateTold 4 = .ok (.iload_n 2, 1) := by decide +kernel
theorem dL_gateTold_5 : decode cL_gateTold 5 = .ok (.invokevirtual 59, 3) := by decide +kernel
theorem dL_gateTold_8 : decode cL_gateTold 8 = .ok (.i2l, 1) := by decide +kernel
theorem dL_gateTold_9 : decode cL_gateTold 9 = .ok (.lastore, 1) := by decide +kernel
theorem dL_gateTold_10 : decode cL_gateTold 10 = .ok (.goto 11, 3) := by decide +kernel
theorem dL_gateTold_13 : decode cL_gateTold 13 = .ok (.astore 4, 2) := by decide +kernel
theorem dL_gateTold_15 : decode cL_gateTold 15 = .ok (.iconst 1, 1) := by decide +kernel
theorem dL_gateTold_16 : decode cL_gateTold 16 = .ok (.ireturn, 1) := by decide +kernel
theorem dL_gateTold_17 : decode cL_gateTold 17 = .ok (.astore 4, 2) := by decide +kernel
theorem dL_gateTold_19 : decode cL_gateTold 19 = .ok (.iconst 2, 1) := by decide +kernel
theorem dL_gateTold_20 : decode cL_gateTold 20 = .ok (.ireturn, 1) := by decide +kernel
theorem dL_gateTold_21 : decode cL_gateTold 21 = .ok (.iconst 0, 1) := by decide +kernel
theorem dL_gateTold_22 : decode cL_gateTold 22 = .ok (.ireturn, 1) := by decide +kernel
theorem dL_borrow_0 : decode cL_borrow 0 = .ok (.aload 4, 2) := by decide +kernel
theorem dL_borrow_2 : decode cL_borrow 2 = .ok (.iconst 0, 1) := by decide +kernel
theorem dL_borrow_3 : decode cL_borrow 3 = .ok (.aload_n 0, 1) := by decide +kernel
theorem dL_borrow_4 : decode cL_borrow 4 = .ok (.iload_n 1, 1) := by decide +kernel
theorem dL_borrow_5 : decode cL_borrow 5 = .ok (.iload_n 2, 1) := by decide +kernel
theorem dL_borrow_6 : decode cL_borrow 6 = .ok (.iload_n 3, 1) := by decide +kernel
theorem dL_borrow_7 : decode cL_borrow 7 = .ok (.invokevirtual 62, 3) := by decide +kernel
theorem dL_borrow_10 : decode cL_borrow 10 = .ok (.i2l, 1) := by decide +kernel
theorem dL_borrow_11 : decode cL_borrow 11 = .ok (.lastore, 1) := by decide +kernel
theorem dL_borrow_12 : decode cL_borrow 12 = .ok (.goto 11, 3) := by decide +kernel
theorem dL_borrow_15 : decode cL_borrow 15 = .ok (.astore 5, 2) := by decide +kernel
theorem dL_borrow_17 : decode cL_borrow 17 = .ok (.iconst 1, 1) := by decide +kernel
theorem dL_borrow_18 : decode cL_borrow 18 = .ok (.ireturn, 1) := by decide +kernel
theorem dL_borrow_19 : decode cL_borrow 19 = .ok (.astore 5, 2) := by decide +kernel
theorem dL_borrow_21 : decode cL_borrow 21 = .ok (.iconst 2, 1) := by decide +kernel
theorem dL_borrow_22 : decode cL_borrow 22 = .ok (.ireturn, 1) := by decide +kernel
theorem dL_borrow_23 : decode cL_borrow 23 = .ok (.iconst 0, 1) := by decide +kernel
theorem dL_borrow_24 : decode cL_borrow 24 = .ok (.ireturn, 1) := by decide +kernel
theorem dL_repay_0 : decode cL_repay 0 = .ok (.aload_n 3, 1) := by decide +kernel
theorem dL_repay_1 : decode cL_repay 1 = .ok (.iconst 0, 1) := by decide +kernel
theorem dL_repay_2 : decode cL_repay 2 = .ok (.aload_n 0, 1) := by decide +kernel
theorem dL_repay_3 : decode cL_repay 3 = .ok (.iload_n 1, 1) := by decide +kernel
theorem dL_repay_4 : decode cL_repay 4 = .ok (.iload_n 2, 1) := by decide +kernel
theorem dL_repay_5 : decode cL_repay 5 = .ok (.invokevirtual 65, 3) := by decide +kernel
theorem dL_repay_8 : decode cL_repay 8 = .ok (.i2l, 1) := by decide +kernel
theorem dL_repay_9 : decode cL_repay 9 = .ok (.lastore, 1) := by decide +kernel
theorem dL_repay_10 : decode cL_repay 10 = .ok (.goto 11, 3) := by decide +kernel
theorem dL_repay_13 : decode cL_repay 13 = .ok (.astore 4, 2) := by decide +kernel
theorem dL_repay_15 : decode cL_repay 15 = .ok (.iconst 1, 1) := by decide +kernel
theorem dL_repay_16 : decode cL_repay 16 = .ok (.ireturn, 1) := by decide +kernel
theorem dL_repay_17 : decode cL_repay 17 = .ok (.astore 4, 2) := by decide +kernel
theorem dL_repay_19 : decode cL_repay 19 = .ok (.iconst 2, 1) := by decide +kernel
theorem dL_repay_20 : decode cL_repay 20 = .ok (.ireturn, 1) := by decide +kernel
theorem dL_repay_21 : decode cL_repay 21 = .ok (.iconst 0, 1) := by decide +kernel
theorem dL_repay_22 : decode cL_repay 22 = .ok (.ireturn, 1) := by decide +kernel
theorem dL_loan_0 : decode cL_loan 0 = .ok (.aload_n 3, 1) := by decide +kernel
theorem dL_loan_1 : decode cL_loan 1 = .ok (.iconst 0, 1) := by decide +kernel
theorem dL_loan_2 : decode cL_loan 2 = .ok (.aload_n 0, 1) := by decide +kernel
theorem dL_loan_3 : decode cL_loan 3 = .ok (.iload_n 1, 1) := by decide +kernel
theorem dL_loan_4 : decode cL_loan 4 = .ok (.iload_n 2, 1) := by decide +kernel
theorem dL_loan_5 : decode cL_loan 5 = .ok (.invokevirtual 68, 3) := by decide +kernel
theorem dL_loan_8 : decode cL_loan 8 = .ok (.lastore, 1) := by decide +kernel
theorem dL_loan_9 : decode cL_loan 9 = .ok (.goto 11, 3) := by decide +kernel
theorem dL_loan_12 : decode cL_loan 12 = .ok (.astore 4, 2) := by decide +kernel
theorem dL_loan_14 : decode cL_loan 14 = .ok (.iconst 1, 1) := by decide +kernel
theorem dL_loan_15 : decode cL_loan 15 = .ok (.ireturn, 1) := by decide +kernel
theorem dL_loan_16 : decode cL_loan 16 = .ok (.astore 4, 2) := by decide +kernel
theorem dL_loan_18 : decode cL_loan 18 = .ok (.iconst 2, 1) := by decide +kernel
theorem dL_loan_19 : decode cL_loan 19 = .ok (.ireturn, 1) := by decide +kernel
theorem dL_loan_20 : decode cL_loan 20 = .ok (.iconst 0, 1) := by decide +kernel
theorem dL_loan_21 : decode cL_loan 21 = .ok (.ireturn, 1) := by decide +kernel
theorem dL_money_0 : decode cL_money 0 = .ok (.aload_n 2, 1) := by decide +kernel
theorem dL_money_1 : decode cL_money 1 = .ok (.iconst 0, 1) := by decide +kernel
theorem dL_money_2 : decode cL_money 2 = .ok (.aload_n 0, 1) := by decide +kernel
theorem dL_money_3 : decode cL_money 3 = .ok (.iload_n 1, 1) := by decide +kernel
theorem dL_money_4 : decode cL_money 4 = .ok (.invokevirtual 72, 3) := by decide +kernel
theorem dL_money_7 : decode cL_money 7 = .ok (.lastore, 1) := by decide +kernel
theorem dL_money_8 : decode cL_money 8 = .ok (.goto 6, 3) := by decide +kernel
theorem dL_money_11 : decode cL_money 11 = .ok (.astore_n 3, 1) := by decide +kernel
theorem dL_money_12 : decode cL_money 12 = .ok (.iconst 1, 1) := by decide +kernel
theorem dL_money_13 : decode cL_money 13 = .ok (.ireturn, 1) := by decide +kernel
theorem dL_money_14 : decode cL_money 14 = .ok (.iconst 0, 1) := by decide +kernel
theorem dL_money_15 : decode cL_money 15 = .ok (.ireturn, 1) := by decide +kernel
theorem dL_wear_0 : decode cL_wear 0 = .ok (.aload_n 2, 1) := by decide +kernel
theorem dL_wear_1 : decode cL_wear 1 = .ok (.iconst 0, 1) := by decide +kernel
theorem dL_wear_2 : decode cL_wear 2 = .ok (.aload_n 0, 1) := by decide +kernel
theorem dL_wear_3 : decode cL_wear 3 = .ok (.iload_n 1, 1) := by decide +kernel
theorem dL_wear_4 : decode cL_wear 4 = .ok (.invokevirtual 76, 3) := by decide +kernel
theorem dL_wear_7 : decode cL_wear 7 = .ok (.lastore, 1) := by decide +kernel
theorem dL_wear_8 : decode cL_wear 8 = .ok (.goto 6, 3) := by decide +kernel
theorem dL_wear_11 : decode cL_wear 11 = .ok (.astore_n 3, 1) := by decide +kernel
theorem dL_wear_12 : decode cL_wear 12 = .ok (.iconst 1, 1) := by decide +kernel
theorem dL_wear_13 : decode cL_wear 13 = .ok (.ireturn, 1) := by decide +kernel
theorem dL_wear_14 : decode cL_wear 14 = .ok (.iconst 0, 1) := by decide +kernel
theorem dL_wear_15 : decode cL_wear 15 = .ok (.ireturn, 1) := by decide +kernel
theorem dL_box_0 : decode cL_box 0 = .ok (.aload_n 2, 1) := by decide +kernel
theorem dL_box_1 : decode cL_box 1 = .ok (.iconst 0, 1) := by decide +kernel
theorem dL_box_2 : decode cL_box 2 = .ok (.aload_n 0, 1) := by decide +kernel
theorem dL_box_3 : decode cL_box 3 = .ok (.iload_n 1, 1) := by decide +kernel
theorem dL_box_4 : decode cL_box 4 = .ok (.invokevirtual 79, 3) := by decide +kernel
theorem dL_box_7 : decode cL_box 7 = .ok (.lastore, 1) := by decide +kernel
theorem dL_box_8 : decode cL_box 8 = .ok (.goto 6, 3) := by decide +kernel
theorem dL_box_11 : decode cL_box 11 = .ok (.astore_n 3, 1) := by decide +kernel
theorem dL_box_12 : decode cL_box 12 = .ok (.iconst 1, 1) := by decide +kernel
theorem dL_box_13 : decode cL_box 13 = .ok (.ireturn, 1) := by decide +kernel
theorem dL_box_14 : decode cL_box 14 = .ok (.iconst 0, 1) := by decide +kernel
theorem dL_box_15 : decode cL_box 15 = .ok (.ireturn, 1) := by decide +kernel
theorem dL_journal_0 : decode cL_journal 0 = .ok (.aload_n 3, 1) := by decide +kernel
theorem dL_journal_1 : decode cL_journal 1 = .ok (.iconst 0, 1) := by decide +kernel
theorem dL_journal_2 : decode cL_journal 2 = .ok (.aload_n 0, 1) := by decide +kernel
theorem dL_journal_3 : decode cL_journal 3 = .ok (.iload_n 1, 1) := by decide +kernel
theorem dL_journal_4 : decode cL_journal 4 = .ok (.iload_n 2, 1) := by decide +kernel
theorem dL_journal_5 : decode cL_journal 5 = .ok (.invokevirtual 82, 3) := by decide +kernel
theorem dL_journal_8 : decode cL_journal 8 = .ok (.lastore, 1) := by decide +kernel
theorem dL_journal_9 : decode cL_journal 9 = .ok (.goto 11, 3) := by decide +kernel
theorem dL_journal_12 : decode cL_journal 12 = .ok (.astore 4, 2) := by decide +kernel
theorem dL_journal_14 : decode cL_journal 14 = .ok (.iconst 1, 1) := by decide +kernel
theorem dL_journal_15 : decode cL_journal 15 = .ok (.ireturn, 1) := by decide +kernel
theorem dL_journal_16 : decode cL_journal 16 = .ok (.astore 4, 2) := by decide +kernel
theorem dL_journal_18 : decode cL_journal 18 = .ok (.iconst 2, 1) := by decide +kernel
theorem dL_journal_19 : decode cL_journal 19 = .ok (.ireturn, 1) := by decide +kernel
theorem dL_journal_20 : decode cL_journal 20 = .ok (.iconst 0, 1) := by decide +kernel
theorem dL_journal_21 : decode cL_journal 21 = .ok (.ireturn, 1) := by decide +kernel
theorem dL_law_0 : decode cL_law 0 = .ok (.new 8, 3) := by decide +kernel
theorem dL_law_3 : decode cL_law 3 = .ok (.dup, 1) := by decide +kernel
theorem dL_law_4 : decode cL_law 4 = .ok (.invokespecial 85, 3) := by decide +kernel
theorem dL_law_7 : decode cL_law 7 = .ok (.astore_n 1, 1) := by decide +kernel
theorem dL_law_8 : decode cL_law 8 = .ok (.new 86, 3) := by decide +kernel
theorem dL_law_11 : decode cL_law 11 = .ok (.dup, 1) := by decide +kernel
theorem dL_law_12 : decode cL_law 12 = .ok (.invokespecial 88, 3) := by decide +kernel
theorem dL_law_15 : decode cL_law 15 = .ok (.astore_n 2, 1) := by decide +kernel
theorem dL_law_16 : decode cL_law 16 = .ok (.iconst 1, 1) := by decide +kernel
theorem dL_law_17 : decode cL_law 17 = .ok (.newarray .long, 2) := by decide +kernel
theorem dL_law_19 : decode cL_law 19 = .ok (.astore_n 3, 1) := by decide +kernel
theorem dL_law_20 : decode cL_law 20 = .ok (.iconst 0, 1) := by decide +kernel
theorem dL_law_21 : decode cL_law 21 = .ok (.istore 4, 2) := by decide +kernel
theorem dL_law_23 : decode cL_law 23 = .ok (.iload 4, 2) := by decide +kernel
theorem dL_law_25 : decode cL_law 25 = .ok (.aload_n 0, 1) := by decide +kernel
theorem dL_law_26 : decode cL_law 26 = .ok (.arraylength, 1) := by decide +kernel
theorem dL_law_27 : decode cL_law 27 = .ok (.bipush 6, 2) := by decide +kernel
theorem dL_law_29 : decode cL_law 29 = .ok (.isub, 1) := by decide +kernel
theorem dL_law_30 : decode cL_law 30 = .ok (.if_icmp .gt 1611, 3) := by decide +kernel
theorem dL_law_33 : decode cL_law 33 = .ok (.aload_n 0, 1) := by decide +kernel
theorem dL_law_34 : decode cL_law 34 = .ok (.iload 4, 2) := by decide +kernel
theorem dL_law_36 : decode cL_law 36 = .ok (.iaload, 1) := by decide +kernel
theorem dL_law_37 : decode cL_law 37 = .ok (.bipush 31, 2) := by decide +kernel
theorem dL_law_39 : decode cL_law 39 = .ok (.iand, 1) := by decide +kernel
theorem dL_law_40 : decode cL_law 40 = .ok (.tableswitch 1595 0 24 #[116, 189, 257, 270, 326, 382, 474, 542, 555, 635, 691, 747, 783, 839, 895, 987, 1055, 1123, 1203, 1271, 1338, 1393, 1448, 1503, 1570], 116) := by decide +kernel
theorem dL_law_156 : decode cL_law 156 = .ok (.aload_n 1, 1) := by decide +kernel
theorem dL_law_157 : decode cL_law 157 = .ok (.aload_n 0, 1) := by decide +kernel
theorem dL_law_158 : decode cL_law 158 = .ok (.iload 4, 2) := by decide +kernel
theorem dL_law_160 : decode cL_law 160 = .ok (.iconst 1, 1) := by decide +kernel
theorem dL_law_161 : decode cL_law 161 = .ok (.iadd, 1) := by decide +kernel
theorem dL_law_162 : decode cL_law 162 = .ok (.iaload, 1) := by decide +kernel
theorem dL_law_163 : decode cL_law 163 = .ok (.aload_n 0, 1) := by decide +kernel
theorem dL_law_164 : decode cL_law 164 = .ok (.iload 4, 2) := by decide +kernel
theorem dL_law_166 : decode cL_law 166 = .ok (.iconst 2, 1) := by decide +kernel
theorem dL_law_167 : decode cL_law 167 = .ok (.iadd, 1) := by decide +kernel
theorem dL_law_168 : decode cL_law 168 = .ok (.iaload, 1) := by decide +kernel
theorem dL_law_169 : decode cL_law 169 = .ok (.aload_n 0, 1) := by decide +kernel
theorem dL_law_170 : decode cL_law 170 = .ok (.iload 4, 2) := by decide +kernel
theorem dL_law_172 : decode cL_law 172 = .ok (.iconst 3, 1) := by decide +kernel
theorem dL_law_173 : decode cL_law 173 = .ok (.iadd, 1) := by decide +kernel
theorem dL_law_174 : decode cL_law 174 = .ok (.iaload, 1) := by decide +kernel
theorem dL_law_175 : decode cL_law 175 = .ok (.aload_n 0, 1) := by decide +kernel
theorem dL_law_176 : decode cL_law 176 = .ok (.iload 4, 2) := by decide +kernel
theorem dL_law_178 : decode cL_law 178 = .ok (.iconst 4, 1) := by decide +kernel
theorem dL_law_179 : decode cL_law 179 = .ok (.iadd, 1) := by decide +kernel
theorem dL_law_180 : decode cL_law 180 = .ok (.iaload, 1) := by decide +kernel
theorem dL_law_181 : decode cL_law 181 = .ok (.aload_n 0, 1) := by decide +kernel
theorem dL_law_182 : decode cL_law 182 = .ok (.iload 4, 2) := by decide +kernel
theorem dL_law_184 : decode cL_law 184 = .ok (.iconst 5, 1) := by decide +kernel
theorem dL_law_185 : decode cL_law 185 = .ok (.iadd, 1) := by decide +kernel
theorem dL_law_186 : decode cL_law 186 = .ok (.iaload, 1) := by decide +kernel
theorem dL_law_187 : decode cL_law 187 = .ok (.invokevirtual 89, 3) := by decide +kernel
theorem dL_law_190 : decode cL_law 190 = .ok (.aload_n 2, 1) := by decide +kernel
theorem dL_law_191 : decode cL_law 191 = .ok (.aload_n 0, 1) := by decide +kernel
theorem dL_law_192 : decode cL_law 192 = .ok (.iload 4, 2) := by decide +kernel
theorem dL_law_194 : decode cL_law 194 = .ok (.iconst 1, 1) := by decide +kernel
theorem dL_law_195 : decode cL_law 195 = .ok (.iadd, 1) := by decide +kernel
theorem dL_law_196 : decode cL_law 196 = .ok (.iaload, 1) := by decide +kernel
theorem dL_law_197 : decode cL_law 197 = .ok (.aload_n 0, 1) := by decide +kernel
theorem dL_law_198 : decode cL_law 198 = .ok (.iload 4, 2) := by decide +kernel
theorem dL_law_200 : decode cL_law 200 = .ok (.iconst 2, 1) := by decide +kernel
theorem dL_law_201 : decode cL_law 201 = .ok (.iadd, 1) := by decide +kernel
theorem dL_law_202 : decode cL_law 202 = .ok (.iaload, 1) := by decide +kernel
theorem dL_law_203 : decode cL_law 203 = .ok (.aload_n 0, 1) := by decide +kernel
theorem dL_law_204 : decode cL_law 204 = .ok (.iload 4, 2) := by decide +kernel
theorem dL_law_206 : decode cL_law 206 = .ok (.iconst 3, 1) := by decide +kernel
theorem dL_law_207 : decode cL_law 207 = .ok (.iadd, 1) := by decide +kernel
theorem dL_law_208 : decode cL_law 208 = .ok (.iaload, 1) := by decide +kernel
theorem dL_law_209 : decode cL_law 209 = .ok (.aload_n 0, 1) := by decide +kernel
theorem dL_law_210 : decode cL_law 210 = .ok (.iload 4, 2) := by decide +kernel
theorem dL_law_212 : decode cL_law 212 = .ok (.iconst 4, 1) := by decide +kernel
theorem dL_law_213 : decode cL_law 213 = .ok (.iadd, 1) := by decide +kernel
theorem dL_law_214 : decode cL_law 214 = .ok (.iaload, 1) := by decide +kernel
theorem dL_law_215 : decode cL_law 215 = .ok (.aload_n 0, 1) := by decide +kernel
theorem dL_law_216 : decode cL_law 216 = .ok (.iload 4, 2) := by decide +kernel
theorem dL_law_218 : decode cL_law 218 = .ok (.iconst 5, 1) := by decide +kernel
theorem dL_law_219 : decode cL_law 219 = .ok (.iadd, 1) := by decide +kernel
theorem dL_law_220 : decode cL_law 220 = .ok (.iaload, 1) := by decide +kernel
theorem dL_law_221 : decode cL_law 221 = .ok (.invokevirtual 93, 3) := by decide +kernel
theorem dL_law_224 : decode cL_law 224 = .ok (.if_icmp .eq 1411, 3) := by decide +kernel
theorem dL_law_227 : decode cL_law 227 = .ok (.iconst 0, 1) := by decide +kernel
theorem dL_law_228 : decode cL_law 228 = .ok (.ireturn, 1) := by decide +kernel
theorem dL_law_229 : decode cL_law 229 = .ok (.aload_n 1, 1) := by decide +kernel
theorem dL_law_230 : decode cL_law 230 = .ok (.aload_n 0, 1) := by decide +kernel
theorem dL_law_231 : decode cL_law 231 = .ok (.iload 4, 2) := by decide +kernel
theorem dL_law_233 : decode cL_law 233 = .ok (.iconst 1, 1) := by decide +kernel
theorem dL_law_234 : decode cL_law 234 = .ok (.iadd, 1) := by decide +kernel
theorem dL_law_235 : decode cL_law 235 = .ok (.iaload, 1) := by decide +kernel
theorem dL_law_236 : decode cL_law 236 = .ok (.aload_n 0, 1) := by decide +kernel
theorem dL_law_237 : decode cL_law 237 = .ok (.iload 4, 2) := by decide +kernel
theorem dL_law_239 : decode cL_law 239 = .ok (.iconst 2, 1) := by decide +kernel
theorem dL_law_240 : decode cL_law 240 = .ok (.iadd, 1) := by decide +kernel
theorem dL_law_241 : decode cL_law 241 = .ok (.iaload, 1) := by decide +kernel
theorem dL_law_242 : decode cL_law 242 = .ok (.aload_n 3, 1) := by decide +kernel
theorem dL_law_243 : decode cL_law 243 = .ok (.invokestatic 94, 3) := by decide +kernel
theorem dL_law_246 : decode cL_law 246 = .ok (.istore 5, 2) := by decide +kernel
theorem dL_law_248 : decode cL_law 248 = .ok (.aload_n 2, 1) := by decide +kernel
theorem dL_law_249 : decode cL_law 249 = .ok (.aload_n 0, 1) := by decide +kernel
theorem dL_law_250 : decode cL_law 250 = .ok (.iload 4, 2) := by decide +kernel
theorem dL_law_252 : decode cL_law 252 = .ok (.iconst 1, 1) := by decide +kernel
theorem dL_law_253 : decode cL_law 253 = .ok (.iadd, 1) := by decide +kernel
theorem dL_law_254 : decode cL_law 254 = .ok (.iaload, 1) := by decide +kernel
theorem dL_law_255 : decode cL_law 255 = .ok (.aload_n 0, 1) := by decide +kernel
theorem dL_law_256 : decode cL_law 256 = .ok (.iload 4, 2) := by decide +kernel
theorem dL_law_258 : decode cL_law 258 = .ok (.iconst 2, 1) := by decide +kernel
theorem dL_law_259 : decode cL_law 259 = .ok (.iadd, 1) := by decide +kernel
theorem dL_law_260 : decode cL_law 260 = .ok (.iaload, 1) := by decide +kernel
theorem dL_law_261 : decode cL_law 261 = .ok (.invokevirtual 99, 3) := by decide +kernel
theorem dL_law_264 : decode cL_law 264 = .ok (.istore 6, 2) := by decide +kernel
theorem dL_law_266 : decode cL_law 266 = .ok (.aload_n 2, 1) := by decide +kernel
theorem dL_law_267 : decode cL_law 267 = .ok (.invokevirtual 100, 3) := by decide +kernel
theorem dL_law_270 : decode cL_law 270 = .ok (.iload 5, 2) := by decide +kernel
theorem dL_law_272 : decode cL_law 272 = .ok (.if_icmp .eq 5, 3) := by decide +kernel
theorem dL_law_275 : decode cL_law 275 = .ok (.iconst 0, 1) := by decide +kernel
theorem dL_law_276 : decode cL_law 276 = .ok (.ireturn, 1) := by decide +kernel
theorem dL_law_277 : decode cL_law 277 = .ok (.iload 5, 2) := by decide +kernel
theorem dL_law_279 : decode cL_law 279 = .ok (.ifCond .ne 15, 3) := by decide +kernel
theorem dL_law_282 : decode cL_law 282 = .ok (.aload_n 3, 1) := by decide +kernel
theorem dL_law_283 : decode cL_law 283 = .ok (.iconst 0, 1) := by decide +kernel
theorem dL_law_284 : decode cL_law 284 = .ok (.laload, 1) := by decide +kernel
theorem dL_law_285 : decode cL_law 285 = .ok (.iload 6, 2) := by decide +kernel
theorem dL_law_287 : decode cL_law 287 = .ok (.i2l, 1) := by decide +kernel
theorem dL_law_288 : decode cL_law 288 = .ok (.lcmp, 1) := by decide +kernel
theorem dL_law_289 : decode cL_law 289 = .ok (.ifCond .eq 5, 3) := by decide +kernel
theorem dL_law_292 : decode cL_law 292 = .ok (.iconst 0, 1) := by decide +kernel
theorem dL_law_293 : decode cL_law 293 = .ok (.ireturn, 1) := by decide +kernel
theorem dL_law_294 : decode cL_law 294 = .ok (.goto 1341, 3) := by decide +kernel
theorem dL_law_297 : decode cL_law 297 = .ok (.aload_n 1, 1) := by decide +kernel
theorem dL_law_298 : decode cL_law 298 = .ok (.invokevirtual 104, 3) := by decide +kernel
theorem dL_law_301 : decode cL_law 301 = .ok (.aload_n 2, 1) := by decide +kernel
theorem dL_law_302 : decode cL_law 302 = .ok (.invokevirtual 107, 3) := by decide +kernel
theorem dL_law_305 : decode cL_law 305 = .ok (.if_icmp .eq 1330, 3) := by decide +kernel
theorem dL_law_308 : decode cL_law 308 = .ok (.iconst 0, 1) := by decide +kernel
theorem dL_law_309 : decode cL_law 309 = .ok (.ireturn, 1) := by decide +kernel
theorem dL_law_310 : decode cL_law 310 = .ok (.aload_n 1, 1) := by decide +kernel
theorem dL_law_311 : decode cL_law 311 = .ok (.aload_n 0, 1) := by decide +kernel
theorem dL_law_312 : decode cL_law 312 = .ok (.iload 4, 2) := by decide +kernel
theorem dL_law_314 : decode cL_law 314 = .ok (.iconst 1, 1) := by decide +kernel
theorem dL_law_315 : decode cL_law 315 = .ok (.iadd, 1) := by decide +kernel
theorem dL_law_316 : decode cL_law 316 = .ok (.iaload, 1) := by decide +kernel
theorem dL_law_317 : decode cL_law 317 = .ok (.aload_n 3, 1) := by decide +kernel
theorem dL_law_318 : decode cL_law 318 = .ok (.invokestatic 108, 3) := by decide +kernel
theorem dL_law_321 : decode cL_law 321 = .ok (.istore 5, 2) := by decide +kernel
theorem dL_law_323 : decode cL_law 323 = .ok (.aload_n 2, 1) := by decide +kernel
theorem dL_law_324 : decode cL_law 324 = .ok (.aload_n 0, 1) := by decide +kernel
theorem dL_law_325 : decode cL_law 325 = .ok (.iload 4, 2) := by decide +kernel
theorem dL_law_327 : decode cL_law 327 = .ok (.iconst 1, 1) := by decide +kernel
theorem dL_law_328 : decode cL_law 328 = .ok (.iadd, 1) := by decide +kernel
theorem dL_law_329 : decode cL_law 329 = .ok (.iaload, 1) := by decide +kernel
theorem dL_law_330 : decode cL_law 330 = .ok (.invokevirtual 111, 3) := by decide +kernel
theorem dL_law_333 : decode cL_law 333 = .ok (.istore 6, 2) := by decide +kernel
theorem dL_law_335 : decode cL_law 335 = .ok (.aload_n 2, 1) := by decide +kernel
theorem dL_law_336 : decode cL_law 336 = .ok (.invokevirtual 100, 3) := by decide +kernel
theorem dL_law_339 : decode cL_law 339 = .ok (.iload 5, 2) := by decide +kernel
theorem dL_law_341 : decode cL_law 341 = .ok (.if_icmp .eq 5, 3) := by decide +kernel
theorem dL_law_344 : decode cL_law 344 = .ok (.iconst 0, 1) := by decide +kernel
theorem dL_law_345 : decode cL_law 345 = .ok (.ireturn, 1) := by decide +kernel
theorem dL_law_346 : decode cL_law 346 = .ok (.iload 5, 2) := by decide +kernel
theorem dL_law_348 : decode cL_law 348 = .ok (.ifCond .ne 15, 3) := by decide +kernel
theorem dL_law_351 : decode cL_law 351 = .ok (.aload_n 3, 1) := by decide +kernel
theorem dL_law_352 : decode cL_law 352 = .ok (.iconst 0, 1) := by decide +kernel
theorem dL_law_353 : decode cL_law 353 = .ok (.laload, 1) := by decide +kernel
theorem dL_law_354 : decode cL_law 354 = .ok (.iload 6, 2) := by decide +kernel
theorem dL_law_356 : decode cL_law 356 = .ok (.i2l, 1) := by decide +kernel
theorem dL_law_357 : decode cL_law 357 = .ok (.lcmp, 1) := by decide +kernel
theorem dL_law_358 : decode cL_law 358 = .ok (.ifCond .eq 5, 3) := by decide +kernel
theorem dL_law_361 : decode cL_law 361 = .ok (.iconst 0, 1) := by decide +kernel
theorem dL_law_362 : decode cL_law 362 = .ok (.ireturn, 1) := by decide +kernel
theorem dL_law_363 : decode cL_law 363 = .ok (.goto 1272, 3) := by decide +kernel
theorem dL_law_366 : decode cL_law 366 = .ok (.aload_n 1, 1) := by decide +kernel
theorem dL_law_367 : decode cL_law 367 = .ok (.aload_n 0, 1) := by decide +kernel
theorem dL_law_368 : decode cL_law 368 = .ok (.iload 4, 2) := by decide +kernel
theorem dL_law_370 : decode cL_law 370 = .ok (.iconst 1, 1) := by decide +kernel
theorem dL_law_371 : decode cL_law 371 = .ok (.iadd, 1) := by decide +kernel
theorem dL_law_372 : decode cL_law 372 = .ok (.iaload, 1) := by decide +kernel
theorem dL_law_373 : decode cL_law 373 = .ok (.aload_n 3, 1) := by decide +kernel
theorem dL_law_374 : decode cL_law 374 = .ok (.invokestatic 112, 3) := by decide +kernel
theorem dL_law_377 : decode cL_law 377 = .ok (.istore 5, 2) := by decide +kernel
theorem dL_law_379 : decode cL_law 379 = .ok (.aload_n 2, 1) := by decide +kernel
theorem dL_law_380 : decode cL_law 380 = .ok (.aload_n 0, 1) := by decide +kernel
theorem dL_law_381 : decode cL_law 381 = .ok (.iload 4, 2) := by decide +kernel
theorem dL_law_383 : decode cL_law 383 = .ok (.iconst 1, 1) := by decide +kernel
theorem dL_law_384 : decode cL_law 384 = .ok (.iadd, 1) := by decide +kernel
theorem dL_law_385 : decode cL_law 385 = .ok (.iaload, 1) := by decide +kernel
theorem dL_law_386 : decode cL_law 386 = .ok (.invokevirtual 114, 3) := by decide +kernel
theorem dL_law_389 : decode cL_law 389 = .ok (.istore 6, 2) := by decide +kernel
theorem dL_law_391 : decode cL_law 391 = .ok (.aload_n 2, 1) := by decide +kernel
theorem dL_law_392 : decode cL_law 392 = .ok (.invokevirtual 100, 3) := by decide +kernel
theorem dL_law_395 : decode cL_law 395 = .ok (.iload 5, 2) := by decide +kernel
theorem dL_law_397 : decode cL_law 397 = .ok (.if_icmp .eq 5, 3) := by decide +kernel
theorem dL_law_400 : decode cL_law 400 = .ok (.iconst 0, 1) := by decide +kernel
theorem dL_law_401 : decode cL_law 401 = .ok (.ireturn, 1) := by decide +kernel
theorem dL_law_402 : decode cL_law 402 = .ok (.iload 5, 2) := by decide +kernel
theorem dL_law_404 : decode cL_law 404 = .ok (.ifCond .ne 15, 3) := by decide +kernel
theorem dL_law_407 : decode cL_law 407 = .ok (.aload_n 3, 1) := by decide +kernel
theorem dL_law_408 : decode cL_law 408 = .ok (.iconst 0, 1) := by decide +kernel
theorem dL_law_409 : decode cL_law 409 = .ok (.laload, 1) := by decide +kernel
theorem dL_law_410 : decode cL_law 410 = .ok (.iload 6, 2) := by decide +kernel
theorem dL_law_412 : decode cL_law 412 = .ok (.i2l, 1) := by decide +kernel
theorem dL_law_413 : decode cL_law 413 = .ok (.lcmp, 1) := by decide +kernel
theorem dL_law_414 : decode cL_law 414 = .ok (.ifCond .eq 5, 3) := by decide +kernel
theorem dL_law_417 : decode cL_law 417 = .ok (.iconst 0, 1) := by decide +kernel
theorem dL_law_418 : decode cL_law 418 = .ok (.ireturn, 1) := by decide +kernel
theorem dL_law_419 : decode cL_law 419 = .ok (.goto 1216, 3) := by decide +kernel
theorem dL_law_422 : decode cL_law 422 = .ok (.aload_n 1, 1) := by decide +kernel
theorem dL_law_423 : decode cL_law 423 = .ok (.aload_n 0, 1) := by decide +kernel
theorem dL_law_424 : decode cL_law 424 = .ok (.iload 4, 2) := by decide +kernel
theorem dL_law_426 : decode cL_law 426 = .ok (.iconst 1, 1) := by decide +kernel
theorem dL_law_427 : decode cL_law 427 = .ok (.iadd, 1) := by decide +kernel
theorem dL_law_428 : decode cL_law 428 = .ok (.iaload, 1) := by decide +kernel
theorem dL_law_429 : decode cL_law 429 = .ok (.aload_n 0, 1) := by decide +kernel
theorem dL_law_430 : decode cL_law 430 = .ok (.iload 4, 2) := by decide +kernel
theorem dL_law_432 : decode cL_law 432 = .ok (.iconst 2, 1) := by decide +kernel
theorem dL_law_433 : decode cL_law 433 = .ok (.iadd, 1) := by decide +kernel
theorem dL_law_434 : decode cL_law 434 = .ok (.iaload, 1) := by decide +kernel
theorem dL_law_435 : decode cL_law 435 = .ok (.aload_n 0, 1) := by decide +kernel
theorem dL_law_436 : decode cL_law 436 = .ok (.iload 4, 2) := by decide +kernel
theorem dL_law_438 : decode cL_law 438 = .ok (.iconst 3, 1) := by decide +kernel
theorem dL_law_439 : decode cL_law 439 = .ok (.iadd, 1) := by decide +kernel
theorem dL_law_440 : decode cL_law 440 = .ok (.iaload, 1) := by decide +kernel
theorem dL_law_441 : decode cL_law 441 = .ok (.aload_n 0, 1) := by decide +kernel
theorem dL_law_442 : decode cL_law 442 = .ok (.iload 4, 2) := by decide +kernel
theorem dL_law_444 : decode cL_law 444 = .ok (.iconst 4, 1) := by decide +kernel
theorem dL_law_445 : decode cL_law 445 = .ok (.iadd, 1) := by decide +kernel
theorem dL_law_446 : decode cL_law 446 = .ok (.iaload, 1) := by decide +kernel
theorem dL_law_447 : decode cL_law 447 = .ok (.aload_n 3, 1) := by decide +kernel
theorem dL_law_448 : decode cL_law 448 = .ok (.invokestatic 115, 3) := by decide +kernel
theorem dL_law_451 : decode cL_law 451 = .ok (.istore 5, 2) := by decide +kernel
theorem dL_law_453 : decode cL_law 453 = .ok (.aload_n 2, 1) := by decide +kernel
theorem dL_law_454 : decode cL_law 454 = .ok (.aload_n 0, 1) := by decide +kernel
theorem dL_law_455 : decode cL_law 455 = .ok (.iload 4, 2) := by decide +kernel
theorem dL_law_457 : decode cL_law 457 = .ok (.iconst 1, 1) := by decide +kernel
theorem dL_law_458 : decode cL_law 458 = .ok (.iadd, 1) := by decide +kernel
theorem dL_law_459 : decode cL_law 459 = .ok (.iaload, 1) := by decide +kernel
theorem dL_law_460 : decode cL_law 460 = .ok (.aload_n 0, 1) := by decide +kernel
theorem dL_law_461 : decode cL_law 461 = .ok (.iload 4, 2) := by decide +kernel
theorem dL_law_463 : decode cL_law 463 = .ok (.iconst 2, 1) := by decide +kernel
theorem dL_law_464 : decode cL_law 464 = .ok (.iadd, 1) := by decide +kernel
theorem dL_law_465 : decode cL_law 465 = .ok (.iaload, 1) := by decide +kernel
theorem dL_law_466 : decode cL_law 466 = .ok (.aload_n 0, 1) := by decide +kernel
theorem dL_law_467 : decode cL_law 467 = .ok (.iload 4, 2) := by decide +kernel
theorem dL_law_469 : decode cL_law 469 = .ok (.iconst 3, 1) := by decide +kernel
theorem dL_law_470 : decode cL_law 470 = .ok (.iadd, 1) := by decide +kernel
theorem dL_law_471 : decode cL_law 471 = .ok (.iaload, 1) := by decide +kernel
theorem dL_law_472 : decode cL_law 472 = .ok (.aload_n 0, 1) := by decide +kernel
theorem dL_law_473 : decode cL_law 473 = .ok (.iload 4, 2) := by decide +kernel
theorem dL_law_475 : decode cL_law 475 = .ok (.iconst 4, 1) := by decide +kernel
theorem dL_law_476 : decode cL_law 476 = .ok (.iadd, 1) := by decide +kernel
theorem dL_law_477 : decode cL_law 477 = .ok (.iaload, 1) := by decide +kernel
theorem dL_law_478 : decode cL_law 478 = .ok (.invokevirtual 118, 3) := by decide +kernel
theorem dL_law_481 : decode cL_law 481 = .ok (.istore 6, 2) := by decide +kernel
theorem dL_law_483 : decode cL_law 483 = .ok (.aload_n 2, 1) := by decide +kernel
theorem dL_law_484 : decode cL_law 484 = .ok (.invokevirtual 100, 3) := by decide +kernel
theorem dL_law_487 : decode cL_law 487 = .ok (.iload 5, 2) := by decide +kernel
theorem dL_law_489 : decode cL_law 489 = .ok (.if_icmp .eq 5, 3) := by decide +kernel
theorem dL_law_492 : decode cL_law 492 = .ok (.iconst 0, 1) := by decide +kernel
theorem dL_law_493 : decode cL_law 493 = .ok (.ireturn, 1) := by decide +kernel
theorem dL_law_494 : decode cL_law 494 = .ok (.iload 5, 2) := by decide +kernel
theorem dL_law_496 : decode cL_law 496 = .ok (.ifCond .ne 15, 3) := by decide +kernel
theorem dL_law_499 : decode cL_law 499 = .ok (.aload_n 3, 1) := by decide +kernel
theorem dL_law_500 : decode cL_law 500 = .ok (.iconst 0, 1) := by decide +kernel
theorem dL_law_501 : decode cL_law 501 = .ok (.laload, 1) := by decide +kernel
theorem dL_law_502 : decode cL_law 502 = .ok (.iload 6, 2) := by decide +kernel
theorem dL_law_504 : decode cL_law 504 = .ok (.i2l, 1) := by decide +kernel
theorem dL_law_505 : decode cL_law 505 = .ok (.lcmp, 1) := by decide +kernel
theorem dL_law_506 : decode cL_law 506 = .ok (.ifCond .eq 5, 3) := by decide +kernel
theorem dL_law_509 : decode cL_law 509 = .ok (.iconst 0, 1) := by decide +kernel
theorem dL_law_510 : decode cL_law 510 = .ok (.ireturn, 1) := by decide +kernel
theorem dL_law_511 : decode cL_law 511 = .ok (.goto 1124, 3) := by decide +kernel
theorem dL_law_514 : decode cL_law 514 = .ok (.aload_n 1, 1) := by decide +kernel
theorem dL_law_515 : decode cL_law 515 = .ok (.aload_n 0, 1) := by decide +kernel
theorem dL_law_516 : decode cL_law 516 = .ok (.iload 4, 2) := by decide +kernel
theorem dL_law_518 : decode cL_law 518 = .ok (.iconst 1, 1) := by decide +kernel
theorem dL_law_519 : decode cL_law 519 = .ok (.iadd, 1) := by decide +kernel
theorem dL_law_520 : decode cL_law 520 = .ok (.iaload, 1) := by decide +kernel
theorem dL_law_521 : decode cL_law 521 = .ok (.aload_n 0, 1) := by decide +kernel
theorem dL_law_522 : decode cL_law 522 = .ok (.iload 4, 2) := by decide +kernel
theorem dL_law_524 : decode cL_law 524 = .ok (.iconst 2, 1) := by decide +kernel
theorem dL_law_525 : decode cL_law 525 = .ok (.iadd, 1) := by decide +kernel
theorem dL_law_526 : decode cL_law 526 = .ok (.iaload, 1) := by decide +kernel
theorem dL_law_527 : decode cL_law 527 = .ok (.aload_n 3, 1) := by decide +kernel
theorem dL_law_528 : decode cL_law 528 = .ok (.invokestatic 119, 3) := by decide +kernel
theorem dL_law_531 : decode cL_law 531 = .ok (.istore 5, 2) := by decide +kernel
theorem dL_law_533 : decode cL_law 533 = .ok (.aload_n 2, 1) := by decide +kernel
theorem dL_law_534 : decode cL_law 534 = .ok (.aload_n 0, 1) := by decide +kernel
theorem dL_law_535 : decode cL_law 535 = .ok (.iload 4, 2) := by decide +kernel
theorem dL_law_537 : decode cL_law 537 = .ok (.iconst 1, 1) := by decide +kernel
theorem dL_law_538 : decode cL_law 538 = .ok (.iadd, 1) := by decide +kernel
theorem dL_law_539 : decode cL_law 539 = .ok (.iaload, 1) := by decide +kernel
theorem dL_law_540 : decode cL_law 540 = .ok (.aload_n 0, 1) := by decide +kernel
theorem dL_law_541 : decode cL_law 541 = .ok (.iload 4, 2) := by decide +kernel
theorem dL_law_543 : decode cL_law 543 = .ok (.iconst 2, 1) := by decide +kernel
theorem dL_law_544 : decode cL_law 544 = .ok (.iadd, 1) := by decide +kernel
theorem dL_law_545 : decode cL_law 545 = .ok (.iaload, 1) := by decide +kernel
theorem dL_law_546 : decode cL_law 546 = .ok (.invokevirtual 121, 3) := by decide +kernel
theorem dL_law_549 : decode cL_law 549 = .ok (.istore 6, 2) := by decide +kernel
theorem dL_law_551 : decode cL_law 551 = .ok (.aload_n 2, 1) := by decide +kernel
theorem dL_law_552 : decode cL_law 552 = .ok (.invokevirtual 100, 3) := by decide +kernel
theorem dL_law_555 : decode cL_law 555 = .ok (.iload 5, 2) := by decide +kernel
theorem dL_law_557 : decode cL_law 557 = .ok (.if_icmp .eq 5, 3) := by decide +kernel
theorem dL_law_560 : decode cL_law 560 = .ok (.iconst 0, 1) := by decide +kernel
theorem dL_law_561 : decode cL_law 561 = .ok (.ireturn, 1) := by decide +kernel
theorem dL_law_562 : decode cL_law 562 = .ok (.iload 5, 2) := by decide +kernel
theorem dL_law_564 : decode cL_law 564 = .ok (.ifCond .ne 15, 3) := by decide +kernel
theorem dL_law_567 : decode cL_law 567 = .ok (.aload_n 3, 1) := by decide +kernel
theorem dL_law_568 : decode cL_law 568 = .ok (.iconst 0, 1) := by decide +kernel
theorem dL_law_569 : decode cL_law 569 = .ok (.laload, 1) := by decide +kernel
theorem dL_law_570 : decode cL_law 570 = .ok (.iload 6, 2) := by decide +kernel
theorem dL_law_572 : decode cL_law 572 = .ok (.i2l, 1) := by decide +kernel
theorem dL_law_573 : decode cL_law 573 = .ok (.lcmp, 1) := by decide +kernel
theorem dL_law_574 : decode cL_law 574 = .ok (.ifCond .eq 5, 3) := by decide +kernel
theorem dL_law_577 : decode cL_law 577 = .ok (.iconst 0, 1) := by decide +kernel
theorem dL_law_578 : decode cL_law 578 = .ok (.ireturn, 1) := by decide +kernel
theorem dL_law_579 : decode cL_law 579 = .ok (.goto 1056, 3) := by decide +kernel
theorem dL_law_582 : decode cL_law 582 = .ok (.aload_n 1, 1) := by decide +kernel
theorem dL_law_583 : decode cL_law 583 = .ok (.invokevirtual 122, 3) := by decide +kernel
theorem dL_law_586 : decode cL_law 586 = .ok (.aload_n 2, 1) := by decide +kernel
theorem dL_law_587 : decode cL_law 587 = .ok (.invokevirtual 125, 3) := by decide +kernel
theorem dL_law_590 : decode cL_law 590 = .ok (.if_icmp .eq 1045, 3) := by decide +kernel
theorem dL_law_593 : decode cL_law 593 = .ok (.iconst 0, 1) := by decide +kernel
theorem dL_law_594 : decode cL_law 594 = .ok (.ireturn, 1) := by decide +kernel
theorem dL_law_595 : decode cL_law 595 = .ok (.aload_n 1, 1) := by decide +kernel
theorem dL_law_596 : decode cL_law 596 = .ok (.aload_n 0, 1) := by decide +kernel
theorem dL_law_597 : decode cL_law 597 = .ok (.iload 4, 2) := by decide +kernel
theorem dL_law_599 : decode cL_law 599 = .ok (.iconst 1, 1) := by decide +kernel
theorem dL_law_600 : decode cL_law 600 = .ok (.iadd, 1) := by decide +kernel
theorem dL_law_601 : decode cL_law 601 = .ok (.iaload, 1) := by decide +kernel
theorem dL_law_602 : decode cL_law 602 = .ok (.aload_n 0, 1) := by decide +kernel
theorem dL_law_603 : decode cL_law 603 = .ok (.iload 4, 2) := by decide +kernel
theorem dL_law_605 : decode cL_law 605 = .ok (.iconst 2, 1) := by decide +kernel
theorem dL_law_606 : decode cL_law 606 = .ok (.iadd, 1) := by decide +kernel
theorem dL_law_607 : decode cL_law 607 = .ok (.iaload, 1) := by decide +kernel
theorem dL_law_608 : decode cL_law 608 = .ok (.aload_n 0, 1) := by decide +kernel
theorem dL_law_609 : decode cL_law 609 = .ok (.iload 4, 2) := by decide +kernel
theorem dL_law_611 : decode cL_law 611 = .ok (.iconst 3, 1) := by decide +kernel
theorem dL_law_612 : decode cL_law 612 = .ok (.iadd, 1) := by decide +kernel
theorem dL_law_613 : decode cL_law 613 = .ok (.iaload, 1) := by decide +kernel
theorem dL_law_614 : decode cL_law 614 = .ok (.aload_n 3, 1) := by decide +kernel
theorem dL_law_615 : decode cL_law 615 = .ok (.invokestatic 126, 3) := by decide +kernel
theorem dL_law_618 : decode cL_law 618 = .ok (.istore 5, 2) := by decide +kernel
theorem dL_law_620 : decode cL_law 620 = .ok (.aload_n 2, 1) := by decide +kernel
theorem dL_law_621 : decode cL_law 621 = .ok (.aload_n 0, 1) := by decide +kernel
theorem dL_law_622 : decode cL_law 622 = .ok (.iload 4, 2) := by decide +kernel
theorem dL_law_624 : decode cL_law 624 = .ok (.iconst 1, 1) := by decide +kernel
theorem dL_law_625 : decode cL_law 625 = .ok (.iadd, 1) := by decide +kernel
theorem dL_law_626 : decode cL_law 626 = .ok (.iaload, 1) := by decide +kernel
theorem dL_law_627 : decode cL_law 627 = .ok (.aload_n 0, 1) := by decide +kernel
theorem dL_law_628 : decode cL_law 628 = .ok (.iload 4, 2) := by decide +kernel
theorem dL_law_630 : decode cL_law 630 = .ok (.iconst 2, 1) := by decide +kernel
theorem dL_law_631 : decode cL_law 631 = .ok (.iadd, 1) := by decide +kernel
theorem dL_law_632 : decode cL_law 632 = .ok (.iaload, 1) := by decide +kernel
theorem dL_law_633 : decode cL_law 633 = .ok (.aload_n 0, 1) := by decide +kernel
theorem dL_law_634 : decode cL_law 634 = .ok (.iload 4, 2) := by decide +kernel
theorem dL_law_636 : decode cL_law 636 = .ok (.iconst 3, 1) := by decide +kernel
theorem dL_law_637 : decode cL_law 637 = .ok (.iadd, 1) := by decide +kernel
theorem dL_law_638 : decode cL_law 638 = .ok (.iaload, 1) := by decide +kernel
theorem dL_law_639 : decode cL_law 639 = .ok (.invokevirtual 129, 3) := by decide +kernel
theorem dL_law_642 : decode cL_law 642 = .ok (.istore 6, 2) := by decide +kernel
theorem dL_law_644 : decode cL_law 644 = .ok (.aload_n 2, 1) := by decide +kernel
theorem dL_law_645 : decode cL_law 645 = .ok (.invokevirtual 100, 3) := by decide +kernel
theorem dL_law_648 : decode cL_law 648 = .ok (.iload 5, 2) := by decide +kernel
theorem dL_law_650 : decode cL_law 650 = .ok (.if_icmp .eq 5, 3) := by decide +kernel
theorem dL_law_653 : decode cL_law 653 = .ok (.iconst 0, 1) := by decide +kernel
theorem dL_law_654 : decode cL_law 654 = .ok (.ireturn, 1) := by decide +kernel
theorem dL_law_655 : decode cL_law 655 = .ok (.iload 5, 2) := by decide +kernel
theorem dL_law_657 : decode cL_law 657 = .ok (.ifCond .ne 15, 3) := by decide +kernel
theorem dL_law_660 : decode cL_law 660 = .ok (.aload_n 3, 1) := by decide +kernel
theorem dL_law_661 : decode cL_law 661 = .ok (.iconst 0, 1) := by decide +kernel
theorem dL_law_662 : decode cL_law 662 = .ok (.laload, 1) := by decide +kernel
theorem dL_law_663 : decode cL_law 663 = .ok (.iload 6, 2) := by decide +kernel
theorem dL_law_665 : decode cL_law 665 = .ok (.i2l, 1) := by decide +kernel
theorem dL_law_666 : decode cL_law 666 = .ok (.lcmp, 1) := by decide +kernel
theorem dL_law_667 : decode cL_law 667 = .ok (.ifCond .eq 5, 3) := by decide +kernel
theorem dL_law_670 : decode cL_law 670 = .ok (.iconst 0, 1) := by decide +kernel
theorem dL_law_671 : decode cL_law 671 = .ok (.ireturn, 1) := by decide +kernel
theorem dL_law_672 : decode cL_law 672 = .ok (.goto 963, 3) := by decide +kernel
theorem dL_law_675 : decode cL_law 675 = .ok (.aload_n 1, 1) := by decide +kernel
theorem dL_law_676 : decode cL_law 676 = .ok (.aload_n 0, 1) := by decide +kernel
theorem dL_law_677 : decode cL_law 677 = .ok (.iload 4, 2) := by decide +kernel
theorem dL_law_679 : decode cL_law 679 = .ok (.iconst 1, 1) := by decide +kernel
theorem dL_law_680 : decode cL_law 680 = .ok (.iadd, 1) := by decide +kernel
theorem dL_law_681 : decode cL_law 681 = .ok (.iaload, 1) := by decide +kernel
theorem dL_law_682 : decode cL_law 682 = .ok (.aload_n 3, 1) := by decide +kernel
theorem dL_law_683 : decode cL_law 683 = .ok (.invokestatic 130, 3) := by decide +kernel
theorem dL_law_686 : decode cL_law 686 = .ok (.istore 5, 2) := by decide +kernel
theorem dL_law_688 : decode cL_law 688 = .ok (.aload_n 2, 1) := by decide +kernel
theorem dL_law_689 : decode cL_law 689 = .ok (.aload_n 0, 1) := by decide +kernel
theorem dL_law_690 : decode cL_law 690 = .ok (.iload 4, 2) := by decide +kernel
theorem dL_law_692 : decode cL_law 692 = .ok (.iconst 1, 1) := by decide +kernel
theorem dL_law_693 : decode cL_law 693 = .ok (.iadd, 1) := by decide +kernel
theorem dL_law_694 : decode cL_law 694 = .ok (.iaload, 1) := by decide +kernel
theorem dL_law_695 : decode cL_law 695 = .ok (.invokevirtual 132, 3) := by decide +kernel
theorem dL_law_698 : decode cL_law 698 = .ok (.istore 6, 2) := by decide +kernel
theorem dL_law_700 : decode cL_law 700 = .ok (.aload_n 2, 1) := by decide +kernel
theorem dL_law_701 : decode cL_law 701 = .ok (.invokevirtual 100, 3) := by decide +kernel
theorem dL_law_704 : decode cL_law 704 = .ok (.iload 5, 2) := by decide +kernel
theorem dL_law_706 : decode cL_law 706 = .ok (.if_icmp .eq 5, 3) := by decide +kernel
theorem dL_law_709 : decode cL_law 709 = .ok (.iconst 0, 1) := by decide +kernel
theorem dL_law_710 : decode cL_law 710 = .ok (.ireturn, 1) := by decide +kernel
theorem dL_law_711 : decode cL_law 711 = .ok (.iload 5, 2) := by decide +kernel
theorem dL_law_713 : decode cL_law 713 = .ok (.ifCond .ne 15, 3) := by decide +kernel
theorem dL_law_716 : decode cL_law 716 = .ok (.aload_n 3, 1) := by decide +kernel
theorem dL_law_717 : decode cL_law 717 = .ok (.iconst 0, 1) := by decide +kernel
theorem dL_law_718 : decode cL_law 718 = .ok (.laload, 1) := by decide +kernel
theorem dL_law_719 : decode cL_law 719 = .ok (.iload 6, 2) := by decide +kernel
theorem dL_law_721 : decode cL_law 721 = .ok (.i2l, 1) := by decide +kernel
theorem dL_law_722 : decode cL_law 722 = .ok (.lcmp, 1) := by decide +kernel
theorem dL_law_723 : decode cL_law 723 = .ok (.ifCond .eq 5, 3) := by decide +kernel
theorem dL_law_726 : decode cL_law 726 = .ok (.iconst 0, 1) := by decide +kernel
theorem dL_law_727 : decode cL_law 727 = .ok (.ireturn, 1) := by decide +kernel
theorem dL_law_728 : decode cL_law 728 = .ok (.goto 907, 3) := by decide +kernel
theorem dL_law_731 : decode cL_law 731 = .ok (.aload_n 1, 1) := by decide +kernel
theorem dL_law_732 : decode cL_law 732 = .ok (.aload_n 0, 1) := by decide +kernel
theorem dL_law_733 : decode cL_law 733 = .ok (.iload 4, 2) := by decide +kernel
theorem dL_law_735 : decode cL_law 735 = .ok (.iconst 1, 1) := by decide +kernel
theorem dL_law_736 : decode cL_law 736 = .ok (.iadd, 1) := by decide +kernel
theorem dL_law_737 : decode cL_law 737 = .ok (.iaload, 1) := by decide +kernel
theorem dL_law_738 : decode cL_law 738 = .ok (.aload_n 3, 1) := by decide +kernel
theorem dL_law_739 : decode cL_law 739 = .ok (.invokestatic 133, 3) := by decide +kernel
theorem dL_law_742 : decode cL_law 742 = .ok (.istore 5, 2) := by decide +kernel
theorem dL_law_744 : decode cL_law 744 = .ok (.aload_n 2, 1) := by decide +kernel
theorem dL_law_745 : decode cL_law 745 = .ok (.aload_n 0, 1) := by decide +kernel
theorem dL_law_746 : decode cL_law 746 = .ok (.iload 4, 2) := by decide +kernel
theorem dL_law_748 : decode cL_law 748 = .ok (.iconst 1, 1) := by decide +kernel
theorem dL_law_749 : decode cL_law 749 = .ok (.iadd, 1) := by decide +kernel
theorem dL_law_750 : decode cL_law 750 = .ok (.iaload, 1) := by decide +kernel
theorem dL_law_751 : decode cL_law 751 = .ok (.invokevirtual 135, 3) := by decide +kernel
theorem dL_law_754 : decode cL_law 754 = .ok (.istore 6, 2) := by decide +kernel
theorem dL_law_756 : decode cL_law 756 = .ok (.aload_n 2, 1) := by decide +kernel
theorem dL_law_757 : decode cL_law 757 = .ok (.invokevirtual 100, 3) := by decide +kernel
theorem dL_law_760 : decode cL_law 760 = .ok (.iload 5, 2) := by decide +kernel
theorem dL_law_762 : decode cL_law 762 = .ok (.if_icmp .eq 5, 3) := by decide +kernel
theorem dL_law_765 : decode cL_law 765 = .ok (.iconst 0, 1) := by decide +kernel
theorem dL_law_766 : decode cL_law 766 = .ok (.ireturn, 1) := by decide +kernel
theorem dL_law_767 : decode cL_law 767 = .ok (.iload 5, 2) := by decide +kernel
theorem dL_law_769 : decode cL_law 769 = .ok (.ifCond .ne 15, 3) := by decide +kernel
theorem dL_law_772 : decode cL_law 772 = .ok (.aload_n 3, 1) := by decide +kernel
theorem dL_law_773 : decode cL_law 773 = .ok (.iconst 0, 1) := by decide +kernel
theorem dL_law_774 : decode cL_law 774 = .ok (.laload, 1) := by decide +kernel
theorem dL_law_775 : decode cL_law 775 = .ok (.iload 6, 2) := by decide +kernel
theorem dL_law_777 : decode cL_law 777 = .ok (.i2l, 1) := by decide +kernel
theorem dL_law_778 : decode cL_law 778 = .ok (.lcmp, 1) := by decide +kernel
theorem dL_law_779 : decode cL_law 779 = .ok (.ifCond .eq 5, 3) := by decide +kernel
theorem dL_law_782 : decode cL_law 782 = .ok (.iconst 0, 1) := by decide +kernel
theorem dL_law_783 : decode cL_law 783 = .ok (.ireturn, 1) := by decide +kernel
theorem dL_law_784 : decode cL_law 784 = .ok (.goto 851, 3) := by decide +kernel
theorem dL_law_787 : decode cL_law 787 = .ok (.aload_n 1, 1) := by decide +kernel
theorem dL_law_788 : decode cL_law 788 = .ok (.aload_n 0, 1) := by decide +kernel
theorem dL_law_789 : decode cL_law 789 = .ok (.iload 4, 2) := by decide +kernel
theorem dL_law_791 : decode cL_law 791 = .ok (.iconst 1, 1) := by decide +kernel
theorem dL_law_792 : decode cL_law 792 = .ok (.iadd, 1) := by decide +kernel
theorem dL_law_793 : decode cL_law 793 = .ok (.iaload, 1) := by decide +kernel
theorem dL_law_794 : decode cL_law 794 = .ok (.invokestatic 136, 3) := by decide +kernel
theorem dL_law_797 : decode cL_law 797 = .ok (.istore 5, 2) := by decide +kernel
theorem dL_law_799 : decode cL_law 799 = .ok (.aload_n 2, 1) := by decide +kernel
theorem dL_law_800 : decode cL_law 800 = .ok (.aload_n 0, 1) := by decide +kernel
theorem dL_law_801 : decode cL_law 801 = .ok (.iload 4, 2) := by decide +kernel
theorem dL_law_803 : decode cL_law 803 = .ok (.iconst 1, 1) := by decide +kernel
theorem dL_law_804 : decode cL_law 804 = .ok (.iadd, 1) := by decide +kernel
theorem dL_law_805 : decode cL_law 805 = .ok (.iaload, 1) := by decide +kernel
theorem dL_law_806 : decode cL_law 806 = .ok (.invokevirtual 139, 3) := by decide +kernel
theorem dL_law_809 : decode cL_law 809 = .ok (.aload_n 2, 1) := by decide +kernel
theorem dL_law_810 : decode cL_law 810 = .ok (.invokevirtual 100, 3) := by decide +kernel
theorem dL_law_813 : decode cL_law 813 = .ok (.iload 5, 2) := by decide +kernel
theorem dL_law_815 : decode cL_law 815 = .ok (.if_icmp .eq 5, 3) := by decide +kernel
theorem dL_law_818 : decode cL_law 818 = .ok (.iconst 0, 1) := by decide +kernel
theorem dL_law_819 : decode cL_law 819 = .ok (.ireturn, 1) := by decide +kernel
theorem dL_law_820 : decode cL_law 820 = .ok (.goto 815, 3) := by decide +kernel
theorem dL_law_823 : decode cL_law 823 = .ok (.aload_n 1, 1) := by decide +kernel
theorem dL_law_824 : decode cL_law 824 = .ok (.aload_n 0, 1) := by decide +kernel
theorem dL_law_825 : decode cL_law 825 = .ok (.iload 4, 2) := by decide +kernel
theorem dL_law_827 : decode cL_law 827 = .ok (.iconst 1, 1) := by decide +kernel
theorem dL_law_828 : decode cL_law 828 = .ok (.iadd, 1) := by decide +kernel
theorem dL_law_829 : decode cL_law 829 = .ok (.iaload, 1) := by decide +kernel
theorem dL_law_830 : decode cL_law 830 = .ok (.aload_n 3, 1) := by decide +kernel
theorem dL_law_831 : decode cL_law 831 = .ok (.invokestatic 140, 3) := by decide +kernel
theorem dL_law_834 : decode cL_law 834 = .ok (.istore 5, 2) := by decide +kernel
theorem dL_law_836 : decode cL_law 836 = .ok (.aload_n 2, 1) := by decide +kernel
theorem dL_law_837 : decode cL_law 837 = .ok (.aload_n 0, 1) := by decide +kernel
theorem dL_law_838 : decode cL_law 838 = .ok (.iload 4, 2) := by decide +kernel
theorem dL_law_840 : decode cL_law 840 = .ok (.iconst 1, 1) := by decide +kernel
theorem dL_law_841 : decode cL_law 841 = .ok (.iadd, 1) := by decide +kernel
theorem dL_law_842 : decode cL_law 842 = .ok (.iaload, 1) := by decide +kernel
theorem dL_law_843 : decode cL_law 843 = .ok (.invokevirtual 142, 3) := by decide +kernel
theorem dL_law_846 : decode cL_law 846 = .ok (.istore 6, 2) := by decide +kernel
theorem dL_law_848 : decode cL_law 848 = .ok (.aload_n 2, 1) := by decide +kernel
theorem dL_law_849 : decode cL_law 849 = .ok (.invokevirtual 100, 3) := by decide +kernel
theorem dL_law_852 : decode cL_law 852 = .ok (.iload 5, 2) := by decide +kernel
theorem dL_law_854 : decode cL_law 854 = .ok (.if_icmp .eq 5, 3) := by decide +kernel
theorem dL_law_857 : decode cL_law 857 = .ok (.iconst 0, 1) := by decide +kernel
theorem dL_law_858 : decode cL_law 858 = .ok (.ireturn, 1) := by decide +kernel
theorem dL_law_859 : decode cL_law 859 = .ok (.iload 5, 2) := by decide +kernel
theorem dL_law_861 : decode cL_law 861 = .ok (.ifCond .ne 15, 3) := by decide +kernel
theorem dL_law_864 : decode cL_law 864 = .ok (.aload_n 3, 1) := by decide +kernel
theorem dL_law_865 : decode cL_law 865 = .ok (.iconst 0, 1) := by decide +kernel
theorem dL_law_866 : decode cL_law 866 = .ok (.laload, 1) := by decide +kernel
theorem dL_law_867 : decode cL_law 867 = .ok (.iload 6, 2) := by decide +kernel
theorem dL_law_869 : decode cL_law 869 = .ok (.i2l, 1) := by decide +kernel
theorem dL_law_870 : decode cL_law 870 = .ok (.lcmp, 1) := by decide +kernel
theorem dL_law_871 : decode cL_law 871 = .ok (.ifCond .eq 5, 3) := by decide +kernel
theorem dL_law_874 : decode cL_law 874 = .ok (.iconst 0, 1) := by decide +kernel
theorem dL_law_875 : decode cL_law 875 = .ok (.ireturn, 1) := by decide +kernel
theorem dL_law_876 : decode cL_law 876 = .ok (.goto 759, 3) := by decide +kernel
theorem dL_law_879 : decode cL_law 879 = .ok (.aload_n 1, 1) := by decide +kernel
theorem dL_law_880 : decode cL_law 880 = .ok (.aload_n 0, 1) := by decide +kernel
theorem dL_law_881 : decode cL_law 881 = .ok (.iload 4, 2) := by decide +kernel
theorem dL_law_883 : decode cL_law 883 = .ok (.iconst 1, 1) := by decide +kernel
theorem dL_law_884 : decode cL_law 884 = .ok (.iadd, 1) := by decide +kernel
theorem dL_law_885 : decode cL_law 885 = .ok (.iaload, 1) := by decide +kernel
theorem dL_law_886 : decode cL_law 886 = .ok (.aload_n 3, 1) := by decide +kernel
theorem dL_law_887 : decode cL_law 887 = .ok (.invokestatic 143, 3) := by decide +kernel
theorem dL_law_890 : decode cL_law 890 = .ok (.istore 5, 2) := by decide +kernel
theorem dL_law_892 : decode cL_law 892 = .ok (.aload_n 2, 1) := by decide +kernel
theorem dL_law_893 : decode cL_law 893 = .ok (.aload_n 0, 1) := by decide +kernel
theorem dL_law_894 : decode cL_law 894 = .ok (.iload 4, 2) := by decide +kernel
theorem dL_law_896 : decode cL_law 896 = .ok (.iconst 1, 1) := by decide +kernel
theorem dL_law_897 : decode cL_law 897 = .ok (.iadd, 1) := by decide +kernel
theorem dL_law_898 : decode cL_law 898 = .ok (.iaload, 1) := by decide +kernel
theorem dL_law_899 : decode cL_law 899 = .ok (.invokevirtual 145, 3) := by decide +kernel
theorem dL_law_902 : decode cL_law 902 = .ok (.istore 6, 2) := by decide +kernel
theorem dL_law_904 : decode cL_law 904 = .ok (.aload_n 2, 1) := by decide +kernel
theorem dL_law_905 : decode cL_law 905 = .ok (.invokevirtual 100, 3) := by decide +kernel
theorem dL_law_908 : decode cL_law 908 = .ok (.iload 5, 2) := by decide +kernel
theorem dL_law_910 : decode cL_law 910 = .ok (.if_icmp .eq 5, 3) := by decide +kernel
theorem dL_law_913 : decode cL_law 913 = .ok (.iconst 0, 1) := by decide +kernel
theorem dL_law_914 : decode cL_law 914 = .ok (.ireturn, 1) := by decide +kernel
theorem dL_law_915 : decode cL_law 915 = .ok (.iload 5, 2) := by decide +kernel
theorem dL_law_917 : decode cL_law 917 = .ok (.ifCond .ne 15, 3) := by decide +kernel
theorem dL_law_920 : decode cL_law 920 = .ok (.aload_n 3, 1) := by decide +kernel
theorem dL_law_921 : decode cL_law 921 = .ok (.iconst 0, 1) := by decide +kernel
theorem dL_law_922 : decode cL_law 922 = .ok (.laload, 1) := by decide +kernel
theorem dL_law_923 : decode cL_law 923 = .ok (.iload 6, 2) := by decide +kernel
theorem dL_law_925 : decode cL_law 925 = .ok (.i2l, 1) := by decide +kernel
theorem dL_law_926 : decode cL_law 926 = .ok (.lcmp, 1) := by decide +kernel
theorem dL_law_927 : decode cL_law 927 = .ok (.ifCond .eq 5, 3) := by decide +kernel
theorem dL_law_930 : decode cL_law 930 = .ok (.iconst 0, 1) := by decide +kernel
theorem dL_law_931 : decode cL_law 931 = .ok (.ireturn, 1) := by decide +kernel
theorem dL_law_932 : decode cL_law 932 = .ok (.goto 703, 3) := by decide +kernel
theorem dL_law_935 : decode cL_law 935 = .ok (.aload_n 1, 1) := by decide +kernel
theorem dL_law_936 : decode cL_law 936 = .ok (.aload_n 0, 1) := by decide +kernel
theorem dL_law_937 : decode cL_law 937 = .ok (.iload 4, 2) := by decide +kernel
theorem dL_law_939 : decode cL_law 939 = .ok (.iconst 1, 1) := by decide +kernel
theorem dL_law_940 : decode cL_law 940 = .ok (.iadd, 1) := by decide +kernel
theorem dL_law_941 : decode cL_law 941 = .ok (.iaload, 1) := by decide +kernel
theorem dL_law_942 : decode cL_law 942 = .ok (.aload_n 0, 1) := by decide +kernel
theorem dL_law_943 : decode cL_law 943 = .ok (.iload 4, 2) := by decide +kernel
theorem dL_law_945 : decode cL_law 945 = .ok (.iconst 2, 1) := by decide +kernel
theorem dL_law_946 : decode cL_law 946 = .ok (.iadd, 1) := by decide +kernel
theorem dL_law_947 : decode cL_law 947 = .ok (.iaload, 1) := by decide +kernel
theorem dL_law_948 : decode cL_law 948 = .ok (.aload_n 0, 1) := by decide +kernel
theorem dL_law_949 : decode cL_law 949 = .ok (.iload 4, 2) := by decide +kernel
theorem dL_law_951 : decode cL_law 951 = .ok (.iconst 3, 1) := by decide +kernel
theorem dL_law_952 : decode cL_law 952 = .ok (.iadd, 1) := by decide +kernel
theorem dL_law_953 : decode cL_law 953 = .ok (.iaload, 1) := by decide +kernel
theorem dL_law_954 : decode cL_law 954 = .ok (.aload_n 0, 1) := by decide +kernel
theorem dL_law_955 : decode cL_law 955 = .ok (.iload 4, 2) := by decide +kernel
theorem dL_law_957 : decode cL_law 957 = .ok (.iconst 4, 1) := by decide +kernel
theorem dL_law_958 : decode cL_law 958 = .ok (.iadd, 1) := by decide +kernel
theorem dL_law_959 : decode cL_law 959 = .ok (.iaload, 1) := by decide +kernel
theorem dL_law_960 : decode cL_law 960 = .ok (.aload_n 3, 1) := by decide +kernel
theorem dL_law_961 : decode cL_law 961 = .ok (.invokestatic 146, 3) := by decide +kernel
theorem dL_law_964 : decode cL_law 964 = .ok (.istore 5, 2) := by decide +kernel
theorem dL_law_966 : decode cL_law 966 = .ok (.aload_n 2, 1) := by decide +kernel
theorem dL_law_967 : decode cL_law 967 = .ok (.aload_n 0, 1) := by decide +kernel
theorem dL_law_968 : decode cL_law 968 = .ok (.iload 4, 2) := by decide +kernel
theorem dL_law_970 : decode cL_law 970 = .ok (.iconst 1, 1) := by decide +kernel
theorem dL_law_971 : decode cL_law 971 = .ok (.iadd, 1) := by decide +kernel
theorem dL_law_972 : decode cL_law 972 = .ok (.iaload, 1) := by decide +kernel
theorem dL_law_973 : decode cL_law 973 = .ok (.aload_n 0, 1) := by decide +kernel
theorem dL_law_974 : decode cL_law 974 = .ok (.iload 4, 2) := by decide +kernel
theorem dL_law_976 : decode cL_law 976 = .ok (.iconst 2, 1) := by decide +kernel
theorem dL_law_977 : decode cL_law 977 = .ok (.iadd, 1) := by decide +kernel
theorem dL_law_978 : decode cL_law 978 = .ok (.iaload, 1) := by decide +kernel
theorem dL_law_979 : decode cL_law 979 = .ok (.aload_n 0, 1) := by decide +kernel
theorem dL_law_980 : decode cL_law 980 = .ok (.iload 4, 2) := by decide +kernel
theorem dL_law_982 : decode cL_law 982 = .ok (.iconst 3, 1) := by decide +kernel
theorem dL_law_983 : decode cL_law 983 = .ok (.iadd, 1) := by decide +kernel
theorem dL_law_984 : decode cL_law 984 = .ok (.iaload, 1) := by decide +kernel
theorem dL_law_985 : decode cL_law 985 = .ok (.aload_n 0, 1) := by decide +kernel
theorem dL_law_986 : decode cL_law 986 = .ok (.iload 4, 2) := by decide +kernel
theorem dL_law_988 : decode cL_law 988 = .ok (.iconst 4, 1) := by decide +kernel
theorem dL_law_989 : decode cL_law 989 = .ok (.iadd, 1) := by decide +kernel
theorem dL_law_990 : decode cL_law 990 = .ok (.iaload, 1) := by decide +kernel
theorem dL_law_991 : decode cL_law 991 = .ok (.invokevirtual 148, 3) := by decide +kernel
theorem dL_law_994 : decode cL_law 994 = .ok (.istore 6, 2) := by decide +kernel
theorem dL_law_996 : decode cL_law 996 = .ok (.aload_n 2, 1) := by decide +kernel
theorem dL_law_997 : decode cL_law 997 = .ok (.invokevirtual 100, 3) := by decide +kernel
theorem dL_law_1000 : decode cL_law 1000 = .ok (.iload 5, 2) := by decide +kernel
theorem dL_law_1002 : decode cL_law 1002 = .ok (.if_icmp .eq 5, 3) := by decide +kernel
theorem dL_law_1005 : decode cL_law 1005 = .ok (.iconst 0, 1) := by decide +kernel
theorem dL_law_1006 : decode cL_law 1006 = .ok (.ireturn, 1) := by decide +kernel
theorem dL_law_1007 : decode cL_law 1007 = .ok (.iload 5, 2) := by decide +kernel
theorem dL_law_1009 : decode cL_law 1009 = .ok (.ifCond .ne 15, 3) := by decide +kernel
theorem dL_law_1012 : decode cL_law 1012 = .ok (.aload_n 3, 1) := by decide +kernel
theorem dL_law_1013 : decode cL_law 1013 = .ok (.iconst 0, 1) := by decide +kernel
theorem dL_law_1014 : decode cL_law 1014 = .ok (.laload, 1) := by decide +kernel
theorem dL_law_1015 : decode cL_law 1015 = .ok (.iload 6, 2) := by decide +kernel
theorem dL_law_1017 : decode cL_law 1017 = .ok (.i2l, 1) := by decide +kernel
theorem dL_law_1018 : decode cL_law 1018 = .ok (.lcmp, 1) := by decide +kernel
theorem dL_law_1019 : decode cL_law 1019 = .ok (.ifCond .eq 5, 3) := by decide +kernel
theorem dL_law_1022 : decode cL_law 1022 = .ok (.iconst 0, 1) := by decide +kernel
theorem dL_law_1023 : decode cL_law 1023 = .ok (.ireturn, 1) := by decide +kernel
theorem dL_law_1024 : decode cL_law 1024 = .ok (.goto 611, 3) := by decide +kernel
theorem dL_law_1027 : decode cL_law 1027 = .ok (.aload_n 1, 1) := by decide +kernel
theorem dL_law_1028 : decode cL_law 1028 = .ok (.aload_n 0, 1) := by decide +kernel
theorem dL_law_1029 : decode cL_law 1029 = .ok (.iload 4, 2) := by decide +kernel
theorem dL_law_1031 : decode cL_law 1031 = .ok (.iconst 1, 1) := by decide +kernel
theorem dL_law_1032 : decode cL_law 1032 = .ok (.iadd, 1) := by decide +kernel
theorem dL_law_1033 : decode cL_law 1033 = .ok (.iaload, 1) := by decide +kernel
theorem dL_law_1034 : decode cL_law 1034 = .ok (.aload_n 0, 1) := by decide +kernel
theorem dL_law_1035 : decode cL_law 1035 = .ok (.iload 4, 2) := by decide +kernel
theorem dL_law_1037 : decode cL_law 1037 = .ok (.iconst 2, 1) := by decide +kernel
theorem dL_law_1038 : decode cL_law 1038 = .ok (.iadd, 1) := by decide +kernel
theorem dL_law_1039 : decode cL_law 1039 = .ok (.iaload, 1) := by decide +kernel
theorem dL_law_1040 : decode cL_law 1040 = .ok (.aload_n 3, 1) := by decide +kernel
theorem dL_law_1041 : decode cL_law 1041 = .ok (.invokestatic 149, 3) := by decide +kernel
theorem dL_law_1044 : decode cL_law 1044 = .ok (.istore 5, 2) := by decide +kernel
theorem dL_law_1046 : decode cL_law 1046 = .ok (.aload_n 2, 1) := by decide +kernel
theorem dL_law_1047 : decode cL_law 1047 = .ok (.aload_n 0, 1) := by decide +kernel
theorem dL_law_1048 : decode cL_law 1048 = .ok (.iload 4, 2) := by decide +kernel
theorem dL_law_1050 : decode cL_law 1050 = .ok (.iconst 1, 1) := by decide +kernel
theorem dL_law_1051 : decode cL_law 1051 = .ok (.iadd, 1) := by decide +kernel
theorem dL_law_1052 : decode cL_law 1052 = .ok (.iaload, 1) := by decide +kernel
theorem dL_law_1053 : decode cL_law 1053 = .ok (.aload_n 0, 1) := by decide +kernel
theorem dL_law_1054 : decode cL_law 1054 = .ok (.iload 4, 2) := by decide +kernel
theorem dL_law_1056 : decode cL_law 1056 = .ok (.iconst 2, 1) := by decide +kernel
theorem dL_law_1057 : decode cL_law 1057 = .ok (.iadd, 1) := by decide +kernel
theorem dL_law_1058 : decode cL_law 1058 = .ok (.iaload, 1) := by decide +kernel
theorem dL_law_1059 : decode cL_law 1059 = .ok (.invokevirtual 151, 3) := by decide +kernel
theorem dL_law_1062 : decode cL_law 1062 = .ok (.istore 6, 2) := by decide +kernel
theorem dL_law_1064 : decode cL_law 1064 = .ok (.aload_n 2, 1) := by decide +kernel
theorem dL_law_1065 : decode cL_law 1065 = .ok (.invokevirtual 100, 3) := by decide +kernel
theorem dL_law_1068 : decode cL_law 1068 = .ok (.iload 5, 2) := by decide +kernel
theorem dL_law_1070 : decode cL_law 1070 = .ok (.if_icmp .eq 5, 3) := by decide +kernel
theorem dL_law_1073 : decode cL_law 1073 = .ok (.iconst 0, 1) := by decide +kernel
theorem dL_law_1074 : decode cL_law 1074 = .ok (.ireturn, 1) := by decide +kernel
theorem dL_law_1075 : decode cL_law 1075 = .ok (.iload 5, 2) := by decide +kernel
theorem dL_law_1077 : decode cL_law 1077 = .ok (.ifCond .ne 15, 3) := by decide +kernel
theorem dL_law_1080 : decode cL_law 1080 = .ok (.aload_n 3, 1) := by decide +kernel
theorem dL_law_1081 : decode cL_law 1081 = .ok (.iconst 0, 1) := by decide +kernel
theorem dL_law_1082 : decode cL_law 1082 = .ok (.laload, 1) := by decide +kernel
theorem dL_law_1083 : decode cL_law 1083 = .ok (.iload 6, 2) := by decide +kernel
theorem dL_law_1085 : decode cL_law 1085 = .ok (.i2l, 1) := by decide +kernel
theorem dL_law_1086 : decode cL_law 1086 = .ok (.lcmp, 1) := by decide +kernel
theorem dL_law_1087 : decode cL_law 1087 = .ok (.ifCond .eq 5, 3) := by decide +kernel
theorem dL_law_1090 : decode cL_law 1090 = .ok (.iconst 0, 1) := by decide +kernel
theorem dL_law_1091 : decode cL_law 1091 = .ok (.ireturn, 1) := by decide +kernel
theorem dL_law_1092 : decode cL_law 1092 = .ok (.goto 543, 3) := by decide +kernel
theorem dL_law_1095 : decode cL_law 1095 = .ok (.aload_n 1, 1) := by decide +kernel
theorem dL_law_1096 : decode cL_law 1096 = .ok (.aload_n 0, 1) := by decide +kernel
theorem dL_law_1097 : decode cL_law 1097 = .ok (.iload 4, 2) := by decide +kernel
theorem dL_law_1099 : decode cL_law 1099 = .ok (.iconst 1, 1) := by decide +kernel
theorem dL_law_1100 : decode cL_law 1100 = .ok (.iadd, 1) := by decide +kernel
theorem dL_law_1101 : decode cL_law 1101 = .ok (.iaload, 1) := by decide +kernel
theorem dL_law_1102 : decode cL_law 1102 = .ok (.aload_n 0, 1) := by decide +kernel
theorem dL_law_1103 : decode cL_law 1103 = .ok (.iload 4, 2) := by decide +kernel
theorem dL_law_1105 : decode cL_law 1105 = .ok (.iconst 2, 1) := by decide +kernel
theorem dL_law_1106 : decode cL_law 1106 = .ok (.iadd, 1) := by decide +kernel
theorem dL_law_1107 : decode cL_law 1107 = .ok (.iaload, 1) := by decide +kernel
theorem dL_law_1108 : decode cL_law 1108 = .ok (.aload_n 3, 1) := by decide +kernel
theorem dL_law_1109 : decode cL_law 1109 = .ok (.invokestatic 152, 3) := by decide +kernel
theorem dL_law_1112 : decode cL_law 1112 = .ok (.istore 5, 2) := by decide +kernel
theorem dL_law_1114 : decode cL_law 1114 = .ok (.aload_n 2, 1) := by decide +kernel
theorem dL_law_1115 : decode cL_law 1115 = .ok (.aload_n 0, 1) := by decide +kernel
theorem dL_law_1116 : decode cL_law 1116 = .ok (.iload 4, 2) := by decide +kernel
theorem dL_law_1118 : decode cL_law 1118 = .ok (.iconst 1, 1) := by decide +kernel
theorem dL_law_1119 : decode cL_law 1119 = .ok (.iadd, 1) := by decide +kernel
theorem dL_law_1120 : decode cL_law 1120 = .ok (.iaload, 1) := by decide +kernel
theorem dL_law_1121 : decode cL_law 1121 = .ok (.aload_n 0, 1) := by decide +kernel
theorem dL_law_1122 : decode cL_law 1122 = .ok (.iload 4, 2) := by decide +kernel
theorem dL_law_1124 : decode cL_law 1124 = .ok (.iconst 2, 1) := by decide +kernel
theorem dL_law_1125 : decode cL_law 1125 = .ok (.iadd, 1) := by decide +kernel
theorem dL_law_1126 : decode cL_law 1126 = .ok (.iaload, 1) := by decide +kernel
theorem dL_law_1127 : decode cL_law 1127 = .ok (.invokevirtual 154, 3) := by decide +kernel
theorem dL_law_1130 : decode cL_law 1130 = .ok (.istore 6, 2) := by decide +kernel
theorem dL_law_1132 : decode cL_law 1132 = .ok (.aload_n 2, 1) := by decide +kernel
theorem dL_law_1133 : decode cL_law 1133 = .ok (.invokevirtual 100, 3) := by decide +kernel
theorem dL_law_1136 : decode cL_law 1136 = .ok (.iload 5, 2) := by decide +kernel
theorem dL_law_1138 : decode cL_law 1138 = .ok (.if_icmp .eq 5, 3) := by decide +kernel
theorem dL_law_1141 : decode cL_law 1141 = .ok (.iconst 0, 1) := by decide +kernel
theorem dL_law_1142 : decode cL_law 1142 = .ok (.ireturn, 1) := by decide +kernel
theorem dL_law_1143 : decode cL_law 1143 = .ok (.iload 5, 2) := by decide +kernel
theorem dL_law_1145 : decode cL_law 1145 = .ok (.ifCond .ne 15, 3) := by decide +kernel
theorem dL_law_1148 : decode cL_law 1148 = .ok (.aload_n 3, 1) := by decide +kernel
theorem dL_law_1149 : decode cL_law 1149 = .ok (.iconst 0, 1) := by decide +kernel
theorem dL_law_1150 : decode cL_law 1150 = .ok (.laload, 1) := by decide +kernel
theorem dL_law_1151 : decode cL_law 1151 = .ok (.iload 6, 2) := by decide +kernel
theorem dL_law_1153 : decode cL_law 1153 = .ok (.i2l, 1) := by decide +kernel
theorem dL_law_1154 : decode cL_law 1154 = .ok (.lcmp, 1) := by decide +kernel
theorem dL_law_1155 : decode cL_law 1155 = .ok (.ifCond .eq 5, 3) := by decide +kernel
theorem dL_law_1158 : decode cL_law 1158 = .ok (.iconst 0, 1) := by decide +kernel
theorem dL_law_1159 : decode cL_law 1159 = .ok (.ireturn, 1) := by decide +kernel
theorem dL_law_1160 : decode cL_law 1160 = .ok (.goto 475, 3) := by decide +kernel
theorem dL_law_1163 : decode cL_law 1163 = .ok (.aload_n 1, 1) := by decide +kernel
theorem dL_law_1164 : decode cL_law 1164 = .ok (.aload_n 0, 1) := by decide +kernel
theorem dL_law_1165 : decode cL_law 1165 = .ok (.iload 4, 2) := by decide +kernel
theorem dL_law_1167 : decode cL_law 1167 = .ok (.iconst 1, 1) := by decide +kernel
theorem dL_law_1168 : decode cL_law 1168 = .ok (.iadd, 1) := by decide +kernel
theorem dL_law_1169 : decode cL_law 1169 = .ok (.iaload, 1) := by decide +kernel
theorem dL_law_1170 : decode cL_law 1170 = .ok (.aload_n 0, 1) := by decide +kernel
theorem dL_law_1171 : decode cL_law 1171 = .ok (.iload 4, 2) := by decide +kernel
theorem dL_law_1173 : decode cL_law 1173 = .ok (.iconst 2, 1) := by decide +kernel
theorem dL_law_1174 : decode cL_law 1174 = .ok (.iadd, 1) := by decide +kernel
theorem dL_law_1175 : decode cL_law 1175 = .ok (.iaload, 1) := by decide +kernel
theorem dL_law_1176 : decode cL_law 1176 = .ok (.aload_n 0, 1) := by decide +kernel
theorem dL_law_1177 : decode cL_law 1177 = .ok (.iload 4, 2) := by decide +kernel
theorem dL_law_1179 : decode cL_law 1179 = .ok (.iconst 3, 1) := by decide +kernel
theorem dL_law_1180 : decode cL_law 1180 = .ok (.iadd, 1) := by decide +kernel
theorem dL_law_1181 : decode cL_law 1181 = .ok (.iaload, 1) := by decide +kernel
theorem dL_law_1182 : decode cL_law 1182 = .ok (.aload_n 3, 1) := by decide +kernel
theorem dL_law_1183 : decode cL_law 1183 = .ok (.invokestatic 155, 3) := by decide +kernel
theorem dL_law_1186 : decode cL_law 1186 = .ok (.istore 5, 2) := by decide +kernel
theorem dL_law_1188 : decode cL_law 1188 = .ok (.aload_n 2, 1) := by decide +kernel
theorem dL_law_1189 : decode cL_law 1189 = .ok (.aload_n 0, 1) := by decide +kernel
theorem dL_law_1190 : decode cL_law 1190 = .ok (.iload 4, 2) := by decide +kernel
theorem dL_law_1192 : decode cL_law 1192 = .ok (.iconst 1, 1) := by decide +kernel
theorem dL_law_1193 : decode cL_law 1193 = .ok (.iadd, 1) := by decide +kernel
theorem dL_law_1194 : decode cL_law 1194 = .ok (.iaload, 1) := by decide +kernel
theorem dL_law_1195 : decode cL_law 1195 = .ok (.aload_n 0, 1) := by decide +kernel
theorem dL_law_1196 : decode cL_law 1196 = .ok (.iload 4, 2) := by decide +kernel
theorem dL_law_1198 : decode cL_law 1198 = .ok (.iconst 2, 1) := by decide +kernel
theorem dL_law_1199 : decode cL_law 1199 = .ok (.iadd, 1) := by decide +kernel
theorem dL_law_1200 : decode cL_law 1200 = .ok (.iaload, 1) := by decide +kernel
theorem dL_law_1201 : decode cL_law 1201 = .ok (.aload_n 0, 1) := by decide +kernel
theorem dL_law_1202 : decode cL_law 1202 = .ok (.iload 4, 2) := by decide +kernel
theorem dL_law_1204 : decode cL_law 1204 = .ok (.iconst 3, 1) := by decide +kernel
theorem dL_law_1205 : decode cL_law 1205 = .ok (.iadd, 1) := by decide +kernel
theorem dL_law_1206 : decode cL_law 1206 = .ok (.iaload, 1) := by decide +kernel
theorem dL_law_1207 : decode cL_law 1207 = .ok (.invokevirtual 157, 3) := by decide +kernel
theorem dL_law_1210 : decode cL_law 1210 = .ok (.istore 6, 2) := by decide +kernel
theorem dL_law_1212 : decode cL_law 1212 = .ok (.aload_n 2, 1) := by decide +kernel
theorem dL_law_1213 : decode cL_law 1213 = .ok (.invokevirtual 100, 3) := by decide +kernel
theorem dL_law_1216 : decode cL_law 1216 = .ok (.iload 5, 2) := by decide +kernel
theorem dL_law_1218 : decode cL_law 1218 = .ok (.if_icmp .eq 5, 3) := by decide +kernel
theorem dL_law_1221 : decode cL_law 1221 = .ok (.iconst 0, 1) := by decide +kernel
theorem dL_law_1222 : decode cL_law 1222 = .ok (.ireturn, 1) := by decide +kernel
theorem dL_law_1223 : decode cL_law 1223 = .ok (.iload 5, 2) := by decide +kernel
theorem dL_law_1225 : decode cL_law 1225 = .ok (.ifCond .ne 15, 3) := by decide +kernel
theorem dL_law_1228 : decode cL_law 1228 = .ok (.aload_n 3, 1) := by decide +kernel
theorem dL_law_1229 : decode cL_law 1229 = .ok (.iconst 0, 1) := by decide +kernel
theorem dL_law_1230 : decode cL_law 1230 = .ok (.laload, 1) := by decide +kernel
theorem dL_law_1231 : decode cL_law 1231 = .ok (.iload 6, 2) := by decide +kernel
theorem dL_law_1233 : decode cL_law 1233 = .ok (.i2l, 1) := by decide +kernel
theorem dL_law_1234 : decode cL_law 1234 = .ok (.lcmp, 1) := by decide +kernel
theorem dL_law_1235 : decode cL_law 1235 = .ok (.ifCond .eq 5, 3) := by decide +kernel
theorem dL_law_1238 : decode cL_law 1238 = .ok (.iconst 0, 1) := by decide +kernel
theorem dL_law_1239 : decode cL_law 1239 = .ok (.ireturn, 1) := by decide +kernel
theorem dL_law_1240 : decode cL_law 1240 = .ok (.goto 395, 3) := by decide +kernel
theorem dL_law_1243 : decode cL_law 1243 = .ok (.aload_n 1, 1) := by decide +kernel
theorem dL_law_1244 : decode cL_law 1244 = .ok (.aload_n 0, 1) := by decide +kernel
theorem dL_law_1245 : decode cL_law 1245 = .ok (.iload 4, 2) := by decide +kernel
theorem dL_law_1247 : decode cL_law 1247 = .ok (.iconst 1, 1) := by decide +kernel
theorem dL_law_1248 : decode cL_law 1248 = .ok (.iadd, 1) := by decide +kernel
theorem dL_law_1249 : decode cL_law 1249 = .ok (.iaload, 1) := by decide +kernel
theorem dL_law_1250 : decode cL_law 1250 = .ok (.aload_n 0, 1) := by decide +kernel
theorem dL_law_1251 : decode cL_law 1251 = .ok (.iload 4, 2) := by decide +kernel
theorem dL_law_1253 : decode cL_law 1253 = .ok (.iconst 2, 1) := by decide +kernel
theorem dL_law_1254 : decode cL_law 1254 = .ok (.iadd, 1) := by decide +kernel
theorem dL_law_1255 : decode cL_law 1255 = .ok (.iaload, 1) := by decide +kernel
theorem dL_law_1256 : decode cL_law 1256 = .ok (.aload_n 3, 1) := by decide +kernel
theorem dL_law_1257 : decode cL_law 1257 = .ok (.invokestatic 158, 3) := by decide +kernel
theorem dL_law_1260 : decode cL_law 1260 = .ok (.istore 5, 2) := by decide +kernel
theorem dL_law_1262 : decode cL_law 1262 = .ok (.aload_n 2, 1) := by decide +kernel
theorem dL_law_1263 : decode cL_law 1263 = .ok (.aload_n 0, 1) := by decide +kernel
theorem dL_law_1264 : decode cL_law 1264 = .ok (.iload 4, 2) := by decide +kernel
theorem dL_law_1266 : decode cL_law 1266 = .ok (.iconst 1, 1) := by decide +kernel
theorem dL_law_1267 : decode cL_law 1267 = .ok (.iadd, 1) := by decide +kernel
theorem dL_law_1268 : decode cL_law 1268 = .ok (.iaload, 1) := by decide +kernel
theorem dL_law_1269 : decode cL_law 1269 = .ok (.aload_n 0, 1) := by decide +kernel
theorem dL_law_1270 : decode cL_law 1270 = .ok (.iload 4, 2) := by decide +kernel
theorem dL_law_1272 : decode cL_law 1272 = .ok (.iconst 2, 1) := by decide +kernel
theorem dL_law_1273 : decode cL_law 1273 = .ok (.iadd, 1) := by decide +kernel
theorem dL_law_1274 : decode cL_law 1274 = .ok (.iaload, 1) := by decide +kernel
theorem dL_law_1275 : decode cL_law 1275 = .ok (.invokevirtual 160, 3) := by decide +kernel
theorem dL_law_1278 : decode cL_law 1278 = .ok (.istore 6, 2) := by decide +kernel
theorem dL_law_1280 : decode cL_law 1280 = .ok (.aload_n 2, 1) := by decide +kernel
theorem dL_law_1281 : decode cL_law 1281 = .ok (.invokevirtual 100, 3) := by decide +kernel
theorem dL_law_1284 : decode cL_law 1284 = .ok (.iload 5, 2) := by decide +kernel
theorem dL_law_1286 : decode cL_law 1286 = .ok (.if_icmp .eq 5, 3) := by decide +kernel
theorem dL_law_1289 : decode cL_law 1289 = .ok (.iconst 0, 1) := by decide +kernel
theorem dL_law_1290 : decode cL_law 1290 = .ok (.ireturn, 1) := by decide +kernel
theorem dL_law_1291 : decode cL_law 1291 = .ok (.iload 5, 2) := by decide +kernel
theorem dL_law_1293 : decode cL_law 1293 = .ok (.ifCond .ne 15, 3) := by decide +kernel
theorem dL_law_1296 : decode cL_law 1296 = .ok (.aload_n 3, 1) := by decide +kernel
theorem dL_law_1297 : decode cL_law 1297 = .ok (.iconst 0, 1) := by decide +kernel
theorem dL_law_1298 : decode cL_law 1298 = .ok (.laload, 1) := by decide +kernel
theorem dL_law_1299 : decode cL_law 1299 = .ok (.iload 6, 2) := by decide +kernel
theorem dL_law_1301 : decode cL_law 1301 = .ok (.i2l, 1) := by decide +kernel
theorem dL_law_1302 : decode cL_law 1302 = .ok (.lcmp, 1) := by decide +kernel
theorem dL_law_1303 : decode cL_law 1303 = .ok (.ifCond .eq 5, 3) := by decide +kernel
theorem dL_law_1306 : decode cL_law 1306 = .ok (.iconst 0, 1) := by decide +kernel
theorem dL_law_1307 : decode cL_law 1307 = .ok (.ireturn, 1) := by decide +kernel
theorem dL_law_1308 : decode cL_law 1308 = .ok (.goto 327, 3) := by decide +kernel
theorem dL_law_1311 : decode cL_law 1311 = .ok (.aload_n 1, 1) := by decide +kernel
theorem dL_law_1312 : decode cL_law 1312 = .ok (.aload_n 0, 1) := by decide +kernel
theorem dL_law_1313 : decode cL_law 1313 = .ok (.iload 4, 2) := by decide +kernel
theorem dL_law_1315 : decode cL_law 1315 = .ok (.iconst 1, 1) := by decide +kernel
theorem dL_law_1316 : decode cL_law 1316 = .ok (.iadd, 1) := by decide +kernel
theorem dL_law_1317 : decode cL_law 1317 = .ok (.iaload, 1) := by decide +kernel
theorem dL_law_1318 : decode cL_law 1318 = .ok (.aload_n 0, 1) := by decide +kernel
theorem dL_law_1319 : decode cL_law 1319 = .ok (.iload 4, 2) := by decide +kernel
theorem dL_law_1321 : decode cL_law 1321 = .ok (.iconst 2, 1) := by decide +kernel
theorem dL_law_1322 : decode cL_law 1322 = .ok (.iadd, 1) := by decide +kernel
theorem dL_law_1323 : decode cL_law 1323 = .ok (.iaload, 1) := by decide +kernel
theorem dL_law_1324 : decode cL_law 1324 = .ok (.aload_n 3, 1) := by decide +kernel
theorem dL_law_1325 : decode cL_law 1325 = .ok (.invokestatic 161, 3) := by decide +kernel
theorem dL_law_1328 : decode cL_law 1328 = .ok (.istore 5, 2) := by decide +kernel
theorem dL_law_1330 : decode cL_law 1330 = .ok (.aload_n 2, 1) := by decide +kernel
theorem dL_law_1331 : decode cL_law 1331 = .ok (.aload_n 0, 1) := by decide +kernel
theorem dL_law_1332 : decode cL_law 1332 = .ok (.iload 4, 2) := by decide +kernel
theorem dL_law_1334 : decode cL_law 1334 = .ok (.iconst 1, 1) := by decide +kernel
theorem dL_law_1335 : decode cL_law 1335 = .ok (.iadd, 1) := by decide +kernel
theorem dL_law_1336 : decode cL_law 1336 = .ok (.iaload, 1) := by decide +kernel
theorem dL_law_1337 : decode cL_law 1337 = .ok (.aload_n 0, 1) := by decide +kernel
theorem dL_law_1338 : decode cL_law 1338 = .ok (.iload 4, 2) := by decide +kernel
theorem dL_law_1340 : decode cL_law 1340 = .ok (.iconst 2, 1) := by decide +kernel
theorem dL_law_1341 : decode cL_law 1341 = .ok (.iadd, 1) := by decide +kernel
theorem dL_law_1342 : decode cL_law 1342 = .ok (.iaload, 1) := by decide +kernel
theorem dL_law_1343 : decode cL_law 1343 = .ok (.invokevirtual 163, 3) := by decide +kernel
theorem dL_law_1346 : decode cL_law 1346 = .ok (.lstore 6, 2) := by decide +kernel
theorem dL_law_1348 : decode cL_law 1348 = .ok (.aload_n 2, 1) := by decide +kernel
theorem dL_law_1349 : decode cL_law 1349 = .ok (.invokevirtual 100, 3) := by decide +kernel
theorem dL_law_1352 : decode cL_law 1352 = .ok (.iload 5, 2) := by decide +kernel
theorem dL_law_1354 : decode cL_law 1354 = .ok (.if_icmp .eq 5, 3) := by decide +kernel
theorem dL_law_1357 : decode cL_law 1357 = .ok (.iconst 0, 1) := by decide +kernel
theorem dL_law_1358 : decode cL_law 1358 = .ok (.ireturn, 1) := by decide +kernel
theorem dL_law_1359 : decode cL_law 1359 = .ok (.iload 5, 2) := by decide +kernel
theorem dL_law_1361 : decode cL_law 1361 = .ok (.ifCond .ne 14, 3) := by decide +kernel
theorem dL_law_1364 : decode cL_law 1364 = .ok (.aload_n 3, 1) := by decide +kernel
theorem dL_law_1365 : decode cL_law 1365 = .ok (.iconst 0, 1) := by decide +kernel
theorem dL_law_1366 : decode cL_law 1366 = .ok (.laload, 1) := by decide +kernel
theorem dL_law_1367 : decode cL_law 1367 = .ok (.lload 6, 2) := by decide +kernel
theorem dL_law_1369 : decode cL_law 1369 = .ok (.lcmp, 1) := by decide +kernel
theorem dL_law_1370 : decode cL_law 1370 = .ok (.ifCond .eq 5, 3) := by decide +kernel
theorem dL_law_1373 : decode cL_law 1373 = .ok (.iconst 0, 1) := by decide +kernel
theorem dL_law_1374 : decode cL_law 1374 = .ok (.ireturn, 1) := by decide +kernel
theorem dL_law_1375 : decode cL_law 1375 = .ok (.goto 260, 3) := by decide +kernel
theorem dL_law_1378 : decode cL_law 1378 = .ok (.aload_n 1, 1) := by decide +kernel
theorem dL_law_1379 : decode cL_law 1379 = .ok (.aload_n 0, 1) := by decide +kernel
theorem dL_law_1380 : decode cL_law 1380 = .ok (.iload 4, 2) := by decide +kernel
theorem dL_law_1382 : decode cL_law 1382 = .ok (.iconst 1, 1) := by decide +kernel
theorem dL_law_1383 : decode cL_law 1383 = .ok (.iadd, 1) := by decide +kernel
theorem dL_law_1384 : decode cL_law 1384 = .ok (.iaload, 1) := by decide +kernel
theorem dL_law_1385 : decode cL_law 1385 = .ok (.aload_n 3, 1) := by decide +kernel
theorem dL_law_1386 : decode cL_law 1386 = .ok (.invokestatic 164, 3) := by decide +kernel
theorem dL_law_1389 : decode cL_law 1389 = .ok (.istore 5, 2) := by decide +kernel
theorem dL_law_1391 : decode cL_law 1391 = .ok (.aload_n 2, 1) := by decide +kernel
theorem dL_law_1392 : decode cL_law 1392 = .ok (.aload_n 0, 1) := by decide +kernel
theorem dL_law_1393 : decode cL_law 1393 = .ok (.iload 4, 2) := by decide +kernel
theorem dL_law_1395 : decode cL_law 1395 = .ok (.iconst 1, 1) := by decide +kernel
theorem dL_law_1396 : decode cL_law 1396 = .ok (.iadd, 1) := by decide +kernel
theorem dL_law_1397 : decode cL_law 1397 = .ok (.iaload, 1) := by decide +kernel
theorem dL_law_1398 : decode cL_law 1398 = .ok (.invokevirtual 166, 3) := by decide +kernel
theorem dL_law_1401 : decode cL_law 1401 = .ok (.lstore 6, 2) := by decide +kernel
theorem dL_law_1403 : decode cL_law 1403 = .ok (.aload_n 2, 1) := by decide +kernel
theorem dL_law_1404 : decode cL_law 1404 = .ok (.invokevirtual 100, 3) := by decide +kernel
theorem dL_law_1407 : decode cL_law 1407 = .ok (.iload 5, 2) := by decide +kernel
theorem dL_law_1409 : decode cL_law 1409 = .ok (.if_icmp .eq 5, 3) := by decide +kernel
theorem dL_law_1412 : decode cL_law 1412 = .ok (.iconst 0, 1) := by decide +kernel
theorem dL_law_1413 : decode cL_law 1413 = .ok (.ireturn, 1) := by decide +kernel
theorem dL_law_1414 : decode cL_law 1414 = .ok (.iload 5, 2) := by decide +kernel
theorem dL_law_1416 : decode cL_law 1416 = .ok (.ifCond .ne 14, 3) := by decide +kernel
theorem dL_law_1419 : decode cL_law 1419 = .ok (.aload_n 3, 1) := by decide +kernel
theorem dL_law_1420 : decode cL_law 1420 = .ok (.iconst 0, 1) := by decide +kernel
theorem dL_law_1421 : decode cL_law 1421 = .ok (.laload, 1) := by decide +kernel
theorem dL_law_1422 : decode cL_law 1422 = .ok (.lload 6, 2) := by decide +kernel
theorem dL_law_1424 : decode cL_law 1424 = .ok (.lcmp, 1) := by decide +kernel
theorem dL_law_1425 : decode cL_law 1425 = .ok (.ifCond .eq 5, 3) := by decide +kernel
theorem dL_law_1428 : decode cL_law 1428 = .ok (.iconst 0, 1) := by decide +kernel
theorem dL_law_1429 : decode cL_law 1429 = .ok (.ireturn, 1) := by decide +kernel
theorem dL_law_1430 : decode cL_law 1430 = .ok (.goto 205, 3) := by decide +kernel
theorem dL_law_1433 : decode cL_law 1433 = .ok (.aload_n 1, 1) := by decide +kernel
theorem dL_law_1434 : decode cL_law 1434 = .ok (.aload_n 0, 1) := by decide +kernel
theorem dL_law_1435 : decode cL_law 1435 = .ok (.iload 4, 2) := by decide +kernel
theorem dL_law_1437 : decode cL_law 1437 = .ok (.iconst 1, 1) := by decide +kernel
theorem dL_law_1438 : decode cL_law 1438 = .ok (.iadd, 1) := by decide +kernel
theorem dL_law_1439 : decode cL_law 1439 = .ok (.iaload, 1) := by decide +kernel
theorem dL_law_1440 : decode cL_law 1440 = .ok (.aload_n 3, 1) := by decide +kernel
theorem dL_law_1441 : decode cL_law 1441 = .ok (.invokestatic 167, 3) := by decide +kernel
theorem dL_law_1444 : decode cL_law 1444 = .ok (.istore 5, 2) := by decide +kernel
theorem dL_law_1446 : decode cL_law 1446 = .ok (.aload_n 2, 1) := by decide +kernel
theorem dL_law_1447 : decode cL_law 1447 = .ok (.aload_n 0, 1) := by decide +kernel
theorem dL_law_1448 : decode cL_law 1448 = .ok (.iload 4, 2) := by decide +kernel
theorem dL_law_1450 : decode cL_law 1450 = .ok (.iconst 1, 1) := by decide +kernel
theorem dL_law_1451 : decode cL_law 1451 = .ok (.iadd, 1) := by decide +kernel
theorem dL_law_1452 : decode cL_law 1452 = .ok (.iaload, 1) := by decide +kernel
theorem dL_law_1453 : decode cL_law 1453 = .ok (.invokevirtual 169, 3) := by decide +kernel
theorem dL_law_1456 : decode cL_law 1456 = .ok (.lstore 6, 2) := by decide +kernel
theorem dL_law_1458 : decode cL_law 1458 = .ok (.aload_n 2, 1) := by decide +kernel
theorem dL_law_1459 : decode cL_law 1459 = .ok (.invokevirtual 100, 3) := by decide +kernel
theorem dL_law_1462 : decode cL_law 1462 = .ok (.iload 5, 2) := by decide +kernel
theorem dL_law_1464 : decode cL_law 1464 = .ok (.if_icmp .eq 5, 3) := by decide +kernel
theorem dL_law_1467 : decode cL_law 1467 = .ok (.iconst 0, 1) := by decide +kernel
theorem dL_law_1468 : decode cL_law 1468 = .ok (.ireturn, 1) := by decide +kernel
theorem dL_law_1469 : decode cL_law 1469 = .ok (.iload 5, 2) := by decide +kernel
theorem dL_law_1471 : decode cL_law 1471 = .ok (.ifCond .ne 14, 3) := by decide +kernel
theorem dL_law_1474 : decode cL_law 1474 = .ok (.aload_n 3, 1) := by decide +kernel
theorem dL_law_1475 : decode cL_law 1475 = .ok (.iconst 0, 1) := by decide +kernel
theorem dL_law_1476 : decode cL_law 1476 = .ok (.laload, 1) := by decide +kernel
theorem dL_law_1477 : decode cL_law 1477 = .ok (.lload 6, 2) := by decide +kernel
theorem dL_law_1479 : decode cL_law 1479 = .ok (.lcmp, 1) := by decide +kernel
theorem dL_law_1480 : decode cL_law 1480 = .ok (.ifCond .eq 5, 3) := by decide +kernel
theorem dL_law_1483 : decode cL_law 1483 = .ok (.iconst 0, 1) := by decide +kernel
theorem dL_law_1484 : decode cL_law 1484 = .ok (.ireturn, 1) := by decide +kernel
theorem dL_law_1485 : decode cL_law 1485 = .ok (.goto 150, 3) := by decide +kernel
theorem dL_law_1488 : decode cL_law 1488 = .ok (.aload_n 1, 1) := by decide +kernel
theorem dL_law_1489 : decode cL_law 1489 = .ok (.aload_n 0, 1) := by decide +kernel
theorem dL_law_1490 : decode cL_law 1490 = .ok (.iload 4, 2) := by decide +kernel
theorem dL_law_1492 : decode cL_law 1492 = .ok (.iconst 1, 1) := by decide +kernel
theorem dL_law_1493 : decode cL_law 1493 = .ok (.iadd, 1) := by decide +kernel
theorem dL_law_1494 : decode cL_law 1494 = .ok (.iaload, 1) := by decide +kernel
theorem dL_law_1495 : decode cL_law 1495 = .ok (.aload_n 3, 1) := by decide +kernel
theorem dL_law_1496 : decode cL_law 1496 = .ok (.invokestatic 170, 3) := by decide +kernel
theorem dL_law_1499 : decode cL_law 1499 = .ok (.istore 5, 2) := by decide +kernel
theorem dL_law_1501 : decode cL_law 1501 = .ok (.aload_n 2, 1) := by decide +kernel
theorem dL_law_1502 : decode cL_law 1502 = .ok (.aload_n 0, 1) := by decide +kernel
theorem dL_law_1503 : decode cL_law 1503 = .ok (.iload 4, 2) := by decide +kernel
theorem dL_law_1505 : decode cL_law 1505 = .ok (.iconst 1, 1) := by decide +kernel
theorem dL_law_1506 : decode cL_law 1506 = .ok (.iadd, 1) := by decide +kernel
theorem dL_law_1507 : decode cL_law 1507 = .ok (.iaload, 1) := by decide +kernel
theorem dL_law_1508 : decode cL_law 1508 = .ok (.invokevirtual 172, 3) := by decide +kernel
theorem dL_law_1511 : decode cL_law 1511 = .ok (.lstore 6, 2) := by decide +kernel
theorem dL_law_1513 : decode cL_law 1513 = .ok (.aload_n 2, 1) := by decide +kernel
theorem dL_law_1514 : decode cL_law 1514 = .ok (.invokevirtual 100, 3) := by decide +kernel
theorem dL_law_1517 : decode cL_law 1517 = .ok (.iload 5, 2) := by decide +kernel
theorem dL_law_1519 : decode cL_law 1519 = .ok (.if_icmp .eq 5, 3) := by decide +kernel
theorem dL_law_1522 : decode cL_law 1522 = .ok (.iconst 0, 1) := by decide +kernel
theorem dL_law_1523 : decode cL_law 1523 = .ok (.ireturn, 1) := by decide +kernel
theorem dL_law_1524 : decode cL_law 1524 = .ok (.iload 5, 2) := by decide +kernel
theorem dL_law_1526 : decode cL_law 1526 = .ok (.ifCond .ne 14, 3) := by decide +kernel
theorem dL_law_1529 : decode cL_law 1529 = .ok (.aload_n 3, 1) := by decide +kernel
theorem dL_law_1530 : decode cL_law 1530 = .ok (.iconst 0, 1) := by decide +kernel
theorem dL_law_1531 : decode cL_law 1531 = .ok (.laload, 1) := by decide +kernel
theorem dL_law_1532 : decode cL_law 1532 = .ok (.lload 6, 2) := by decide +kernel
theorem dL_law_1534 : decode cL_law 1534 = .ok (.lcmp, 1) := by decide +kernel
theorem dL_law_1535 : decode cL_law 1535 = .ok (.ifCond .eq 5, 3) := by decide +kernel
theorem dL_law_1538 : decode cL_law 1538 = .ok (.iconst 0, 1) := by decide +kernel
theorem dL_law_1539 : decode cL_law 1539 = .ok (.ireturn, 1) := by decide +kernel
theorem dL_law_1540 : decode cL_law 1540 = .ok (.goto 95, 3) := by decide +kernel
theorem dL_law_1543 : decode cL_law 1543 = .ok (.aload_n 1, 1) := by decide +kernel
theorem dL_law_1544 : decode cL_law 1544 = .ok (.aload_n 0, 1) := by decide +kernel
theorem dL_law_1545 : decode cL_law 1545 = .ok (.iload 4, 2) := by decide +kernel
theorem dL_law_1547 : decode cL_law 1547 = .ok (.iconst 1, 1) := by decide +kernel
theorem dL_law_1548 : decode cL_law 1548 = .ok (.iadd, 1) := by decide +kernel
theorem dL_law_1549 : decode cL_law 1549 = .ok (.iaload, 1) := by decide +kernel
theorem dL_law_1550 : decode cL_law 1550 = .ok (.aload_n 0, 1) := by decide +kernel
theorem dL_law_1551 : decode cL_law 1551 = .ok (.iload 4, 2) := by decide +kernel
theorem dL_law_1553 : decode cL_law 1553 = .ok (.iconst 2, 1) := by decide +kernel
theorem dL_law_1554 : decode cL_law 1554 = .ok (.iadd, 1) := by decide +kernel
theorem dL_law_1555 : decode cL_law 1555 = .ok (.iaload, 1) := by decide +kernel
theorem dL_law_1556 : decode cL_law 1556 = .ok (.aload_n 3, 1) := by decide +kernel
theorem dL_law_1557 : decode cL_law 1557 = .ok (.invokestatic 173, 3) := by decide +kernel
theorem dL_law_1560 : decode cL_law 1560 = .ok (.istore 5, 2) := by decide +kernel
theorem dL_law_1562 : decode cL_law 1562 = .ok (.aload_n 2, 1) := by decide +kernel
theorem dL_law_1563 : decode cL_law 1563 = .ok (.aload_n 0, 1) := by decide +kernel
theorem dL_law_1564 : decode cL_law 1564 = .ok (.iload 4, 2) := by decide +kernel
theorem dL_law_1566 : decode cL_law 1566 = .ok (.iconst 1, 1) := by decide +kernel
theorem dL_law_1567 : decode cL_law 1567 = .ok (.iadd, 1) := by decide +kernel
theorem dL_law_1568 : decode cL_law 1568 = .ok (.iaload, 1) := by decide +kernel
theorem dL_law_1569 : decode cL_law 1569 = .ok (.aload_n 0, 1) := by decide +kernel
theorem dL_law_1570 : decode cL_law 1570 = .ok (.iload 4, 2) := by decide +kernel
theorem dL_law_1572 : decode cL_law 1572 = .ok (.iconst 2, 1) := by decide +kernel
theorem dL_law_1573 : decode cL_law 1573 = .ok (.iadd, 1) := by decide +kernel
theorem dL_law_1574 : decode cL_law 1574 = .ok (.iaload, 1) := by decide +kernel
theorem dL_law_1575 : decode cL_law 1575 = .ok (.invokevirtual 175, 3) := by decide +kernel
theorem dL_law_1578 : decode cL_law 1578 = .ok (.lstore 6, 2) := by decide +kernel
theorem dL_law_1580 : decode cL_law 1580 = .ok (.aload_n 2, 1) := by decide +kernel
theorem dL_law_1581 : decode cL_law 1581 = .ok (.invokevirtual 100, 3) := by decide +kernel
theorem dL_law_1584 : decode cL_law 1584 = .ok (.iload 5, 2) := by decide +kernel
theorem dL_law_1586 : decode cL_law 1586 = .ok (.if_icmp .eq 5, 3) := by decide +kernel
theorem dL_law_1589 : decode cL_law 1589 = .ok (.iconst 0, 1) := by decide +kernel
theorem dL_law_1590 : decode cL_law 1590 = .ok (.ireturn, 1) := by decide +kernel
theorem dL_law_1591 : decode cL_law 1591 = .ok (.iload 5, 2) := by decide +kernel
theorem dL_law_1593 : decode cL_law 1593 = .ok (.ifCond .ne 14, 3) := by decide +kernel
theorem dL_law_1596 : decode cL_law 1596 = .ok (.aload_n 3, 1) := by decide +kernel
theorem dL_law_1597 : decode cL_law 1597 = .ok (.iconst 0, 1) := by decide +kernel
theorem dL_law_1598 : decode cL_law 1598 = .ok (.laload, 1) := by decide +kernel
theorem dL_law_1599 : decode cL_law 1599 = .ok (.lload 6, 2) := by decide +kernel
theorem dL_law_1601 : decode cL_law 1601 = .ok (.lcmp, 1) := by decide +kernel
theorem dL_law_1602 : decode cL_law 1602 = .ok (.ifCond .eq 5, 3) := by decide +kernel
theorem dL_law_1605 : decode cL_law 1605 = .ok (.iconst 0, 1) := by decide +kernel
theorem dL_law_1606 : decode cL_law 1606 = .ok (.ireturn, 1) := by decide +kernel
theorem dL_law_1607 : decode cL_law 1607 = .ok (.goto 28, 3) := by decide +kernel
theorem dL_law_1610 : decode cL_law 1610 = .ok (.aload_n 1, 1) := by decide +kernel
theorem dL_law_1611 : decode cL_law 1611 = .ok (.aload_n 0, 1) := by decide +kernel
theorem dL_law_1612 : decode cL_law 1612 = .ok (.iload 4, 2) := by decide +kernel
theorem dL_law_1614 : decode cL_law 1614 = .ok (.iconst 1, 1) := by decide +kernel
theorem dL_law_1615 : decode cL_law 1615 = .ok (.iadd, 1) := by decide +kernel
theorem dL_law_1616 : decode cL_law 1616 = .ok (.iaload, 1) := by decide +kernel
theorem dL_law_1617 : decode cL_law 1617 = .ok (.invokevirtual 176, 3) := by decide +kernel
theorem dL_law_1620 : decode cL_law 1620 = .ok (.aload_n 2, 1) := by decide +kernel
theorem dL_law_1621 : decode cL_law 1621 = .ok (.aload_n 0, 1) := by decide +kernel
theorem dL_law_1622 : decode cL_law 1622 = .ok (.iload 4, 2) := by decide +kernel
theorem dL_law_1624 : decode cL_law 1624 = .ok (.iconst 1, 1) := by decide +kernel
theorem dL_law_1625 : decode cL_law 1625 = .ok (.iadd, 1) := by decide +kernel
theorem dL_law_1626 : decode cL_law 1626 = .ok (.iaload, 1) := by decide +kernel
theorem dL_law_1627 : decode cL_law 1627 = .ok (.invokevirtual 179, 3) := by decide +kernel
theorem dL_law_1630 : decode cL_law 1630 = .ok (.if_icmp .eq 5, 3) := by decide +kernel
theorem dL_law_1633 : decode cL_law 1633 = .ok (.iconst 0, 1) := by decide +kernel
theorem dL_law_1634 : decode cL_law 1634 = .ok (.ireturn, 1) := by decide +kernel
theorem dL_law_1635 : decode cL_law 1635 = .ok (.iinc 4 6, 3) := by decide +kernel
theorem dL_law_1638 : decode cL_law 1638 = .ok (.goto (-1615), 3) := by decide +kernel
theorem dL_law_1641 : decode cL_law 1641 = .ok (.iconst 1, 1) := by decide +kernel
theorem dL_law_1642 : decode cL_law 1642 = .ok (.ireturn, 1) := by decide +kernel
