/-! MY ROWS FOR METHODS THAT RETURN OR THROW (launches without stack traces), over the library's callFree, leaveThrown, ctorThrowS -/
section ZXA
variable {p : Program} {l : Launch} {e : Env} {R : Room} {s : State} {m : MethodId} {args : Array Value} {below : List Frame} {meth : Method} {c : Code} {H : Heap} {locs : List Loc} {cells slots : Nat} {Q : State → Prop}
def zEnd (Qc : Array Value → State → Outcome → State → Prop) (XC : String → State → State → Prop) (mc ms : Nat) (free : Addr → Prop) : Array Value → State → Outcome → State → Prop := fun a st o t =>
  (Qc a st o t ∧ ∃ L, FrameEnd st o t L mc ms ∧ ∀ q ∈ L, free q.base) ∨
  ∃ (q : Addr) (E : String) (ce : Cell) (L : List Loc), o = .threw q ∧ XC E st t ∧ t.heap[q]? = some ce ∧ ce.vm = .none ∧ st.vm.findClass E = some ce.cls ∧ st.WarmedH t.vm ∧ st.sameButNew ({ t with vm := st.vm } : State) L mc ms ∧ ∀ z ∈ L, free z.base
/-- a method's contract: it returns (Qc), or throws an object of the class E (XC) -/
def zMet (l : Launch) (y : MethodName) (ws : List Cond) (rm : Room) (Pc : Array Value → State → Prop) (Qc : Array Value → State → Outcome → State → Prop) (XC : String → State → State → Prop) (mc ms : Nat) (free : Addr → Prop) : Prop :=
  MetFree l y (headSpec ws rm) Pc (fun _ _ _ _ _ => True) (zEnd Qc XC mc ms free)
def zMQ (below : List Frame) (Qc : Array Value → State → Outcome → State → Prop) (XC : String → State → State → Prop) (a : Array Value) (s : State) (mc ms : Nat) (free : Addr → Prop) : State → Prop := fun t =>
  ∃ o, t.status = .running ∧ Ended t below o ∧ zEnd Qc XC mc ms free a s o t
theorem z_ret {Qc : Array Value → State → Outcome → State → Prop} {XC : String → State → State → Prop} {free : Addr → Prop} {mc ms : Nat} {g : JFrame} (k : W p l e R s m args below meth c H locs cells slots (MQ below Qc args s mc ms free) g) : W p l e R s m args below meth c H locs cells slots (zMQ below Qc XC args s mc ms free) g := by
  intro T hT X
  obtain ⟨t, h1, o, h2, h3, h4⟩ := k T hT X
  exact ⟨t, h1, o, h2, h3, Or.inl h4⟩
theorem zMet_ofW {y : MethodName} {ws ws' : List Cond} {rm : Room} {Pc : Array Value → State → Prop} {Qc : Array Value → State → Outcome → State → Prop} {XC : String → State → State → Prop} {mc ms : Nat} {free : Addr → Prop} {cc : ByteArray} {maxL : Nat} {ret : Option FieldType}
    (hy : plainName y.cls = true) (hw : ws = Cond.code y cc maxL ret :: ws')
    (body : ∀ p e s m args below meth c s₁, BodyLoose p l y (headSpec ws rm) cc maxL ret e s m args below meth c s₁ → c.maxLocals = maxL → (∀ x ∈ c.exceptionTable.toList, False) → Pc args s →
      W p l e (headSpec ws rm).room s m args below meth c s.heap [] 0 0 (zMQ below Qc XC args s mc ms free) (entryFrame m args maxL)) : zMet l y ws rm Pc Qc XC mc ms free := by
  refine MetFree.of_bodyS (code := cc) (maxLocals := maxL) (ret := ret) hy ?_ ?_
  · intro args s m h hn
    obtain ⟨meth, c, h1, h2, h3, h4, h5, h6, -, -⟩ := Cond.code_spec hn (atoms_spec (ws := ws) h _ (by rw [hw]; exact List.mem_cons_self))
    exact ⟨meth, c, h1, h2, h3, h4, h5, h6⟩
  · intro p e s m args below meth c s₁ B hml hP _
    have hh0 : s₁.heap = s.heap := by rw [B.state]; rfl
    have hno : ∀ x ∈ c.exceptionTable.toList, False := by
      obtain ⟨meth', c', q1, q2, -, -, -, -, q3, -⟩ := Cond.code_spec B.named (atoms_spec (ws := ws) B.pre _ (by rw [hw]; exact List.mem_cons_self))
      have e1 : meth' = meth := Option.some.inj (q1.symm.trans B.method)
      subst e1
      have e2 : c' = c := Option.some.inj (q2.symm.trans (Stand.of_body B).code)
      subst e2
      have h0 : c'.exceptionTable.size = 0 := by simpa [Array.isEmpty] using q3
      have h1 : c'.exceptionTable.toList = [] := List.eq_nil_of_length_eq_zero (by simpa using h0)
      intro x hx
      rw [h1] at hx
      cases hx
    obtain ⟨t, a1, o, b1, b2, b3⟩ := body p e s m args below meth c s₁ B hml hno hP s₁ hh0 (Stand.of_body B)
    exact ⟨t, o, a1, b1, b2, b3⟩
/-- what a callee left, laid under the caller's frame -/
theorem z_after {U s₂ : State} {Ls L : List Loc} {c0 s0 mc ms : Nat} {g : JFrame} {mk : MethodId} {a : Array Value} (X : Stand p l e R s m args below meth c U Ls c0 s0) (hg : g.method = m) (hW : U.WarmedH s₂.vm)
    (hsm : (U.calling g mk a).sameButNew ({ s₂ with vm := (U.calling g mk a).vm } : State) L mc ms) :
    Stand p l e R s m args below meth c (({ U with heap := s₂.heap, slotsUsed := s₂.slotsUsed } : State).setVm s₂.vm) (Ls ++ L) (c0 + mc) (s0 + ms) ∧ s₂ = (({ U with heap := s₂.heap, slotsUsed := s₂.slotsUsed } : State).setVm s₂.vm).setFrames s₂.frames := by
  have h : At U g.method c below := by rw [hg]; exact X.here
  obtain ⟨g₀, hg0⟩ := Option.isSome_iff_exists.mp h.top
  obtain ⟨r, hr⟩ := State.topJava?_eq_some.mp hg0
  obtain ⟨e2, q2, q3, q4, q5, q6⟩ := id hsm
  have e3 : s₂ = ({ (U.calling g mk a).setFrames s₂.frames with heap := s₂.heap, slotsUsed := s₂.slotsUsed } : State).setVm s₂.vm := by
    have : s₂ = ({ s₂ with vm := (U.calling g mk a).vm } : State).setVm s₂.vm := rfl
    rw [e2] at this
    exact this
  have hsame : U.sameButNew ({ U with heap := s₂.heap, slotsUsed := s₂.slotsUsed } : State) L mc ms := by
    refine ⟨?_, q2, q3, q4, q5, q6⟩
    obtain ⟨t, ht, -⟩ := State.frames_cons hr
    show ({ U with heap := s₂.heap, slotsUsed := s₂.slotsUsed } : State) = { U.setFrames U.frames with heap := s₂.heap, slotsUsed := s₂.slotsUsed }
    rw [State.setFrames_self ht]
  subst hg
  refine ⟨⟨X.admits, X.cas, X.clock, X.frames, X.room, X.hears, X.method, X.code, (X.here.setHeapUsed s₂.heap s₂.slotsUsed).setVm hW.alike, X.tail, State.WarmedH.trans X.warmed hW, X.limits, X.bytes, X.same.trans (hsame.setVm s.vm)⟩, ?_⟩
  refine e3.trans ?_
  rw [State.calling_eq h.top, State.setFrames_setFrames]
  rfl
/-- the callee is entered: it comes back, or what it threw lies over the caller's frame -/
theorem z_enter {y : MethodName} {ws : List Cond} {rm : Room} {Pc : Array Value → State → Prop} {Qc : Array Value → State → Outcome → State → Prop} {XC : String → State → State → Prop} {mc ms : Nat} {free : Addr → Prop} {bytes : ByteArray} {maxL : Nat} {ret : Option FieldType}
    {U : State} {Ls : List Loc} {c0 s0 : Nat} {g : JFrame} {ig : Instr} {len W9 : Nat} {mk : MethodId} {a : Array Value}
    (hM : zMet l y ws rm Pc Qc XC mc ms free) (hrc : rm.cells = mc) (hrs : rm.slots = ms) (hframes : rm.frames + 1 ≤ R.frames) (hlocals : W9 + (maxL + 11) + rm.locals ≤ R.locals)
    (h1 : (headSpec ws rm).pre.before a U = true) (h2 : (Cond.code y bytes maxL ret).before a U = true) (h3 : (Cond.initialized y.cls).before a U = true)
    (X : Stand p l e R s m args below meth c U Ls c0 s0) (hg : g.method = m) (hsize : g.locals.size = c.maxLocals) (hdg : decode c.code g.pc = .ok (ig, len)) (hW9 : 2 * g.monitorRoom + (g.stack.map fun v => v.category).sum ≤ W9)
    (hn : U.methodNamed? y = some mk) (hcells : c0 + mc ≤ R.cells) (hslots : s0 + ms ≤ R.slots) (hPc : Pc a (U.calling g mk a)) :
    (∃ (v : Option Value) (t V : State) (L : List Loc), V.heap = t.heap ∧ V.vm = t.vm ∧ Qc a (U.calling g mk a) (.returned v) t ∧ (∀ q ∈ L, free q.base) ∧ Stand p l e R s m args below meth c V (Ls ++ L) (c0 + mc) (s0 + ms) ∧
      Steps p.tables e below (doInvoke e (U.setTop g) [] mk a).1 (V.setTop { g with pc := g.pc + len, stack := v.toList ++ g.stack })) ∨
    (∃ (q : Addr) (E : String) (ce : Cell) (t V : State) (L : List Loc), V.heap = t.heap ∧ V.vm = t.vm ∧ XC E (U.calling g mk a) t ∧ t.heap[q]? = some ce ∧ ce.vm = .none ∧ U.vm.findClass E = some ce.cls ∧ (∀ z ∈ L, free z.base) ∧ Stand p l e R s m args below meth c V (Ls ++ L) (c0 + mc) (s0 + ms) ∧
      Steps p.tables e below (doInvoke e (U.setTop g) [] mk a).1 ((V.setTop g).pushFrame (.throwing q))) := by
  obtain ⟨methY, cY, hmY, hcY, -, hlY, -, -, -, -⟩ := Cond.code_spec hn h2
  obtain ⟨kY, hkY, -⟩ := className_of_methodNamed hn
  have hinitY : kY.init = .initialized := Cond.initialized_spec (findClass_of_methodNamed hn) hkY h3
  have h : At U g.method c below := by rw [hg]; exact X.here
  have h4 : c0 + (headSpec ws rm).room.cells ≤ R.cells := by rw [show (headSpec ws rm).room.cells = mc from hrc]; exact hcells
  have h5 : s0 + (headSpec ws rm).room.slots ≤ R.slots := by rw [show (headSpec ws rm).room.slots = ms from hrs]; exact hslots
  have hl9 : W9 + (maxL + 11) + (headSpec ws rm).room.locals ≤ R.locals := hlocals
  have happ : (headSpec ws rm).appliesLoose y e.platform (U.calling g mk a) = true :=
    Spec.appliesLoose_calling (g := g) h hdg hn hkY hinitY (X.room_calling (g := g) (R' := (headSpec ws rm).room) hsize hmY hcY hframes (by rw [hlY]; omega) h4 h5) h1
  obtain ⟨mid, hmid⟩ := h.above
  have hfr : (U.setTop g).frames = (.java g :: mid) ++ below := by rw [State.frames_setTop' g h.top, hmid]; rfl
  obtain ⟨o, s₂, hsteps, -, hend, hq⟩ := Steps.callFree hM p X.admits X.cas X.clock (acts := []) hfr happ hPc trivial
  have hq : zEnd Qc XC mc ms free a (U.calling g mk a) o s₂ := hq
  rw [State.frames_setTop' g h.top] at hend
  obtain ⟨g₀, hg0⟩ := Option.isSome_iff_exists.mp h.top
  obtain ⟨r, hr⟩ := State.topJava?_eq_some.mp hg0
  have hr' : (({ U with heap := s₂.heap, slotsUsed := s₂.slotsUsed } : State).setVm s₂.vm).frames = .java g₀ :: r := hr
  rcases hq with ⟨hqc, L, hfe, hL⟩ | ⟨q, E, ce, L, rfl, hx, hce, hcv, hcl, hW₂, hsm, hL⟩
  · obtain ⟨⟨v, rfl⟩, hW₂, hsm⟩ := id hfe
    have hW' : U.WarmedH s₂.vm := hW₂
    obtain ⟨X', e4⟩ := z_after X hg hW' hsm
    obtain ⟨c₂, i₂, len₂, hc₂, hd₂, hf₂⟩ := hend
    have hcc : c₂ = c := by
      have h1 : s₂.code? g.method = U.code? g.method := by rw [State.code?_eq, State.code?_eq, hW'.alike.method?]
      exact Option.some.inj (hc₂.symm.trans (h1.trans h.code))
    subst hcc
    have hlen : len₂ = len := by rw [hdg] at hd₂; cases hd₂; rfl
    subst hlen
    refine Or.inl ⟨v, s₂, (({ U with heap := s₂.heap, slotsUsed := s₂.slotsUsed } : State).setVm s₂.vm), L, rfl, rfl, hqc, hL, X', ?_⟩
    rw [State.setTop_of_frames _ hr']
    rw [hf₂, hr] at e4
    have e5 := e4.symm
    simp only [List.tail_cons] at e5
    rw [e5]
    exact hsteps
  · have hW' : U.WarmedH s₂.vm := hW₂
    obtain ⟨X', e4⟩ := z_after X hg hW' hsm
    have hf₂ : s₂.frames = .throwing q :: .java g :: U.frames.tail := hend
    refine Or.inr ⟨q, E, ce, s₂, (({ U with heap := s₂.heap, slotsUsed := s₂.slotsUsed } : State).setVm s₂.vm), L, rfl, rfl, hx, hce, hcv, hcl, hL, X', ?_⟩
    rw [State.pushFrame, State.frames_setTop _ hr', State.setTop_of_frames _ hr', State.setFrames_setFrames]
    rw [hf₂, hr] at e4
    have e5 := e4.symm
    simp only [List.tail_cons] at e5
    rw [e5]
    exact hsteps
/-- the walk with the exception q lying over the frame g -/
def zU (p : Program) (l : Launch) (e : Env) (R : Room) (s : State) (m : MethodId) (args : Array Value) (below : List Frame) (meth : Method) (c : Code) (H : Heap) (locs : List Loc) (cells slots : Nat) (Q : State → Prop) (g : JFrame) (q : Addr) : Prop :=
  ∀ T : State, T.heap = H → Stand p l e R s m args below meth c T locs cells slots → ∃ t, Steps p.tables e below ((T.setTop g).pushFrame (.throwing q)) t ∧ Q t
section GO
variable {y : MethodName} {ws Ts : List Cond} {rm : Room} {Pc : Array Value → State → Prop} {Qc : Array Value → State → Outcome → State → Prop} {XC : String → State → State → Prop} {mc ms n nL index maxL : Nat} {free : Addr → Prop} {bytes cc : ByteArray} {ret : Option FieldType} {own C : String} {b : Addr} {As rest : List Value} {g : JFrame}
theorem z_goS (S : CallFix p m c cc nL s args Ts own) (hM : zMet l y ws rm Pc Qc XC mc ms free) (cw : CallB R s args own index y bytes maxL ret ws rm mc ms n ∧ (Cond.static y).before args s = true) (hp : PreS s H Pc As)
    (hg : g.method = m) (hn : As.length = n) (hsize : g.locals.size = nL) (hstack : g.stack = As.reverse ++ rest) (hW : 2 * g.monitorRoom + (rest.map fun v => v.category).sum ≤ 8) (hdg : decode cc g.pc = .ok (.invokestatic index, 3)) (hf : cells + mc ≤ R.cells ∧ slots + ms ≤ R.slots)
    (kk : ∀ (v : Option Value) (st t : State) (L : List Loc), st.heap = H → s.vm.Alike t.vm → Qc As.toArray st (.returned v) t → (∀ q ∈ L, free q.base) → W p l e R s m args below meth c t.heap (locs ++ L) (cells + mc) (slots + ms) Q { g with pc := g.pc + 3, stack := v.toList ++ rest })
    (kx : ∀ (q : Addr) (E : String) (ce : Cell) (st t : State) (L : List Loc), st.heap = H → s.vm.Alike t.vm → XC E st t → t.heap[q]? = some ce → ce.vm = .none → s.vm.findClass E = some ce.cls → (∀ z ∈ L, free z.base) → zU p l e R s m args below meth c t.heap (locs ++ L) (cells + mc) (slots + ms) Q { g with stack := rest } q) :
    W p l e R s m args below meth c H locs cells slots Q g := by
  obtain ⟨⟨hrc, hrs, hfr, hlo, hws, -, hcode, hini, hy, hlen, hl⟩, hstt⟩ := cw
  obtain ⟨hx, hb, hml, ho, -⟩ := S
  intro T hT X
  obtain ⟨mk, hnamed⟩ := Cond.code_named hcode
  obtain ⟨methM, cM, hmethM, -, -, -, -, -, -, hsigM⟩ := Cond.code_spec hnamed hcode
  have hstatic : methM.isStatic = true := Cond.static_spec hnamed hmethM hstt
  obtain ⟨kP, hkP, -⟩ := className_of_methodNamed hnamed
  have hinitP : kP.init = .initialized := Cond.initialized_spec (findClass_of_methodNamed hnamed) hkP hini
  obtain ⟨vm₁, X₁, hstep₁⟩ := X.invokestatic hx ho hl hnamed hmethM hstatic hkP hinitP hy (g := g) hg (argsL := As) (rest := rest) (hn.trans (hlen _ hsigM)) hstack (by rw [hb]; exact hdg)
  have w1 := fun (w : Cond) (h : goodWord w = true) (h9 : w.before args s = true) => word_at (a' := As.toArray) (U := T.setVm vm₁) X₁.warmed (good_of_word h) h9
  rcases z_enter (g := { g with stack := rest }) (ig := .invokestatic index) (len := 3) (W9 := 8) hM hrc hrs hfr hlo (atoms_intro fun w hw => hws w hw _ _ X₁.warmed) (w1 _ (by first | rfl | simp [goodWord, Cond.onTables, Cond.keeps, Cond.steady]) hcode) (w1 _ (by first | rfl | simp [goodWord, Cond.onTables, Cond.keeps, Cond.steady]) hini)
    X₁ hg (hsize.trans hml.symm) (by rw [hb]; exact hdg) hW (X₁.named hnamed) hf.1 hf.2 (hp.1 _ _ _ _ (hp.2 _ hT X₁.warmed)) with ⟨v, t, V, L, e1, e2, hq, hL, X', st⟩ | ⟨q, E, ce, t, V, L, e1, e2, hq, hce, hcv, hcl, hL, X', st⟩
  · obtain ⟨t2, a1, b1⟩ := kk v _ t L (by exact hT) (by rw [← e2]; exact X'.warmed.alike) hq hL V e1 X'
    exact ⟨t2, hstep₁ _ fun acts => by rw [doInvoke_state]; exact st.trans a1, b1⟩
  · have hcl' : s.vm.findClass E = some ce.cls := by
      rw [X₁.warmed.alike.findClass] at hcl
      exact hcl
    obtain ⟨t2, a1, b1⟩ := kx q E ce _ t L (by exact hT) (by rw [← e2]; exact X'.warmed.alike) hq hce hcv hcl' hL V e1 X'
    exact ⟨t2, hstep₁ _ fun acts => by rw [doInvoke_state]; exact st.trans a1, b1⟩
theorem z_goV (S : CallFix p m c cc nL s args Ts own) (hM : zMet l y ws rm Pc Qc XC mc ms free) (cw : CallW R s args own C index y bytes maxL ret ws rm mc ms n) (hp : PreV s H C b Pc As)
    (hg : g.method = m) (hn : As.length = n) (hsize : g.locals.size = nL) (hstack : g.stack = As.reverse ++ .ref b :: rest) (hW : 2 * g.monitorRoom + (rest.map fun v => v.category).sum ≤ 8) (hdg : decode cc g.pc = .ok (.invokevirtual index, 3)) (hf : cells + mc ≤ R.cells ∧ slots + ms ≤ R.slots)
    (kk : ∀ (v : Option Value) (st t : State) (L : List Loc), st.heap = H → s.vm.Alike t.vm → Qc (Value.ref b :: As).toArray st (.returned v) t → (∀ q ∈ L, free q.base) → W p l e R s m args below meth c t.heap (locs ++ L) (cells + mc) (slots + ms) Q { g with pc := g.pc + 3, stack := v.toList ++ rest })
    (kx : ∀ (q : Addr) (E : String) (ce : Cell) (st t : State) (L : List Loc), st.heap = H → s.vm.Alike t.vm → XC E st t → t.heap[q]? = some ce → ce.vm = .none → s.vm.findClass E = some ce.cls → (∀ z ∈ L, free z.base) → zU p l e R s m args below meth c t.heap (locs ++ L) (cells + mc) (slots + ms) Q { g with stack := rest } q) :
    W p l e R s m args below meth c H locs cells slots Q g := by
  obtain ⟨⟨hrc, hrs, hfr, hlo, hws, -, hcode, hini, hy, hlen, hl⟩, hin, hse⟩ := cw
  obtain ⟨hx, hb, hml, ho, -⟩ := S
  obtain ⟨hbl, ⟨cellB, hcB, hoB, hclB⟩, hPc⟩ := hp
  intro T hT X
  obtain ⟨mk, methM, hnamed, hmethM, hstM, habM⟩ := Cond.instanceMethod_spec hin
  obtain ⟨methM', cM, hmethM', -, -, -, -, -, -, hsigM⟩ := Cond.code_spec hnamed hcode
  cases hmethM.symm.trans hmethM'
  obtain ⟨c2, r2, m2, q1, q2, q3, q4, kP, hkP, hkPi⟩ := Cond.selects_spec hse
  cases hclB.symm.trans q1
  cases (State.methodFound?_of_named hnamed hy).symm.trans q2
  cases hnamed.symm.trans q3
  have hselP : selectMethod e.platform s.vm cellB.cls mk = .method mk := by rw [Launch.admits_selectMethod X.admits]; exact q4
  obtain ⟨vm₁, X₁, hstep₁⟩ := X.invokevirtual hx ho hl hnamed hmethM hstM hkP hkPi hy (a := b) (cell := cellB) (by rw [hT]; exact hcB)
    (fun z h => by rw [h] at hoB; cases hoB) hselP hmethM habM hkP hkPi (g := g) hg (argsL := As) (rest := rest) (hn.trans (hlen _ hsigM)) hstack (by rw [hb]; exact hdg)
  have w1 := fun (w : Cond) (h : goodWord w = true) (h9 : w.before args s = true) => word_at (a' := (Value.ref b :: As).toArray) (U := T.setVm vm₁) X₁.warmed (good_of_word h) h9
  rcases z_enter (g := { g with stack := rest }) (ig := .invokevirtual index) (len := 3) (W9 := 8) hM hrc hrs hfr hlo (atoms_intro fun w hw => hws w hw _ _ X₁.warmed) (w1 _ (by first | rfl | simp [goodWord, Cond.onTables, Cond.keeps, Cond.steady]) hcode) (w1 _ (by first | rfl | simp [goodWord, Cond.onTables, Cond.keeps, Cond.steady]) hini)
    X₁ hg (hsize.trans hml.symm) (by rw [hb]; exact hdg) hW (X₁.named hnamed) hf.1 hf.2 (hbl _ _ _ _ (hPc _ hT X₁.warmed)) with ⟨v, t, V, L, e1, e2, hq, hL, X', st⟩ | ⟨q, E, ce, t, V, L, e1, e2, hq, hce, hcv, hcl, hL, X', st⟩
  · obtain ⟨t2, a1, b1⟩ := kk v _ t L (by exact hT) (by rw [← e2]; exact X'.warmed.alike) hq hL V e1 X'
    exact ⟨t2, hstep₁ _ fun acts => by rw [doInvoke_state]; exact st.trans a1, b1⟩
  · have hcl' : s.vm.findClass E = some ce.cls := by
      rw [X₁.warmed.alike.findClass] at hcl
      exact hcl
    obtain ⟨t2, a1, b1⟩ := kx q E ce _ t L (by exact hT) (by rw [← e2]; exact X'.warmed.alike) hq hce hcv hcl' hL V e1 X'
    exact ⟨t2, hstep₁ _ fun acts => by rw [doInvoke_state]; exact st.trans a1, b1⟩
end GO
/-- the exception leaves the method too -/
theorem z_leave {Qc : Array Value → State → Outcome → State → Prop} {XC : String → State → State → Prop} {free : Addr → Prop} {mc ms pc : Nat} {ls : Array Slot} {rest : List Value} {E : String} {ce : Cell} {q : Addr} (hout : ∀ x ∈ c.exceptionTable.toList, covers x pc = false) (hlocks : meth.locks = false) (hcell : H[q]? = some ce) (hv : ce.vm = .none) (hcl : s.vm.findClass E = some ce.cls)
    (hx : ∀ t : State, t.heap = H → XC E s t) (hf : ∀ z ∈ locs, free z.base) (hc : cells ≤ mc) (hs : slots ≤ ms) : zU p l e R s m args below meth c H locs cells slots (zMQ below Qc XC args s mc ms free) (F0 m pc ls rest) q := by
  intro T hT X
  obtain ⟨h1, h2, h3, h4, h5⟩ := (stand_widen X hc hs).leaveThrown q (g := F0 m pc ls rest) rfl rfl rfl hout hlocks
  have hT2 : (T.setFrames (.throwing q :: below)).heap = H := hT
  exact ⟨_, h1, .threw q, h2, h3, Or.inr ⟨q, E, ce, locs, rfl, hx _ hT2, by rw [hT2]; exact hcell, hv, hcl, h4, h5, hf⟩⟩
end ZXA
