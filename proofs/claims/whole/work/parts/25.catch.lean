/-! MY ROWS FOR A METHOD THAT CATCHES: the search through its table, cold or warm; a static call of such a method -/
section ZCATCH
variable {p : Program} {l : Launch} {e : Env} {R : Room} {s : State} {m : MethodId} {args : Array Value} {below : List Frame} {meth : Method} {c : Code} {H : Heap} {locs : List Loc} {cells slots : Nat} {Q : State → Prop}
theorem z_hStep {Qh : Handler → Pre} {Eh : CtlPost} {d : Bool} {acts : List Action} {u : State} {f : JFrame} {a : Addr} {x : ExceptionTableEntry} {t : List ExceptionTableEntry} {cT : ClassId} {cell : Cell} (hx : covers x f.pc = true) (h0 : x.catchType ≠ 0)
    (hl : u.vm.ClassLinks e.platform f.method.cls x.catchType cT) (hcell : u.heap[a]? = some cell) (hobj : ∀ k, cell.vm ≠ .statics k)
    (hk : ∃ k, u.vm.classes[cell.cls]? = some k) (hc : ∃ k, u.vm.classes[cT]? = some k) :
    Sem.wp (findHandler.go f a (x :: t)) Qh Eh e d acts u ↔ (if u.vm.assignable cell.cls cT = true then Qh (.found x.handlerPc) d acts (u.setVm (u.vm.noted f.method.cls x.catchType (.cls cT))) else Sem.wp (findHandler.go f a t) Qh Eh e d acts (u.setVm (u.vm.noted f.method.cls x.catchType (.cls cT)))) := by
  simp only [covers] at hx
  obtain ⟨ha, ht⟩ := (resolveClass_links e.toSetting hl).op (op := VmOp.resolveClass f.method.cls x.catchType) rfl
  have hal : u.vm.Alike (u.vm.noted f.method.cls x.catchType (.cls cT)) := (Vm.Alike.refl u.vm).noted _ _ _
  obtain ⟨k1, hk1⟩ := hk
  obtain ⟨k2, hk2⟩ := hc
  obtain ⟨k1', hk1', -⟩ := hal.2.2 _ _ hk1
  obtain ⟨k2', hk2', -⟩ := hal.2.2 _ _ hk2
  have hfit' : (u.vm.noted f.method.cls x.catchType (.cls cT)).assignable cell.cls cT = u.vm.assignable cell.cls cT := hal.assignable _ _
  cases hf : u.vm.assignable cell.cls cT <;> simp [findHandler.go, hx, h0, ha, ht, hcell, hobj, hk1', hk2', hfit', hf, VmOp.dirties, VmOp.acts]
/-- an entry that covers the pc and names a class -/
def zEnt (own : String) (pc : Nat) (args : Array Value) (s : State) (n : String) (x : ExceptionTableEntry) : Prop := covers x pc = true ∧ x.catchType ≠ 0 ∧ (Cond.classLink own x.catchType n).before args s = true
theorem z_findG {own E : String} (hown : s.vm.findClass own = some m.cls) {a : Addr} {cell : Cell} (hv : cell.vm = .none) (hcl : s.vm.findClass E = some cell.cls) {g : JFrame} (hg : g.method = m) {x : ExceptionTableEntry} {rest : List ExceptionTableEntry} (hx : zEnt own g.pc args s E x) (hself : (Cond.castable E E).before args s = true) :
    ∀ (pre : List ExceptionTableEntry), (∀ y ∈ pre, ∃ n, zEnt own g.pc args s n y ∧ va_Nc E n s) → ∀ (T : State) (locs : List Loc) (cells slots : Nat), Stand p l e R s m args below meth c T locs cells slots → T.heap[a]? = some cell →
    ∃ vm', Stand p l e R s m args below meth c (T.setVm vm') locs cells slots ∧ ∀ (Qh : Handler → Pre) (Eh : CtlPost) (d : Bool) (acts : List Action), Sem.wp (findHandler.go g a (pre ++ x :: rest)) Qh Eh e d acts ((T.setTop g).pushFrame (.throwing a)) ↔ Qh (.found x.handlerPc) d acts (((T.setTop g).pushFrame (.throwing a)).setVm vm') := by
  have one : ∀ {n : String} {y : ExceptionTableEntry} {t : List ExceptionTableEntry}, zEnt own g.pc args s n y → ∀ (T : State) (locs : List Loc) (cells slots : Nat), Stand p l e R s m args below meth c T locs cells slots → T.heap[a]? = some cell →
      ∃ cT, s.vm.findClass n = some cT ∧ Stand p l e R s m args below meth c (T.setVm (T.vm.noted m.cls y.catchType (.cls cT))) locs cells slots ∧ ∀ (Qh : Handler → Pre) (Eh : CtlPost) (d : Bool) (acts : List Action), Sem.wp (findHandler.go g a (y :: t)) Qh Eh e d acts ((T.setTop g).pushFrame (.throwing a)) ↔ (if s.vm.assignable cell.cls cT = true then Qh (.found y.handlerPc) d acts (((T.setTop g).pushFrame (.throwing a)).setVm (T.vm.noted m.cls y.catchType (.cls cT))) else Sem.wp (findHandler.go g a t) Qh Eh e d acts (((T.setTop g).pushFrame (.throwing a)).setVm (T.vm.noted m.cls y.catchType (.cls cT)))) := by
    intro n y t hy T locs cells slots X hcell
    obtain ⟨y1, y2, y3⟩ := hy
    have hpl : e.platform.magicAccessors = ({} : Platform).magicAccessors := by rw [X.admits.platform]
    obtain ⟨cT, hcT, hl⟩ := Cond.classLink_spec hown y3 e.platform hpl
    obtain ⟨dk, _, _, kt, hd, _, _, _, _, hkt, _, hopen⟩ := hl.here
    have hl₀ := X.warmed.classLinks hl
    have hW' : s.WarmedH (T.vm.noted m.cls y.catchType (.cls cT)) := X.warmed.noted hd hopen (State.rightAt_cls hl)
    have hal := X.warmed.alike
    obtain ⟨kt', hkt', -⟩ := hal.2.2 _ _ hkt
    obtain ⟨k1, hk1⟩ := Vm.classAt_of_findClass hcl
    obtain ⟨k1', hk1', -⟩ := hal.2.2 _ _ hk1
    refine ⟨cT, hcT, X.noted hW', fun Qh Eh d acts => ?_⟩
    have hvm : ((T.setTop g).pushFrame (.throwing a)).vm = T.vm := by simp [State.pushFrame, State.setFrames, State.setTop, State.modifyTopJava]
    have hhp : ((T.setTop g).pushFrame (.throwing a)).heap = T.heap := by simp [State.pushFrame, State.setFrames, State.setTop, State.modifyTopJava]
    have hz := z_hStep (e := e) (Qh := Qh) (Eh := Eh) (d := d) (acts := acts) (u := (T.setTop g).pushFrame (.throwing a)) (f := g) (a := a) (x := y) (t := t) (cT := cT) (cell := cell) y1 y2 (by rw [hvm, hg]; exact hl₀) (by rw [hhp]; exact hcell) (fun k h => by rw [hv] at h; cases h) ⟨k1', by rw [hvm]; exact hk1'⟩ ⟨kt', by rw [hvm]; exact hkt'⟩
    rw [hvm, hg, hal.assignable] at hz
    exact hz
  intro pre
  induction pre with
  | nil =>
    intro _ T locs cells slots X hcell
    obtain ⟨cT, hcT, X', hw⟩ := one (t := rest) hx T locs cells slots X hcell
    obtain ⟨c3, t3, w1, w2, w3⟩ := Cond.castable_spec hself
    cases hcl.symm.trans w1
    cases hcT.symm.trans w2
    refine ⟨_, X', fun Qh Eh d acts => ?_⟩
    rw [List.nil_append, hw, if_pos w3]
  | cons y ys ih =>
    intro hp T locs cells slots X hcell
    obtain ⟨n, hy, c3, t3, w1, w2, w3⟩ := hp y List.mem_cons_self
    obtain ⟨cT, hcT, X', hw⟩ := one (t := ys ++ x :: rest) hy T locs cells slots X hcell
    cases hcl.symm.trans w1
    cases hcT.symm.trans w2
    obtain ⟨vm', X2, hw2⟩ := ih (fun z hz => hp z (List.mem_cons_of_mem _ hz)) _ locs cells slots X' hcell
    refine ⟨vm', X2, fun Qh Eh d acts => ?_⟩
    rw [List.cons_append, hw, if_neg (by rw [w3]; decide)]
    exact hw2 Qh Eh d acts
/-- the exception is caught by the entry x -/
theorem z_catch {own E : String} {q : Addr} {ce : Cell} {pc : Nat} {ls : Array Slot} {rest : List Value} (hown : s.vm.findClass own = some m.cls) (hcell : H[q]? = some ce) (hv : ce.vm = .none) (hcl : s.vm.findClass E = some ce.cls) (pre : List ExceptionTableEntry) (x : ExceptionTableEntry) (post : List ExceptionTableEntry) (htab : c.exceptionTable.toList = pre ++ x :: post)
    (hx : zEnt own pc args s E x) (hself : (Cond.castable E E).before args s = true) (hpre : ∀ y ∈ pre, ∃ n, zEnt own pc args s n y ∧ va_Nc E n s) (kk : W p l e R s m args below meth c H locs cells slots Q (F0 m x.handlerPc ls [.ref q])) : zU p l e R s m args below meth c H locs cells slots Q (F0 m pc ls rest) q := by
  intro T hT X
  obtain ⟨vm', X', hw⟩ := z_findG (rest := post) hown hv hcl (g := F0 m pc ls rest) rfl hx hself pre hpre T locs cells slots X (by rw [hT]; exact hcell)
  obtain ⟨t, st, hq⟩ := kk (T.setVm vm') hT X'
  refine ⟨t, ?_, hq⟩
  have h : At T (F0 m pc ls rest).method c below := X.here
  obtain ⟨hgo, hwi⟩ := h.throwing q
  obtain ⟨g₀, hg0⟩ := Option.isSome_iff_exists.mp h.top
  obtain ⟨r, hr⟩ := State.topJava?_eq_some.mp hg0
  refine Steps.head hgo hwi ?_
  rw [stepThread_throwing (frames_entered h.top _)]
  have hfind : ∀ (Qh : Handler → Pre) (Eh : CtlPost) (d : Bool) (acts : List Action), Sem.wp (findHandler (F0 m pc ls rest) q) Qh Eh e d acts ((T.setTop (F0 m pc ls rest)).pushFrame (.throwing q)) ↔ Qh (.found x.handlerPc) d acts (((T.setTop (F0 m pc ls rest)).pushFrame (.throwing q)).setVm vm') := by
    intro Qh Eh d acts
    have hvm : ((T.setTop (F0 m pc ls rest)).pushFrame (.throwing q)).vm = T.vm := by simp [State.pushFrame, State.setFrames, State.setTop, State.modifyTopJava]
    rw [W.findHandler_eq (meth := meth) (code := c) (by rw [hvm]; exact X.method') X.code, htab]
    exact hw Qh Eh d acts
  have hstep : (stepThrowing e ((T.setTop (F0 m pc ls rest)).pushFrame (.throwing q)) q (.java (F0 m pc ls rest) :: T.frames.tail)).Is ((((T.setTop (F0 m pc ls rest)).pushFrame (.throwing q)).setVm vm').setFrames (.java { F0 m pc ls rest with pc := x.handlerPc, stack := [.ref q] } :: T.frames.tail)) [] := by
    simp only [stepThrowing, searchFrame, vmDo]
    generalize hr9 : Sem.go _ e false [] _ = res
    obtain ⟨as, rfl, ha⟩ := Sem.eq_ok_of hr9 (a := Handler.found x.handlerPc) (s' := ((T.setTop (F0 m pc ls rest)).pushFrame (.throwing q)).setVm vm') (acts' := []) (by simp [hfind _ _ _ _])
    exact ⟨rfl, ha⟩
  rw [hstep.1]
  have hr' : (T.setVm vm').frames = .java g₀ :: r := hr
  rw [State.setTop_of_frames _ hr'] at st
  have e1 : (((T.setTop (F0 m pc ls rest)).pushFrame (.throwing q)).setVm vm').setFrames (.java { F0 m pc ls rest with pc := x.handlerPc, stack := [.ref q] } :: T.frames.tail) = (T.setVm vm').setFrames (.java (F0 m x.handlerPc ls [.ref q]) :: r) := by
    have h9 : ∀ (u : State) (F G : List Frame), ((u.setFrames F).setVm vm').setFrames G = (u.setVm vm').setFrames G := fun u F G => by
      have h1 : (u.setFrames F).setVm vm' = (u.setVm vm').setFrames F := rfl
      rw [h1, State.setFrames_setFrames]
    rw [hr, List.tail_cons, State.pushFrame, h9, State.setTop_of_frames _ hr, h9]
  rw [e1]
  exact st
/-- a method with a table -/
theorem zMetT {y : MethodName} {ws ws' : List Cond} {rm : Room} {Pc : Array Value → State → Prop} {Qc : Array Value → State → Outcome → State → Prop} {mc ms : Nat} {free : Addr → Prop} {cc : ByteArray} {maxL : Nat} {ret : Option FieldType} {hh : List (Nat × Nat × Nat × Nat)}
    (hy : plainName y.cls = true) (hw : ws = Cond.codeWith y cc maxL ret hh :: ws')
    (body : ∀ p e s m args below meth c s₁, BodyLoose p l y (headSpec ws rm) cc maxL ret e s m args below meth c s₁ → c.maxLocals = maxL → c.exceptionTable.toList = tableOf hh → Pc args s →
      W p l e (headSpec ws rm).room s m args below meth c s.heap [] 0 0 (MQ below Qc args s mc ms free) (entryFrame m args maxL)) : Met l y ws rm Pc Qc mc ms free := by
  refine va_MetW hy hw (fun p e s m args below meth c s₁ B hml hP => ?_)
  refine body p e s m args below meth c s₁ B hml ?_ hP
  obtain ⟨m9, meth', c', q0, q1, q2, -, -, q3, -, -, -⟩ := Cond.codeWith_spec (atoms_spec (ws := ws) B.pre _ (by rw [hw]; exact List.mem_cons_self))
  cases B.named.symm.trans q0
  cases B.method.symm.trans q1
  cases (Stand.of_body B).code.symm.trans q2
  rw [← q3, table_eq]
/-- a static call of a method with a table -/
abbrev zCwT (R : Room) (s : State) (args : Array Value) (own : String) (index : Nat) (y : MethodName) (bytes : ByteArray) (maxL : Nat) (ret : Option FieldType) (hh : List (Nat × Nat × Nat × Nat)) (ws : List Cond) (rm : Room) (mc ms n : Nat) : Prop :=
  (rm.cells = mc ∧ rm.slots = ms ∧ rm.frames + 1 ≤ R.frames ∧ 8 + (maxL + 11) + rm.locals ≤ R.locals) ∧ (∀ w ∈ ws, ∀ (a' : Array Value) (U : State), s.WarmedH U.vm → w.before a' U = true) ∧ Cond.codeWith y bytes maxL ret hh ∈ ws ∧ (Cond.codeWith y bytes maxL ret hh).before args s = true ∧
  (∀ (a' : Array Value) (U : State), s.WarmedH U.vm → (Cond.initialized y.cls).before a' U = true) ∧ (Cond.initialized y.cls).before args s = true ∧ (y.cls ≠ "java/lang/invoke/MethodHandle" ∧ y.cls ≠ "java/lang/invoke/VarHandle") ∧ (∀ sig, parseMethodDescriptor y.desc = some sig → n = sig.parameters.length) ∧ (Cond.methodLink own index y).before args s = true ∧ (Cond.static y).before args s = true
variable {y : MethodName} {bytes cc : ByteArray} {maxL nL mc ms n index : Nat} {ret : Option FieldType} {ws : List Cond} {rm : Room} {Pc : Array Value → State → Prop} {Qc : Array Value → State → Outcome → State → Prop} {free : Addr → Prop} {Ts : List Cond} {own : String} {As rest : List Value} {g : JFrame} {hh : List (Nat × Nat × Nat × Nat)}
theorem z_runT (S : CallFix p m c cc nL s args Ts own) (hM : Met l y ws rm Pc Qc mc ms free) (cw : zCwT R s args own index y bytes maxL ret hh ws rm mc ms n) (hp : PreS s H Pc As)
    (hg : g.method = m) (hn : As.length = n) (hsize : g.locals.size = nL) (hstack : g.stack = As.reverse ++ rest) (hW : 2 * g.monitorRoom + (rest.map fun v => v.category).sum ≤ 8) (hdg : decode cc g.pc = .ok (.invokestatic index, 3)) (hf : cells + mc ≤ R.cells ∧ slots + ms ≤ R.slots) :
    va_Run p l e R s m args below meth c H locs cells slots mc ms g rest (Qc As.toArray) (free) := by
  obtain ⟨⟨hrc, hrs, hfr, hlo⟩, hws, hcin, hcode, hini, hini0, hy, hlen, hl, hstt⟩ := cw
  have hK : Back l R p e below s args y 3 8 (PreOf R mc ms Pc) (PostOf Qc mc ms free) := va_backW hM hp.1 hrc hrs hfr hlo hws hcin hini
  obtain ⟨hx, hb, hml, ho, -⟩ := S
  intro T hT X
  obtain ⟨mk, methM, cM, hnamed, hmethM, -, -, -, -, -, -, hsigM⟩ := Cond.codeWith_spec hcode
  have hstatic : methM.isStatic = true := Cond.static_spec hnamed hmethM hstt
  obtain ⟨kP, hkP, -⟩ := className_of_methodNamed hnamed
  have hinitP : kP.init = .initialized := Cond.initialized_spec (findClass_of_methodNamed hnamed) hkP hini0
  obtain ⟨vm₁, X₁, hstep₁⟩ := X.invokestatic hx ho hl hnamed hmethM hstatic hkP hinitP hy (g := g) hg (argsL := As) (rest := rest) (hn.trans (hlen _ hsigM)) hstack (by rw [hb]; exact hdg)
  obtain ⟨v, ⟨U', l2, c2, s2⟩, X', ⟨g', mk', t, L, e1, e2, hq, h1, hL, h2, h3⟩, hsteps⟩ := hK m meth c ⟨T.setVm vm₁, locs, cells, slots⟩ { g with stack := rest } (.invokestatic index) mk As.toArray X₁ hg (hsize.trans hml.symm) (by rw [hb]; exact hdg) hW (X₁.named hnamed) ⟨hf.1, hf.2, hp.2 (T.setVm vm₁) hT X₁.warmed⟩
  dsimp only [Pt.U, Pt.locs, Pt.cells, Pt.slots] at X' e1 e2 h1 h2 h3 hsteps
  subst h1; subst h2; subst h3
  exact ⟨v, (T.setVm vm₁).calling g' mk' As.toArray, t, U', L, hT, X', hL, e1, e2, hq, fun target h => hstep₁ _ fun acts => by rw [doInvoke_state]; exact hsteps.trans h⟩
end ZCATCH
