/-! MY ROWS: returns, throws, calls -/
def zSt : List Cond := [.laysStatic Bundle.tN "UNASSIGNED_STACK" Bundle.steD, .isRef (.static Bundle.tN "UNASSIGNED_STACK" Bundle.steD), .laysStatic Bundle.tN "SUPPRESSED_SENTINEL" Bundle.listD, .isRef (.static Bundle.tN "SUPPRESSED_SENTINEL" Bundle.listD)]
/-- all that a throw of cls asks of the tables is at hand -/
def zCov (own : String) (ic : Nat) (cls : String) (ix : Nat) (rx : ByteArray) : Prop := (Bundle.fit cls = true ∧ decode rx 0 = .ok (.aload_n 0, 1) ∧ decode rx 1 = .ok (.aload_n 1, 1) ∧ decode rx 2 = .ok (.invokespecial ix, 3) ∧ decode rx 5 = .ok (.return_, 1)) ∧ Cond.initialized cls ∈ zW ∧ Cond.instantiable cls 6 ∈ zW ∧ ∀ w ∈ zAt own ic cls ix rx, (w ∈ zW ∧ w.onTables = true) ∨ w ∈ zL ∨ w ∈ zSt
section ZROWS
variable {p : Program} {l : Launch} {e : Env} {R : Room} {s : State} {m : MethodId} {args : Array Value} {below : List Frame} {meth : Method} {c : Code} {H : Heap} {locs : List Loc} {cells slots : Nat} {Q : State → Prop}
variable {D : va_G} {cl : List vw_C} {A : Nat → Prop} {pc mc ms : Nat} {ls : Array Slot} {st0 rest : List Value} {a : Array Value} {ws wc wr : va_W} {S SX : Type} {cc : ByteArray}
theorem z_start {g : JFrame} (hP : va_P D cl ws s.heap) (hS : va_S A s.heap s.heap []) (k : ∀ (H : Heap) (locs : List Loc), va_P D cl ws H → va_S A s.heap H locs → W p l e R s m args below meth c H locs 0 0 Q g) : W p l e R s m args below meth c s.heap [] 0 0 Q g := k _ _ hP hS
/-- the state from here on as a method's own start -/
theorem z_rebase {T : State} (X : Stand p l e R s m args below meth c T locs cells slots) {R' : Room} (hf : R'.frames ≤ R.frames) (hl : R'.locals ≤ R.locals) (hc : cells + R'.cells ≤ R.cells) (hs : slots + R'.slots ≤ R.slots) :
    Stand p l e R' ({ s with heap := T.heap, slotsUsed := T.slotsUsed } : State) m args below meth c T [] 0 0 := by
  have hh := X.heapSize
  have hu := X.used
  have hb := X.book
  refine ⟨X.admits, X.cas, X.clock, X.frames, ?_, ?_, X.method, X.code, X.here, X.tail, X.warmed, X.limits, X.bytes, ?_⟩
  · have hr := X.room
    simp only [State.hasRoom, Bool.and_eq_true, decide_eq_true_eq] at hr ⊢
    obtain ⟨⟨⟨⟨r0, r1, r2, r3, r4, r5⟩, r6⟩, r7⟩, r8⟩ := hr
    have e1 : ({ s with heap := T.heap, slotsUsed := T.slotsUsed } : State).localsInUse = s.localsInUse := rfl
    have e2 : ({ s with heap := T.heap, slotsUsed := T.slotsUsed } : State).frames = s.frames := rfl
    have e3 : ({ s with heap := T.heap, slotsUsed := T.slotsUsed } : State).me = s.me := rfl
    rw [e1, e2, e3]
    exact ⟨⟨⟨⟨by omega, by omega, by omega, by omega, by omega, r5⟩, by show T.heap.size + _ ≤ _; omega⟩, by show T.slotsUsed + _ ≤ _; omega⟩, hb⟩
  · have h := X.hears
    cases below with
    | nil => exact h
    | cons f fs => cases f <;> exact h
  · refine ⟨X.same.1, Nat.le_refl _, Nat.le_refl _, ?_, ?_, fun b cb hb => ⟨cb, hb, rfl, rfl, fun _ _ => rfl⟩⟩
    · show T.slotsUsed = T.slotsUsed + ((T.heap.toList.drop T.heap.size).map (·.slots.size)).sum
      rw [List.drop_eq_nil_of_le (by simp)]
      simp
    · show ((T.heap.toList.drop T.heap.size).map (·.slots.size)).sum ≤ 0
      rw [List.drop_eq_nil_of_le (by simp)]
      simp
theorem z_throwS {Qc : Array Value → State → Outcome → State → Prop} {px : String → SX → Prop} {wx : SX → va_W} (u : SX) (hx : p.tables.exec = Jvm.exec) (hb : c.code = cc) (hst : l.stackTraces = false) {own cls text : String} {rx : ByteArray} {ik is ic ix : Nat}
    (hown : s.vm.findClass own = some m.cls) (hts : ∀ w ∈ zW, w.before args s = true) (hZ : zE A s) (hcov : zCov own ic cls ix rx) (hk : Cond.classLink own ik cls ∈ zW) (hstr : (own, is, text) ∈ zStr) (hS : va_S A s.heap H locs) (hsize : ls.size = c.maxLocals)
    (d0 : decode cc pc = .ok (.new ik, 3)) (d3 : decode cc (pc + 3) = .ok (.dup, 1)) (d4 : decode cc (pc + 4) = .ok (.ldc is, 2)) (d6 : decode cc (pc + 6) = .ok (.invokespecial ic, 3)) (d9 : decode cc (pc + 9) = .ok (.athrow, 1))
    (hout : ∀ x ∈ c.exceptionTable.toList, covers x (pc + 9) = false) (hRf : 5 < R.frames) (hRl : (rest.map fun v => v.category).sum + 82 ≤ R.locals) (hRc : cells + 1 ≤ R.cells) (hRs : slots + 6 ≤ R.slots) (hlocks : meth.locks = false)
    (hpx : px cls u) (hP : va_P D cl (wx u) H) (hD : va_D A (wx u)) (hc : cells + 1 ≤ mc) (hs : slots + 6 ≤ ms) :
    W p l e R s m args below meth c H locs cells slots (zMQ below Qc (zX D cl px wx A) args s mc ms A) (F0 m pc ls rest) := by
  obtain ⟨⟨hcls, x0, x1, x2, x5⟩, hini, hins, hat⟩ := hcov
  intro T hT X
  have X0 := z_rebase X (R' := { frames := R.frames, cells := 1, slots := 6, locals := R.locals }) (Nat.le_refl _) (Nat.le_refl _) hRc hRs
  have htr : e.platform.stackTraces = false := by rw [X.admits.platform]; exact hst
  generalize hs' : ({ s with heap := T.heap, slotsUsed := T.slotsUsed } : State) = s' at X0
  have hvm : s.vm = s'.vm := by rw [← hs']
  have hheap : s'.heap = T.heap := by rw [← hs']
  have good : ∀ w, w ∈ zW → w.onTables = true → w.before args s' = true := fun w h1 h2 => va_tabs h2 hvm (hts w h1)
  have st1 : zS Bundle.tN "UNASSIGNED_STACK" Bundle.steD A s' s'.heap := by rw [hheap, hT]; exact hZ.1.1.call hS.2.1 (by rw [← hvm]; exact Vm.Alike.refl _) (fun _ h => h)
  have st2 : zS Bundle.tN "SUPPRESSED_SENTINEL" Bundle.listD A s' s'.heap := by rw [hheap, hT]; exact hZ.1.2.call hS.2.1 (by rw [← hvm]; exact Vm.Alike.refl _) (fun _ h => h)
  have all : ∀ w ∈ zAt own ic cls ix rx, w.before args s' = true := by
    intro w hw
    rcases hat w hw with ⟨h1, h2⟩ | h1 | h1
    · exact good w h1 h2
    · exact va_tabs (zKind_tab (List.mem_filter.mp h1).2) hvm (hZ.2.1 w h1)
    · simp only [zSt, List.mem_cons, List.not_mem_nil, or_false] at h1
      rcases h1 with rfl | rfl | rfl | rfl
      · exact st1.words.1
      · exact st1.words.2
      · exact st2.words.1
      · exact st2.words.2
  obtain ⟨sa, hsa⟩ := hZ.2.2.1 _ hstr
  have hsa' : vk_R own is text sa s' := vk_R.same hvm.symm hsa
  have hown' : s'.vm.findClass own = some m.cls := by rw [← hvm]; exact hown
  obtain ⟨vm₁, cX, kX, hfX, hkX, -, -, X₁, k1⟩ := X0.newCold hx (own := own) (C := cls) (index := ik) (n := 6) hown' (good _ hk rfl) (good _ hins rfl) (good _ hini rfl) (g := F0 m pc ls rest) rfl (by rw [hb]; exact d0) (Nat.le_refl _) (Nat.le_refl _)
  generalize hT1 : (T.setVm vm₁).pushCell { cls := cX, slots := kX.instanceTypes.map defaultValue, vm := .none } = T1 at X₁ k1
  have hcellA : T1.heap[T.heap.size]? = some (freshCell cX kX) := by rw [← hT1]; exact State.heap_pushCell_size _ _
  obtain ⟨U, hsteps, hrun, hend, hW, hsame, ce, hce, Kv, Kc⟩ := z_ctor X₁ hx htr (own := own) (cls := cls) (ic := ic) (ix := ix) (rx := rx) hown' hcls x0 x1 x2 x5 all (fun y hy => by cases hy) hfX hkX hcellA (by rw [hheap]; exact Nat.le_refl _) (msg := .ref sa) rfl
    (g := F0 m (pc + 6) ls (.ref sa :: .ref T.heap.size :: .ref T.heap.size :: rest)) rfl hsize rfl rfl (rest := rest) rfl (by rw [hb]; exact d6) (by rw [hb]; exact d9) hout hRf (by
      show 2 * 0 + ((Value.ref T.heap.size :: rest).map fun v => v.category).sum + 81 ≤ R.locals
      rw [List.map_cons, List.sum_cons, show (Value.ref T.heap.size).category = 1 from rfl]
      omega) hlocks
  have hWs : s.WarmedH U.vm := by rw [← hs'] at hW; exact hW
  have h2 : (T.setVm s.vm).sameButNew ({ U with vm := s.vm } : State) [] 1 6 := by
    rw [← hs'] at hsame
    refine ⟨?_, hsame.2⟩
    have e1 := hsame.1
    have e2 := X.same.1
    rw [e2]
    have e3 : ({ s.setFrames (T.setVm s.vm).frames with heap := (T.setVm s.vm).heap, slotsUsed := (T.setVm s.vm).slotsUsed } : State).setFrames U.frames = ({ (s.setFrames (T.setVm s.vm).frames).setFrames U.frames with heap := T.heap, slotsUsed := T.slotsUsed } : State) := rfl
    show _ = ({ ({ s.setFrames (T.setVm s.vm).frames with heap := (T.setVm s.vm).heap, slotsUsed := (T.setVm s.vm).slotsUsed } : State).setFrames U.frames with heap := U.heap, slotsUsed := U.slotsUsed } : State)
    rw [e3, State.setFrames_setFrames]
    exact e1
  have h3 := (X.same.trans h2).mono hc hs
  rw [List.append_nil] at h3
  have hkeep : ∀ q : Nat, q < H.size → U.heap[q]? = H[q]? := by
    intro q hq
    rw [← hs'] at hsame
    cases h9 : T.heap[q]? with
    | none =>
      have h7 : T.heap.size ≤ q := by simpa using h9
      rw [hT] at h7
      exact absurd hq (by omega)
    | some x =>
      have h8 : U.heap[q]? = some x := hsame.old_cell (a := q) h9
      rw [h8, ← h9, hT]
  have hgrow : H.size ≤ U.heap.size := by
    have h9 : s'.heap.size ≤ U.heap.size := hsame.2.1
    rw [hheap, hT] at h9
    exact h9
  have hcl : s.vm.findClass cls = some ce.cls := by rw [hvm, Kc]; exact hfX
  refine ⟨U, ?_, .threw T.heap.size, hrun, hend, Or.inr ⟨_, cls, ce, locs, rfl, ⟨⟨u, hpx, hP.kept (fun k q hq => hkeep q.1 (hP k q hq).lt), hD⟩, Nat.le_trans hS.1 hgrow, fun q h4 h5 => ?_⟩, hce, Kv, hcl, hWs, h3, hS.2.2⟩⟩
  · refine k1 _ ?_
    show Steps p.tables e below (T1.setTop (F0 m (pc + 3) ls (.ref T.heap.size :: rest))) _
    have d3' : decode c.code (pc + 3) = .ok (.dup, 1) := by rw [hb]; exact d3
    jvm_step X₁.here [X₁.here.top, hx, d3', Value.category]
    exact X₁.ldcString hx (own := own) (text := text) (index := is) (a := sa) hown' hsa'.1 hsa'.2 (g := F0 m (pc + 4) ls (.ref T.heap.size :: .ref T.heap.size :: rest)) rfl (by rw [hb]; exact d4) _ hsteps
  · rw [hkeep q (Nat.lt_of_lt_of_le h4 hS.1)]
    exact hS.2.1 q h4 h5
theorem z_throwW {Qc : Array Value → State → Outcome → State → Prop} {px : String → SX → Prop} {wx : SX → va_W} (u : SX) (hx : p.tables.exec = Jvm.exec) (hb : c.code = cc) (hst : l.stackTraces = false) {own cls text : String} {rx : ByteArray} {ik is ic ix : Nat}
    (hown : s.vm.findClass own = some m.cls) (hts : ∀ w ∈ zW, w.before args s = true) (hZ : zE A s) (hcov : zCov own ic cls ix rx) (hk : Cond.classLink own ik cls ∈ zW) (hstr : (own, is, text) ∈ zStr) (hS : va_S A s.heap H locs) (hsize : ls.size = c.maxLocals)
    (d0 : decode cc pc = .ok (.new ik, 3)) (d3 : decode cc (pc + 3) = .ok (.dup, 1)) (d4 : decode cc (pc + 4) = .ok (.ldc_w is, 3)) (d6 : decode cc (pc + 7) = .ok (.invokespecial ic, 3)) (d9 : decode cc (pc + 10) = .ok (.athrow, 1))
    (hout : ∀ x ∈ c.exceptionTable.toList, covers x (pc + 10) = false) (hRf : 5 < R.frames) (hRl : (rest.map fun v => v.category).sum + 82 ≤ R.locals) (hRc : cells + 1 ≤ R.cells) (hRs : slots + 6 ≤ R.slots) (hlocks : meth.locks = false)
    (hpx : px cls u) (hP : va_P D cl (wx u) H) (hD : va_D A (wx u)) (hc : cells + 1 ≤ mc) (hs : slots + 6 ≤ ms) :
    W p l e R s m args below meth c H locs cells slots (zMQ below Qc (zX D cl px wx A) args s mc ms A) (F0 m pc ls rest) := by
  obtain ⟨⟨hcls, x0, x1, x2, x5⟩, hini, hins, hat⟩ := hcov
  intro T hT X
  have X0 := z_rebase X (R' := { frames := R.frames, cells := 1, slots := 6, locals := R.locals }) (Nat.le_refl _) (Nat.le_refl _) hRc hRs
  have htr : e.platform.stackTraces = false := by rw [X.admits.platform]; exact hst
  generalize hs' : ({ s with heap := T.heap, slotsUsed := T.slotsUsed } : State) = s' at X0
  have hvm : s.vm = s'.vm := by rw [← hs']
  have hheap : s'.heap = T.heap := by rw [← hs']
  have good : ∀ w, w ∈ zW → w.onTables = true → w.before args s' = true := fun w h1 h2 => va_tabs h2 hvm (hts w h1)
  have st1 : zS Bundle.tN "UNASSIGNED_STACK" Bundle.steD A s' s'.heap := by rw [hheap, hT]; exact hZ.1.1.call hS.2.1 (by rw [← hvm]; exact Vm.Alike.refl _) (fun _ h => h)
  have st2 : zS Bundle.tN "SUPPRESSED_SENTINEL" Bundle.listD A s' s'.heap := by rw [hheap, hT]; exact hZ.1.2.call hS.2.1 (by rw [← hvm]; exact Vm.Alike.refl _) (fun _ h => h)
  have all : ∀ w ∈ zAt own ic cls ix rx, w.before args s' = true := by
    intro w hw
    rcases hat w hw with ⟨h1, h2⟩ | h1 | h1
    · exact good w h1 h2
    · exact va_tabs (zKind_tab (List.mem_filter.mp h1).2) hvm (hZ.2.1 w h1)
    · simp only [zSt, List.mem_cons, List.not_mem_nil, or_false] at h1
      rcases h1 with rfl | rfl | rfl | rfl
      · exact st1.words.1
      · exact st1.words.2
      · exact st2.words.1
      · exact st2.words.2
  obtain ⟨sa, hsa⟩ := hZ.2.2.1 _ hstr
  have hsa' : vk_R own is text sa s' := vk_R.same hvm.symm hsa
  have hown' : s'.vm.findClass own = some m.cls := by rw [← hvm]; exact hown
  obtain ⟨vm₁, cX, kX, hfX, hkX, -, -, X₁, k1⟩ := X0.newCold hx (own := own) (C := cls) (index := ik) (n := 6) hown' (good _ hk rfl) (good _ hins rfl) (good _ hini rfl) (g := F0 m pc ls rest) rfl (by rw [hb]; exact d0) (Nat.le_refl _) (Nat.le_refl _)
  generalize hT1 : (T.setVm vm₁).pushCell { cls := cX, slots := kX.instanceTypes.map defaultValue, vm := .none } = T1 at X₁ k1
  have hcellA : T1.heap[T.heap.size]? = some (freshCell cX kX) := by rw [← hT1]; exact State.heap_pushCell_size _ _
  obtain ⟨U, hsteps, hrun, hend, hW, hsame, ce, hce, Kv, Kc⟩ := z_ctor X₁ hx htr (own := own) (cls := cls) (ic := ic) (ix := ix) (rx := rx) hown' hcls x0 x1 x2 x5 all (fun y hy => by cases hy) hfX hkX hcellA (by rw [hheap]; exact Nat.le_refl _) (msg := .ref sa) rfl
    (g := F0 m (pc + 7) ls (.ref sa :: .ref T.heap.size :: .ref T.heap.size :: rest)) rfl hsize rfl rfl (rest := rest) rfl (by rw [hb]; exact d6) (by rw [hb]; exact d9) hout hRf (by
      show 2 * 0 + ((Value.ref T.heap.size :: rest).map fun v => v.category).sum + 81 ≤ R.locals
      rw [List.map_cons, List.sum_cons, show (Value.ref T.heap.size).category = 1 from rfl]
      omega) hlocks
  have hWs : s.WarmedH U.vm := by rw [← hs'] at hW; exact hW
  have h2 : (T.setVm s.vm).sameButNew ({ U with vm := s.vm } : State) [] 1 6 := by
    rw [← hs'] at hsame
    refine ⟨?_, hsame.2⟩
    have e1 := hsame.1
    have e2 := X.same.1
    rw [e2]
    have e3 : ({ s.setFrames (T.setVm s.vm).frames with heap := (T.setVm s.vm).heap, slotsUsed := (T.setVm s.vm).slotsUsed } : State).setFrames U.frames = ({ (s.setFrames (T.setVm s.vm).frames).setFrames U.frames with heap := T.heap, slotsUsed := T.slotsUsed } : State) := rfl
    show _ = ({ ({ s.setFrames (T.setVm s.vm).frames with heap := (T.setVm s.vm).heap, slotsUsed := (T.setVm s.vm).slotsUsed } : State).setFrames U.frames with heap := U.heap, slotsUsed := U.slotsUsed } : State)
    rw [e3, State.setFrames_setFrames]
    exact e1
  have h3 := (X.same.trans h2).mono hc hs
  rw [List.append_nil] at h3
  have hkeep : ∀ q : Nat, q < H.size → U.heap[q]? = H[q]? := by
    intro q hq
    rw [← hs'] at hsame
    cases h9 : T.heap[q]? with
    | none =>
      have h7 : T.heap.size ≤ q := by simpa using h9
      rw [hT] at h7
      exact absurd hq (by omega)
    | some x =>
      have h8 : U.heap[q]? = some x := hsame.old_cell (a := q) h9
      rw [h8, ← h9, hT]
  have hgrow : H.size ≤ U.heap.size := by
    have h9 : s'.heap.size ≤ U.heap.size := hsame.2.1
    rw [hheap, hT] at h9
    exact h9
  have hcl : s.vm.findClass cls = some ce.cls := by rw [hvm, Kc]; exact hfX
  refine ⟨U, ?_, .threw T.heap.size, hrun, hend, Or.inr ⟨_, cls, ce, locs, rfl, ⟨⟨u, hpx, hP.kept (fun k q hq => hkeep q.1 (hP k q hq).lt), hD⟩, Nat.le_trans hS.1 hgrow, fun q h4 h5 => ?_⟩, hce, Kv, hcl, hWs, h3, hS.2.2⟩⟩
  · refine k1 _ ?_
    show Steps p.tables e below (T1.setTop (F0 m (pc + 3) ls (.ref T.heap.size :: rest))) _
    have d3' : decode c.code (pc + 3) = .ok (.dup, 1) := by rw [hb]; exact d3
    jvm_step X₁.here [X₁.here.top, hx, d3', Value.category]
    exact X₁.ldcStringW hx (own := own) (text := text) (index := is) (a := sa) hown' hsa'.1 hsa'.2 (g := F0 m (pc + 4) ls (.ref T.heap.size :: .ref T.heap.size :: rest)) rfl (by rw [hb]; exact d4) _ hsteps
  · rw [hkeep q (Nat.lt_of_lt_of_le h4 hS.1)]
    exact hS.2.1 q h4 h5
end ZROWS
