/-! MY ROWS: multianewarray of int[3][120] over the model's own words: a new array, one turn of the loop, three turns, the instruction; nothing of Shelf42 -/
def zO (cA : ClassId) : Cell := { cls := cA, slots := Array.replicate 3 .null, vm := .none }
def zI (cI : ClassId) : Cell := { cls := cI, slots := Array.replicate 120 (.int 0), vm := .none }
def zTn (S : State) (h : Nat) (O I : Cell) (i v : Nat) : State := (S.pushCell I).setCell h (O.setSlot i (.ref v))
def zO1 (cA : ClassId) (h : Nat) : Cell := (zO cA).setSlot 0 (.ref (h + 1))
def zO2 (cA : ClassId) (h : Nat) : Cell := (zO1 cA h).setSlot 1 (.ref (h + 2))
def zO3 (cA : ClassId) (h : Nat) : Cell := (zO2 cA h).setSlot 2 (.ref (h + 3))
def zF1 (S : State) (cA cI : ClassId) : State := zTn (S.pushCell (zO cA)) S.heap.size (zO cA) (zI cI) 0 (S.heap.size + 1)
def zF2 (S : State) (cA cI : ClassId) : State := zTn (zF1 S cA cI) S.heap.size (zO1 cA S.heap.size) (zI cI) 1 (S.heap.size + 2)
def zF3 (S : State) (cA cI : ClassId) : State := zTn (zF2 S cA cI) S.heap.size (zO2 cA S.heap.size) (zI cI) 2 (S.heap.size + 3)
theorem zO_size (cA : ClassId) : (zO cA).slots.size = 3 := by unfold zO; exact Array.size_replicate
theorem zO1_size (cA : ClassId) (h : Nat) : (zO1 cA h).slots.size = 3 := by unfold zO1 Cell.setSlot; rw [Array.size_setIfInBounds]; exact zO_size cA
theorem zO2_size (cA : ClassId) (h : Nat) : (zO2 cA h).slots.size = 3 := by unfold zO2 Cell.setSlot; rw [Array.size_setIfInBounds]; exact zO1_size cA h
theorem zI_size (cI : ClassId) : (zI cI).slots.size = 120 := by unfold zI; exact Array.size_replicate
theorem zTn_size (S : State) (h : Nat) (O I : Cell) (i v : Nat) : (zTn S h O I i v).heap.size = S.heap.size + 1 := by
  show ((S.heap.push I).setIfInBounds h _).size = _
  rw [Array.size_setIfInBounds, Array.size_push]
theorem zTn_at {S : State} {h : Nat} {O I : Cell} {i v : Nat} (hO : S.heap[h]? = some O) : (zTn S h O I i v).heap[h]? = some (O.setSlot i (.ref v)) := by
  have hlt : h < S.heap.size := (Array.getElem?_eq_some_iff.mp hO).1
  exact State.heap_setCell_self (c := O) ((State.heap_pushCell_of_lt _ _ hlt).trans hO)
theorem zTn_new {S : State} {h : Nat} {O I : Cell} {i v : Nat} (hlt : h < S.heap.size) : (zTn S h O I i v).heap[S.heap.size]? = some I := by
  unfold zTn
  rw [State.heap_setCell_other (Nat.ne_of_lt hlt)]
  exact State.heap_pushCell_size _ _
theorem zTn_old {S : State} {h : Nat} {O I : Cell} {i v x : Nat} (hx : x < S.heap.size) (hne : h ≠ x) : (zTn S h O I i v).heap[x]? = S.heap[x]? := by
  unfold zTn
  rw [State.heap_setCell_other hne]
  exact State.heap_pushCell_of_lt _ _ hx
theorem zF0_at (S : State) (cA : ClassId) : (S.pushCell (zO cA)).heap[S.heap.size]? = some (zO cA) := State.heap_pushCell_size _ _
theorem zF0_size (S : State) (cA : ClassId) : (S.pushCell (zO cA)).heap.size = S.heap.size + 1 := by
  show (S.heap.push (zO cA)).size = _
  exact Array.size_push ..
theorem zF1_at (S : State) (cA cI : ClassId) : (zF1 S cA cI).heap[S.heap.size]? = some (zO1 cA S.heap.size) := zTn_at (zF0_at S cA)
theorem zF2_at (S : State) (cA cI : ClassId) : (zF2 S cA cI).heap[S.heap.size]? = some (zO2 cA S.heap.size) := zTn_at (zF1_at S cA cI)
theorem zF3_at (S : State) (cA cI : ClassId) : (zF3 S cA cI).heap[S.heap.size]? = some (zO3 cA S.heap.size) := zTn_at (zF2_at S cA cI)
theorem zF1_size (S : State) (cA cI : ClassId) : (zF1 S cA cI).heap.size = S.heap.size + 2 := by unfold zF1; rw [zTn_size, zF0_size]
theorem zF2_size (S : State) (cA cI : ClassId) : (zF2 S cA cI).heap.size = S.heap.size + 3 := by unfold zF2; rw [zTn_size, zF1_size]
theorem zF3_size (S : State) (cA cI : ClassId) : (zF3 S cA cI).heap.size = S.heap.size + 4 := by unfold zF3; rw [zTn_size, zF2_size]
theorem zF3_old (S : State) (cA cI : ClassId) {x : Nat} (hx : x < S.heap.size) : (zF3 S cA cI).heap[x]? = S.heap[x]? := by
  have hne : S.heap.size ≠ x := Nat.ne_of_gt hx
  unfold zF3
  rw [zTn_old (by rw [zF2_size]; omega) hne]
  unfold zF2
  rw [zTn_old (by rw [zF1_size]; omega) hne]
  unfold zF1
  rw [zTn_old (by rw [zF0_size]; omega) hne]
  exact State.heap_pushCell_of_lt _ _ hx
theorem zF3_r0 (S : State) (cA cI : ClassId) : (zF3 S cA cI).heap[S.heap.size + 1]? = some (zI cI) := by
  unfold zF3
  rw [zTn_old (by rw [zF2_size]; omega) (by omega)]
  unfold zF2
  rw [zTn_old (by rw [zF1_size]; omega) (by omega)]
  unfold zF1
  rw [← zF0_size S cA]
  exact zTn_new (by rw [zF0_size]; omega)
theorem zF3_r1 (S : State) (cA cI : ClassId) : (zF3 S cA cI).heap[S.heap.size + 2]? = some (zI cI) := by
  unfold zF3
  rw [zTn_old (by rw [zF2_size]; omega) (by omega)]
  unfold zF2
  have h := zF1_size S cA cI
  rw [← h]
  exact zTn_new (by rw [h]; omega)
theorem zF3_r2 (S : State) (cA cI : ClassId) : (zF3 S cA cI).heap[S.heap.size + 3]? = some (zI cI) := by
  unfold zF3
  have h := zF2_size S cA cI
  rw [← h]
  exact zTn_new (by rw [h]; omega)
section ZMNAW
variable {E : CtlPost} {e : Env} {d : Bool} {acts : List Action} {s : State}
theorem z_wpA {cA comp : ClassId} {k : Class} {ty : FieldType} {n : Nat} {v : Value} {Q : Addr → Pre} (hk : s.vm.classes[cA]? = some k) (hkind : k.kind = .array comp ty) (hfit : fits ty v = true) (hdef : v.isDefault = true)
    (hl : n ≤ e.platform.arrayLengthLimit) (hb : n * componentBytes ty ≤ e.platform.maxHeapBytes) (hc : s.heap.size + 1 ≤ e.platform.maxCells) (hs : s.slotsUsed + n ≤ e.platform.maxSlots)
    (hq : Q s.heap.size d acts (s.pushCell { cls := cA, slots := Array.replicate n v, vm := .none })) : wp (Jvm.newArray cA n v) Q E e d acts s := by
  have h1 : ¬ n > e.platform.arrayLengthLimit := Nat.not_lt.mpr hl
  have h2 : ¬ n * componentBytes ty > e.platform.maxHeapBytes := Nat.not_lt.mpr hb
  have h5 : ¬ n > e.platform.maxSlots := by omega
  have h3 : allocActs (Array.replicate n v) s.heap.size acts = acts := by
    unfold allocActs
    refine if_pos (Array.all_eq_true.mpr (fun i hi => ?_))
    rw [Array.getElem_replicate]
    exact hdef
  have h4 : ∀ i w, (Array.replicate n v)[i]? = some w → s.fitsSlot cA .none i w = true := fun i w hw => by
    rw [Array.getElem?_replicate] at hw
    by_cases hi : i < n
    · rw [if_pos hi] at hw
      cases hw
      simp [State.fitsSlot, State.slotType?, hk, hkind, hfit]
    · rw [if_neg hi] at hw
      cases hw
  unfold Jvm.newArray Jvm.arrayFits
  simp only [wp_bind', Jvm.W.ask, Jvm.W.ite, h1, h2, h5, if_false, wp_pure', Jvm.W.theClass, hk, hkind, Jvm.W.alloc, Option.some.injEq, exists_eq_left', Array.size_replicate, h3]
  exact ⟨hc, hs, h4, hq⟩
theorem z_wp1 {cI cc : ClassId} {k : Class} {Q : Addr → Pre} (hk : s.vm.classes[cI]? = some k) (hkind : k.kind = .array cc .int) (hl : 120 ≤ e.platform.arrayLengthLimit) (hb : 480 ≤ e.platform.maxHeapBytes) (hc : s.heap.size + 1 ≤ e.platform.maxCells) (hs : s.slotsUsed + 120 ≤ e.platform.maxSlots)
    (hq : Q s.heap.size d acts (s.pushCell (zI cI))) : wp (multianewarray.make cI [120]) Q E e d acts s := by
  have n1 : ¬ ((120 : Int32) < 0) := by decide
  have n2 : (120 : Int32).toNatClampNeg = 120 := by decide
  rw [multianewarray.make]
  simp only [wp_bind', Jvm.W.ite, n1, if_false, wp_pure', Jvm.W.theClass, hk, hkind, Option.some.injEq, exists_eq_left', n2]
  exact z_wpA hk hkind rfl rfl hl (Nat.le_trans (Nat.le_of_eq (show 120 * componentBytes .int = 480 from rfl)) hb) hc hs hq
theorem z_wpT {cA cI cc : ClassId} {kA kI : Class} {h i : Nat} {O : Cell} {Q : ForInStep PUnit → Pre} (hO : s.heap[h]? = some O) (hOc : O.cls = cA) (hOv : O.vm = .none) (hi : i < O.slots.size) (hkA : s.vm.classes[cA]? = some kA) (hkindA : kA.kind = .array cI (.array .int)) (hkI : s.vm.classes[cI]? = some kI) (hkindI : kI.kind = .array cc .int)
    (hl : 120 ≤ e.platform.arrayLengthLimit) (hb : 480 ≤ e.platform.maxHeapBytes) (hc : s.heap.size + 1 ≤ e.platform.maxCells) (hs : s.slotsUsed + 120 ≤ e.platform.maxSlots)
    (hq : ∀ d' acts', Q (ForInStep.yield PUnit.unit) d' acts' (zTn s h O (zI cI) i s.heap.size)) : wp (multianewarray.make cI [120]) (fun a => wp (Jvm.writeLoc h i (.ref a) >>= fun _ => Pure.pure (ForInStep.yield PUnit.unit)) Q E e) E e d acts s := by
  have hlt : h < s.heap.size := (Array.getElem?_eq_some_iff.mp hO).1
  have hfr : fits (.array .int) (.ref s.heap.size) = true := rfl
  refine z_wp1 hkI hkindI hl hb hc hs ?_
  show wp (Jvm.writeLoc h i (.ref s.heap.size) >>= fun _ => Pure.pure (ForInStep.yield PUnit.unit)) Q E e d acts (s.pushCell (zI cI))
  rw [wp_bind']
  refine (Jvm.W.writeLoc _ _ _ _).mpr ⟨O, (State.heap_pushCell_of_lt _ _ hlt).trans hO, fun hx => ?_, hi, ?_, hq _ _⟩
  · rw [hOv] at hx
    cases hx
  · rw [hOc, hOv]
    simp [State.fitsSlot, State.slotType?, hkA, hkindA, hfr]
theorem z_wp2 {cA cI cc : ClassId} {kA kI : Class} {Q : Addr → Pre} (hkA : s.vm.classes[cA]? = some kA) (hkindA : kA.kind = .array cI (.array .int)) (hkI : s.vm.classes[cI]? = some kI) (hkindI : kI.kind = .array cc .int)
    (hl : 120 ≤ e.platform.arrayLengthLimit) (hb : 480 ≤ e.platform.maxHeapBytes) (hc : s.heap.size + 4 ≤ e.platform.maxCells) (hs : s.slotsUsed + 363 ≤ e.platform.maxSlots)
    (hq : ∀ d' acts', Q s.heap.size d' acts' (zF3 s cA cI)) : wp (multianewarray.make cA [3, 120]) Q E e d acts s := by
  have n1 : ¬ ((3 : Int32) < 0) := by decide
  have n2 : (3 : Int32).toNatClampNeg = 3 := by decide
  have n3 : ((3 : Int32) == 0) = false := by decide
  have u0 : (s.pushCell (zO cA)).slotsUsed = s.slotsUsed + 3 := by
    show s.slotsUsed + (zO cA).slots.size = _
    rw [zO_size]
  have u1 : (zF1 s cA cI).slotsUsed = s.slotsUsed + 123 := by
    show s.slotsUsed + (zO cA).slots.size + (zI cI).slots.size = _
    rw [zO_size, zI_size]
  have u2 : (zF2 s cA cI).slotsUsed = s.slotsUsed + 243 := by
    show s.slotsUsed + (zO cA).slots.size + (zI cI).slots.size + (zI cI).slots.size = _
    rw [zO_size, zI_size]
  rw [multianewarray.make]
  simp only [wp_bind', Jvm.W.ite, n1, if_false, wp_pure', Jvm.W.theClass, hkA, hkindA, Option.some.injEq, exists_eq_left', n2, n3, Bool.false_eq_true]
  refine z_wpA hkA hkindA rfl rfl (by omega) (Nat.le_trans (Nat.le_of_eq (show 3 * componentBytes (.array .int) = 12 from rfl)) (by omega)) (by omega) (by omega) ?_
  rw [Std.Legacy.Range.forIn_eq_forIn_range', wp_bind']
  show wp (forIn [0, 1, 2] PUnit.unit _) _ E e d acts (s.pushCell (zO cA))
  simp only [List.forIn_cons, List.forIn_nil, wp_bind', wp_pure']
  refine z_wpT (i := 0) (zF0_at s cA) rfl rfl (by rw [zO_size]; omega) hkA hkindA hkI hkindI hl hb (by rw [zF0_size]; omega) (by rw [u0]; omega) (fun d1 acts1 => ?_)
  rw [zF0_size]
  simp only [wp_bind', wp_pure']
  refine z_wpT (i := 1) (s := zF1 s cA cI) (zF1_at s cA cI) rfl rfl (by rw [zO1_size]; omega) hkA hkindA hkI hkindI hl hb (by rw [zF1_size]; omega) (by rw [u1]; omega) (fun d2 acts2 => ?_)
  rw [zF1_size]
  simp only [wp_bind', wp_pure']
  refine z_wpT (i := 2) (s := zF2 s cA cI) (zF2_at s cA cI) rfl rfl (by rw [zO2_size]; omega) hkA hkindA hkI hkindI hl hb (by rw [zF2_size]; omega) (by rw [u2]; omega) (fun d3 acts3 => ?_)
  rw [zF2_size]
  simp only [wp_pure']
  exact hq _ _
end ZMNAW
section ZMNAS
variable {p : Program} {l : Launch} {e : Env} {R : Room} {s : State} {m : MethodId} {args : Array Value} {below : List Frame} {meth : Method} {c : Code} {T : State} {locs : List Loc} {cells slots : Nat}
theorem z_stT {S : State} {h i v : Nat} {O : Cell} {cI : ClassId} (X : Stand p l e R s m args below meth c S locs cells slots) (hO : S.heap[h]? = some O) (hh : s.heap.size ≤ h) : Stand p l e R s m args below meth c (zTn S h O (zI cI) i v) locs (cells + 1) (slots + 120) := by
  have hlt : h < S.heap.size := (Array.getElem?_eq_some_iff.mp hO).1
  have Y := (X.pushed (zI cI)).stored (cell := O) ((State.heap_pushCell_of_lt _ _ hlt).trans hO) i (.ref v)
  rw [zI_size] at Y
  refine Y.dropFresh (fun x hx => ?_)
  rw [List.mem_singleton] at hx
  rw [hx]
  exact hh
theorem z_stF {cA cI : ClassId} (X : Stand p l e R s m args below meth c T locs cells slots) : Stand p l e R s m args below meth c (zF3 T cA cI) locs (cells + 4) (slots + 363) := by
  have Y0 := X.pushed (zO cA)
  rw [zO_size] at Y0
  have hh := X.heapGrown
  have Y1 := z_stT (cI := cI) (i := 0) (v := T.heap.size + 1) Y0 (zF0_at T cA) hh
  have Y2 := z_stT (cI := cI) (i := 1) (v := T.heap.size + 2) Y1 (zF1_at T cA cI) hh
  have Y3 := z_stT (cI := cI) (i := 2) (v := T.heap.size + 3) Y2 (zF2_at T cA cI) hh
  have e1 : slots + 3 + 120 + 120 + 120 = slots + 363 := by omega
  rw [e1] at Y3
  exact Y3
theorem z_mnaS (X : Stand p l e R s m args below meth c T locs cells slots) (hexec : p.tables.exec = Jvm.exec) {own : String} {index : Nat} (hown : s.vm.findClass own = some m.cls) (hclink : (Cond.classLink own index ("[" ++ (FieldType.array .int).toString)).before args s = true) (hover : (Cond.arrayOver (.array .int)).before args s = true) (harr : (Cond.arrayClass .int).before args s = true)
    {g : JFrame} (hg : g.method = m) (hdg : decode c.code g.pc = .ok (.multianewarray index 2, 4)) {rest : List Value} (hstack : g.stack = .int 120 :: .int 3 :: rest) (hcells : cells + 4 ≤ R.cells) (hslots : slots + 363 ≤ R.slots) :
    ∃ (vm₁ : Vm) (cA cI : ClassId), s.vm.findClass ("[" ++ (FieldType.array .int).toString) = some cA ∧ s.vm.findClass (FieldType.array .int).toString = some cI ∧ Stand p l e R s m args below meth c (zF3 (T.setVm vm₁) cA cI) locs (cells + 4) (slots + 363) ∧
      ∀ target, Steps p.tables e below ((zF3 (T.setVm vm₁) cA cI).setTop { g with pc := g.pc + 4, stack := .ref T.heap.size :: rest }) target → Steps p.tables e below (T.setTop g) target := by
  subst hg
  have hpl : e.platform.magicAccessors = ({} : Platform).magicAccessors := by rw [X.admits.platform]
  obtain ⟨cI, cA, kA, hfI, -, hkA, hkindA, hfA⟩ := arrayOverA_spec hover
  obtain ⟨cI', kI, cc, hfI', hkI, hkindI⟩ := Cond.arrayClass_spec harr
  have eI : cI' = cI := Option.some.inj (Eq.trans (Eq.symm hfI') hfI)
  subst eI
  obtain ⟨cA', hfA', hcl⟩ := Cond.classLink_spec hown hclink e.platform hpl
  have eA : cA' = cA := Option.some.inj (Eq.trans (Eq.symm hfA') hfA)
  subst eA
  obtain ⟨hgv, hwarm, -⟩ := State.classEntry (e := e) X.warmed hcl
  generalize T.vm.noted g.method.cls index (.cls cA') = vm₁ at hgv hwarm
  obtain ⟨kA₁, hkA₁, heA⟩ := hwarm.alike.2.2 _ _ hkA
  obtain ⟨kI₁, hkI₁, heI⟩ := hwarm.alike.2.2 _ _ hkI
  have hkindA₁ : kA₁.kind = .array cI' (.array .int) := by rw [heA]; exact hkindA
  have hkindI₁ : kI₁.kind = .array cc .int := by rw [heI]; exact hkindI
  obtain ⟨hr1, hr2⟩ := X.roomAbove hcells hslots
  have Y := z_stF (cA := cA') (cI := cI') (X.noted hwarm)
  have hl : 120 ≤ e.platform.arrayLengthLimit := by rw [Launch.admits_arrayLengthLimit X.admits]; omega
  have hb : 480 ≤ e.platform.maxHeapBytes := by rw [Launch.admits_maxHeapBytes X.admits]; omega
  refine ⟨vm₁, cA', cI', hfA, hfI, Y, fun target hrest => ?_⟩
  jvm_step X.here [hexec, hdg]
  simp only [multianewarray.sem, wp_bind', Jvm.W.resolveClassAt_links (State.method?_setTop g X.here.top) hgv]
  rw [Jvm.W.popN, if_neg (by decide)]
  refine ⟨g, State.topJava?_setTop' (s := T.setVm vm₁) g X.here.top, [.int 3, .int 120], rest, rfl, hstack, ?_⟩
  simp only [List.mapM_cons, List.mapM_nil, wp_bind', wp_pure']
  have eS : ((T.setTop g).setVm vm₁).setTop { g with stack := rest } = (T.setVm vm₁).setTop { g with stack := rest } := by
    show ((T.setVm vm₁).setTop g).setTop _ = _
    rw [State.setTop_setTop]
  rw [eS]
  refine z_wp2 (s := (T.setVm vm₁).setTop { g with stack := rest }) hkA₁ hkindA₁ hkI₁ hkindI₁ hl hb hr1 hr2 (fun d' acts' => ?_)
  have eF : zF3 ((T.setVm vm₁).setTop { g with stack := rest }) cA' cI' = (zF3 (T.setVm vm₁) cA' cI').setTop { g with stack := rest } := rfl
  rw [eF]
  simp only [wp_bind', Jvm.W.mark, Jvm.W.pushRef, State.topJava?_setTop' _ Y.here.top, Option.some.injEq, exists_eq_left', State.setTop_setTop, State.heap_setTop]
  intro acts
  simp [jvm, Y.here.top]
  exact hrest
end ZMNAS
