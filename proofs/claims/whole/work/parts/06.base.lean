/-! MY BASE: one environment for all methods (zE), one start (zPc), one end (zQi, zQl, zQv, zX), a call as one row -/
/-- a static that holds a reference, in a cell that is not of A -/
def zS (C n d : String) (A : Nat → Prop) (U : State) (H : Heap) : Prop :=
  ∃ (c : ClassId) (k : Class) (i : Nat) (f : Field) (a : Nat) (cell : Cell) (v : Value), U.vm.findClass C = some c ∧ U.fieldFound? C n d = some (c, k, i, f) ∧ f.isStatic = true ∧ k.statics = some a ∧ H[a]? = some cell ∧ cell.vm.isStatics = true ∧ cell.cls = c ∧ f.slot < cell.slots.size ∧ k.staticTypes[f.slot]? = some f.type ∧ cell.slots[f.slot]? = some v ∧ v.isRef = true ∧ ¬ A a
theorem zS.of {args : Array Value} {s : State} {C n d : String} {A : Nat → Prop} (h1 : (Cond.laysStatic C n d).before args s = true) (h2 : (Cond.isRef (.static C n d)).before args s = true) (hA : ∀ a : Nat, a < s.heap.size → ¬ A a) : zS C n d A s s.heap := by
  obtain ⟨c, k, i, f, a, cell, hc, hi, hst, ha, hcell, hs, hcls, hlt, hty⟩ := Cond.laysStatic_spec h1
  cases hv : (Term.static C n d).eval args s none [] s with
  | none => simp [Cond.before, Cond.holds, Cond.value, hv] at h2
  | some w =>
    have hr : w.isRef = true := by
      simp only [Cond.before, Cond.holds, Cond.value, hv] at h2
      cases w <;> simp_all [Value.isRef]
    obtain ⟨-, a', cell', ha', hcell', -, hslot⟩ := Term.static_spec hi hv
    cases ha.symm.trans ha'
    cases hcell.symm.trans hcell'
    exact ⟨c, k, i, f, a, cell, w, hc, hi, hst, ha, hcell, hs, hcls, hlt, hty, hslot, hr, hA a (Array.getElem?_eq_some_iff.mp hcell).1⟩
theorem zS.call {C n d : String} {A B : Nat → Prop} {s U : State} {H0 H : Heap} (h : zS C n d A s H0) (hq : ∀ a : Nat, a < H0.size → ¬ A a → H[a]? = H0[a]?) (hvm : s.vm.Alike U.vm) (hAB : ∀ q, B q → A q) : zS C n d B U H := by
  obtain ⟨c, k, i, f, a, cell, v, hc, hi, hst, ha, hcell, hs, hcls, hlt, hty, hv, hr, hn⟩ := h
  obtain ⟨k', hi', he⟩ := State.fieldFound?_setVm hvm hi
  exact ⟨c, k', i, f, a, cell, v, by rw [hvm.findClass]; exact hc, hi', hst, by rw [he]; exact ha, by rw [hq a (Array.getElem?_eq_some_iff.mp hcell).1 hn]; exact hcell, hs, hcls, hlt, by rw [he]; exact hty, hv, hr, fun z => hn (hAB a z)⟩
theorem zS.words {args : Array Value} {s : State} {C n d : String} {A : Nat → Prop} (h : zS C n d A s s.heap) : (Cond.laysStatic C n d).before args s = true ∧ (Cond.isRef (.static C n d)).before args s = true := by
  obtain ⟨c, k, i, f, a, cell, v, hc, hi, hst, ha, hcell, hs, hcls, hlt, hty, hv, hr, -⟩ := h
  refine ⟨by simp [Cond.before, Cond.holds, Cond.value, hc, hi, hst, ha, hcell, hs, hcls, hlt, hty], ?_⟩
  have he : (Term.static C n d).eval args s none [] s = some v := by simp [Term.eval, State.fieldNamed?, hi, hst, ha, hcell, hs, hv]
  simp only [Cond.before, Cond.holds, Cond.value, he]
  cases v <;> simp_all [Value.isRef]
def zKind (w : Cond) : Bool := match w with
  | .fieldLinkNest _ _ _ _ _ _ => true
  | .methodLinkNest _ _ _ _ => true
  | .declares _ => true
  | .castable _ _ => true
  | _ => false
theorem zKind_tab {w : Cond} (h : zKind w = true) : w.onTables = true := by
  cases w <;> first | rfl | (exact absurd h (by simp [zKind]))
theorem zNw_warm {w : Cond} {s U : State} (hk : zKind w = true) (hW : s.WarmedH U.vm) (h : va_Nw w s) : va_Nw w U := by
  cases w <;> first | exact va_Nw.warmF hW h | exact va_Nw.warmM hW h | exact va_Nw.warmD hW h | exact va_Nw.warmC hW h | (exact absurd hk (by simp [zKind]))
/-- the words that are carried beside a method's own -/
def zL : List Cond := tables_1.filter zKind
theorem zmZ {w : Cond} (i : Nat) (h : tables_1[i]? = some w) (g : zKind w = true) : w ∈ zL := List.mem_filter.mpr ⟨List.mem_of_getElem? h, g⟩
def zStr : List (String × Nat × String) := [("OwnerRows", 282, "there are as many as there may be"), ("OwnerRows", 273, "there is none of this number"), ("OwnerRows", 278, "no day"), ("OwnerRows", 280, "from is above to"), ("OwnerRows", 106, "no share"), ("OwnerRows", 125, "a correction told before its row"), ("OwnerRows", 275, "a place below 0"), ("OwnerRows", 251, "the shares' sum is too long"), ("OwnerRows", 180, "settled before it was claimed"), ("OwnerRows", 187, "the claim is settled"), ("OwnerRows", 262, "no such years"), ("OwnerRows", 219, "a value below 0"), ("OwnerRows", 228, "no such sign")]
def zNo : List (String × String) := [("java/lang/IllegalArgumentException", "java/util/NoSuchElementException"), ("java/lang/IllegalStateException", "java/util/NoSuchElementException"), ("java/lang/IllegalStateException", "java/lang/IllegalArgumentException")]
def zE (A : Nat → Prop) (U : State) : Prop := (zS Bundle.tN "UNASSIGNED_STACK" Bundle.steD A U U.heap ∧ zS Bundle.tN "SUPPRESSED_SENTINEL" Bundle.listD A U U.heap) ∧ (∀ w ∈ zL, va_Nw w U) ∧ (∀ q ∈ zStr, ∃ a, vk_R q.1 q.2.1 q.2.2 a U) ∧ (∀ q ∈ zNo, va_Nc q.1 q.2 U)
theorem zE.nw {A : Nat → Prop} {s : State} {args : Array Value} {w : Cond} (h : zE A s) (hw : w ∈ zL) : w.before args s = true := va_Nw.use (zKind_tab (List.mem_filter.mp hw).2) (h.2.1 w hw)
theorem zE.call {A B : Nat → Prop} {s U : State} {H : Heap} {locs : List Loc} (h : zE A s) (hS : va_S A s.heap H locs) (hU : U.heap = H) (hW : s.WarmedH U.vm) (hAB : ∀ q, B q → A q) : zE B U := by
  obtain ⟨⟨h1, h2⟩, h3, h4, h5⟩ := h
  refine ⟨⟨?_, ?_⟩, fun w hw => zNw_warm (List.mem_filter.mp hw).2 hW (h3 w hw), fun q hq => ?_, fun q hq => va_Nc.moved hW.alike (h5 q hq)⟩
  · rw [hU]; exact h1.call hS.2.1 hW.alike hAB
  · rw [hU]; exact h2.call hS.2.1 hW.alike hAB
  · obtain ⟨a, ha⟩ := h4 q hq
    exact ⟨a, vk_R.warm hW ha⟩
theorem zE.blind {A : Nat → Prop} {U : State} (g : JFrame) (mk : MethodId) (a : Array Value) (h : zE A U) : zE A (U.calling g mk a) := by
  obtain ⟨⟨h1, h2⟩, h3, h4, h5⟩ := h
  refine ⟨⟨h1.call (U := U.calling g mk a) (fun _ _ _ => rfl) (Vm.Alike.refl U.vm) (fun _ h => h), h2.call (U := U.calling g mk a) (fun _ _ _ => rfl) (Vm.Alike.refl U.vm) (fun _ h => h)⟩, fun w hw => va_Nw.same (u := U) (U := U.calling g mk a) (zKind_tab (List.mem_filter.mp hw).2) rfl (h3 w hw), fun q hq => ?_, fun q hq => va_Nc.moved (u := U) (U := U.calling g mk a) (Vm.Alike.refl U.vm) (h5 q hq)⟩
  obtain ⟨b, hb⟩ := h4 q hq
  exact ⟨b, vk_R.same rfl hb⟩
def zPc (D : va_G) (cl : List vw_C) (tys : List (ClassId × FieldType)) (ws : va_W) (sz : Nat) (av : List Value) : Array Value → State → Prop := va_Pc av (fun U => U.heap.size = sz ∧ va_P D cl ws U.heap ∧ va_K D cl tys U ∧ va_D (fun _ => True) ws ∧ zE (va_A ws sz) U)
theorem zPc.blind {D : va_G} {cl : List vw_C} {tys : List (ClassId × FieldType)} {ws : va_W} {sz : Nat} {av : List Value} : FrameBlind (zPc D cl tys ws sz av) := by
  intro a U g mk q
  obtain ⟨q0, q1, qP, qK, qD, qZ⟩ := q
  exact ⟨q0, q1, qP, va_K.moved (u := U) (U := U.calling g mk a) (Vm.Alike.refl U.vm) qK, qD, zE.blind g mk a qZ⟩
theorem zPc.mk {D : va_G} {cl : List vw_C} {tys : List (ClassId × FieldType)} {ws : va_W} {A : Nat → Prop} {s : State} {H : Heap} {locs : List Loc} (hP : va_P D cl ws H) (hK : va_K D cl tys s) (hD : va_D A ws) (hZ : zE A s) (hS : va_S A s.heap H locs) (hF : ∀ q, va_A ws H.size q → A q) (av : List Value) : ∀ U : State, U.heap = H → s.WarmedH U.vm → zPc D cl tys ws H.size av av.toArray U := by
  intro U hU hW
  exact ⟨rfl, by rw [hU], by rw [hU]; exact hP, va_K.moved hW.alike hK, hD.weaken (fun _ _ _ _ => trivial), zE.call hZ hS hU hW hF⟩
def zB {S : Type} (D : va_G) (cl : List vw_C) (w1 : S → va_W) (A : Nat → Prop) : S → State → Prop := fun u t => va_P D cl (w1 u) t.heap ∧ va_D A (w1 u)
abbrev zQi {S : Type} (D : va_G) (cl : List vw_C) (post : Int32 → S → Prop) (w1 : S → va_W) (A : Nat → Prop) : Array Value → State → Outcome → State → Prop := va_Qi post (zB D cl w1 A) A
abbrev zQl {S : Type} (D : va_G) (cl : List vw_C) (post : Int64 → S → Prop) (w1 : S → va_W) (A : Nat → Prop) : Array Value → State → Outcome → State → Prop := va_Ql post (zB D cl w1 A) A
abbrev zQv {S : Type} (D : va_G) (cl : List vw_C) (post : S → Prop) (w1 : S → va_W) (A : Nat → Prop) : Array Value → State → Outcome → State → Prop := va_Qv post (zB D cl w1 A) A
def zX {S : Type} (D : va_G) (cl : List vw_C) (px : String → S → Prop) (w1 : S → va_W) (A : Nat → Prop) : String → State → State → Prop := fun E st t => (∃ u : S, px E u ∧ va_P D cl (w1 u) t.heap ∧ va_D A (w1 u)) ∧ va_F A st t
theorem z_sub {D : va_G} {cl : List vw_C} {ws wc : va_W} {H : Heap} (hP : va_P D cl ws H) (isC : List Nat) (hC : isC.map (fun i => ws[i]?) = wc.map some) : va_P D cl wc H := by
  intro k q hk
  have h1 : (isC.map (fun i => ws[i]?))[k]? = some (some q) := by rw [hC, List.getElem?_map, hk]; rfl
  rw [List.getElem?_map] at h1
  cases hi : isC[k]? with
  | none => rw [hi] at h1; cases h1
  | some i => rw [hi] at h1; exact hP i q (Option.some.inj h1)
/-- no cell of a world is a class's statics -/
theorem z_nst {D : va_G} {cl : List vw_C} {ws : va_W} {H : Heap} (hP : va_P D cl ws H) : ∀ q, va_A ws H.size q → ∀ cell, H[q]? = some cell → cell.vm.isStatics = false := by
  intro q hq cell hc
  rcases hq with ⟨k, e, h⟩ | h
  · have h1 := hP k _ h
    cases e with
    | inl x =>
      have h2 : H[q]? = some (vp_cell x.1 x.2) := h1
      rw [h2] at hc
      cases hc
      obtain ⟨cA, n, y⟩ := x
      rcases y with f | f | f | f | f <;> rfl
    | inr o =>
      obtain ⟨r, -, cell', h2, h3⟩ := h1
      rw [h2] at hc
      cases hc
      simp_all [VmData.isStatics]
  · have := (Array.getElem?_eq_some_iff.mp hc).1
    omega
