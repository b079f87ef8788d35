/-! MY ROWS: new arrays, whose class is known already; int[3][120]; a start that knows the class of arrays of arrays -/
def zAO (U : State) : Prop := (Cond.arrayOver (.array .int)).before #[] U = true
theorem zAO.moved {u U : State} (hal : u.vm.Alike U.vm) (h : zAO u) : zAO U := over_moved hal h
def zPa (D : va_G) (cl : List vw_C) (tys : List (ClassId × FieldType)) (ws : va_W) (sz : Nat) (av : List Value) : Array Value → State → Prop := fun a U => zPc D cl tys ws sz av a U ∧ zAO U
theorem zPa.blind {D : va_G} {cl : List vw_C} {tys : List (ClassId × FieldType)} {ws : va_W} {sz : Nat} {av : List Value} : FrameBlind (zPa D cl tys ws sz av) := by
  intro a U g mk q
  exact ⟨zPc.blind a U g mk q.1, zAO.moved (u := U) (U := U.calling g mk a) (Vm.Alike.refl U.vm) q.2⟩
theorem zPa.mk {D : va_G} {cl : List vw_C} {tys : List (ClassId × FieldType)} {ws : va_W} {A : Nat → Prop} {s : State} {H : Heap} {locs : List Loc} (hO : zAO s) (hP : va_P D cl ws H) (hK : va_K D cl tys s) (hD : va_D A ws) (hZ : zE A s) (hS : va_S A s.heap H locs) (hF : ∀ q, va_A ws H.size q → A q) (av : List Value) : ∀ U : State, U.heap = H → s.WarmedH U.vm → zPa D cl tys ws H.size av av.toArray U := by
  intro U hU hW
  exact ⟨zPc.mk hP hK hD hZ hS hF av U hU hW, zAO.moved hW.alike hO⟩
theorem z_same {ty : FieldType} {s : State} {cA c0 : ClassId} (ho : ∀ C, ty ≠ .object C) (h1 : va_RA s cA ty) (h2 : va_RA s c0 ty) : cA = c0 := by
  cases ty <;> first | exact absurd rfl (ho _) | exact Option.some.inj (Eq.trans (Eq.symm h1) h2)
section ZCTOR
variable {p : Program} {l : Launch} {e : Env} {R : Room} {s : State} {m : MethodId} {args : Array Value} {below : List Frame} {meth : Method} {c : Code} {H : Heap} {locs : List Loc} {cells slots : Nat} {Q : State → Prop}
variable {D : va_G} {cl : List vw_C} {A : Nat → Prop} {pc : Nat} {ls : Array Slot} {rest : List Value} {ws : va_W} {cc : ByteArray} {H0 : Heap} {tys : List (ClassId × FieldType)}
theorem z_newa (hexec : p.tables.exec = Jvm.exec) (hb : c.code = cc) {atype : ArrayType} (harr : (Cond.arrayClass (newarray.typeOf atype)).before args s = true) {ty : FieldType} (hty : newarray.typeOf atype = ty) (hK : va_K D cl tys s) (hP : va_P D cl ws H) (hD : va_D A ws) (hS : va_S A H0 H locs) (hA : ∀ q, H0.size ≤ q → A q)
    {n : Int32} {N' : Nat} {a0 : vp_A} {c0 : ClassId} (t0 : Nat) (ht : tys[t0]? = some (c0, ty)) (ho : ∀ C, ty ≠ .object C) (ha : ∀ cA : ClassId, vp_cell cA a0 = arrV cA N' (fun _ => defaultValue ty)) (hn : ¬ n < 0) (hN : n.toNatClampNeg = N') (hbytes : N' * componentBytes ty ≤ 536870912) (hcells : cells + 1 ≤ R.cells) (hslots : slots + N' ≤ R.slots) (hdg : decode cc pc = .ok (.newarray atype, 2))
    (kk : ∀ (q : Nat) (H1 : Heap), va_P D cl (ws ++ [(q, .inl (c0, a0))]) H1 → va_D A (ws ++ [(q, .inl (c0, a0))]) → va_S A H0 H1 locs →
      W p l e R s m args below meth c H1 locs (cells + 1) (slots + N') Q (F0 m (pc + 2) ls (.ref q :: rest))) : W p l e R s m args below meth c H locs cells slots Q (F0 m pc ls (.int n :: rest)) := by
  refine va_newa hexec hb harr hty hK hP hD hS hA ha hn hN hbytes hcells hslots hdg (fun q cA H1 hK1 hP1 hD1 hS1 => ?_)
  have e1 : (tys ++ [(cA, ty)])[tys.length]? = some (cA, ty) := by rw [List.getElem?_append_right (Nat.le_refl _), Nat.sub_self]; rfl
  have e := z_same ho (hK1.2 _ _ e1).2 (hK.2 _ _ ht).2
  subst e
  exact kk q H1 hP1 hD1 hS1
theorem z_D1 {h : Nat} {x : va_E} (hD : va_D A ws) (hl : ∀ (k : Nat) (q : Nat × va_E), ws[k]? = some q → q.1 < h) (hA : A h) : va_D A (ws ++ [(h, x)]) ∧ ∀ (k : Nat) (q : Nat × va_E), (ws ++ [(h, x)])[k]? = some q → q.1 < h + 1 := by
  have hx : ∀ (k : Nat) (q : Nat × va_E), (ws ++ [(h, x)])[k]? = some q → (k < ws.length ∧ ws[k]? = some q) ∨ (k = ws.length ∧ q = (h, x)) := fun k q hk => by
    by_cases hlt : k < ws.length
    · rw [List.getElem?_append_left hlt] at hk; exact Or.inl ⟨hlt, hk⟩
    · rw [List.getElem?_append_right (by omega)] at hk
      have h1 : k - ws.length < 1 := (List.getElem?_eq_some_iff.mp hk).1
      rw [show k - ws.length = 0 by omega] at hk
      exact Or.inr ⟨by omega, (Option.some.inj hk).symm⟩
  refine ⟨⟨fun i j a b hi hj hab => ?_, fun k q hk => ?_⟩, fun k q hk => ?_⟩
  · rcases hx i a hi with ⟨h1, h2⟩ | ⟨h1, h2⟩ <;> rcases hx j b hj with ⟨g1, g2⟩ | ⟨g1, g2⟩
    · exact hD.1 i j a b h2 g2 hab
    · have h3 := hl i a h2
      subst g2
      exact absurd hab (Nat.ne_of_lt h3)
    · have h3 := hl j b g2
      subst h2
      exact absurd hab.symm (Nat.ne_of_lt h3)
    · omega
  · rcases hx k q hk with ⟨h1, h2⟩ | ⟨h1, h2⟩
    · exact hD.2 k q h2
    · subst h2; exact hA
  · rcases hx k q hk with ⟨h1, h2⟩ | ⟨h1, h2⟩
    · have := hl k q h2; omega
    · subst h2; exact Nat.lt_succ_self _
theorem z_outer (cA : ClassId) (h : Nat) : zO3 cA h = vp_cell cA (3, .inr (.inr (.inr (.inr (g3 (h + 1) (h + 2) (h + 3)))))) := by
  rw [vp_cell_q]
  show (((({ cls := cA, slots := Array.replicate 3 .null, vm := .none } : Cell).setSlot 0 (.ref (h + 1))).setSlot 1 (.ref (h + 2))).setSlot 2 (.ref (h + 3))) = _
  rw [arrV_new, arrV_store, arrV_store, arrV_store]
  unfold arrV
  congr 1
theorem z_mna {own : String} {index : Nat} {cI cZ cJ cQ : ClassId} (hexec : p.tables.exec = Jvm.exec) (hb : c.code = cc) (hown : s.vm.findClass own = some m.cls) (hclink : (Cond.classLink own index "[[I").before args s = true) (hover : zAO s) (harr : (Cond.arrayClass .int).before args s = true) (hK : va_K D cl (zTy cI cZ cJ cQ) s) (hP : va_P D cl ws H) (hD : va_D A ws) (hS : va_S A H0 H locs) (hA : ∀ q, H0.size ≤ q → A q) (hcells : cells + 4 ≤ R.cells) (hslots : slots + 363 ≤ R.slots) (hdg : decode cc pc = .ok (.multianewarray index 2, 4))
    (kk : ∀ (q r0 r1 r2 : Nat) (H1 : Heap), va_P D cl (ws ++ [(q, .inl (cQ, 3, .inr (.inr (.inr (.inr (g3 r0 r1 r2)))))), (r0, .inl (cI, 120, .inl (fun _ => 0))), (r1, .inl (cI, 120, .inl (fun _ => 0))), (r2, .inl (cI, 120, .inl (fun _ => 0)))]) H1 → va_D A (ws ++ [(q, .inl (cQ, 3, .inr (.inr (.inr (.inr (g3 r0 r1 r2)))))), (r0, .inl (cI, 120, .inl (fun _ => 0))), (r1, .inl (cI, 120, .inl (fun _ => 0))), (r2, .inl (cI, 120, .inl (fun _ => 0)))]) → va_S A H0 H1 locs →
      W p l e R s m args below meth c H1 locs (cells + 4) (slots + 363) Q (F0 m (pc + 4) ls (.ref q :: rest))) : W p l e R s m args below meth c H locs cells slots Q (F0 m pc ls (.int 120 :: .int 3 :: rest)) := by
  intro T hT Xs
  obtain ⟨vm₁, cA, comp, fA, fC, X', step⟩ := z_mnaS Xs hexec hown hclink (over_moved (Vm.Alike.refl s.vm) hover) harr (g := F0 m pc ls (.int 120 :: .int 3 :: rest)) rfl (by rw [hb]; exact hdg) rfl hcells hslots
  have e1 : cA = cQ := z_same (ty := .array .int) (fun C h => by cases h) (show va_RA s cA (.array .int) from fA) (hK.2 3 _ rfl).2
  have e2 : comp = cI := z_same (ty := .int) (fun C h => by cases h) (show va_RA s comp .int from fC) (hK.2 0 _ rfl).2
  subst e1 e2
  have hTh : (T.setVm vm₁).heap = H := hT
  have f1 := zF3_size (T.setVm vm₁) cA comp
  have f2 := zF3_at (T.setVm vm₁) cA comp
  have i0 := zF3_r0 (T.setVm vm₁) cA comp
  have i1 := zF3_r1 (T.setVm vm₁) cA comp
  have i2 := zF3_r2 (T.setVm vm₁) cA comp
  have hold : ∀ x : Nat, x < H.size → (zF3 (T.setVm vm₁) cA comp).heap[x]? = H[x]? := fun x hx => by
    have := zF3_old (T.setVm vm₁) cA comp (x := x) (by rw [hTh]; exact hx)
    rw [hTh] at this
    exact this
  have eI : zI comp = vp_cell comp (120, .inl (fun _ => 0)) := arrV_new comp 120 (.int 0)
  rw [hTh] at f1 f2 i0 i1 i2
  rw [eI] at i0 i1 i2
  rw [z_outer] at f2
  generalize hF : zF3 (T.setVm vm₁) cA comp = F at X' step f1 f2 hold i0 i1 i2
  have hst : T.heap.size = H.size := by rw [hT]
  rw [hst] at step
  have hl : ∀ (k : Nat) (q : Nat × va_E), ws[k]? = some q → q.1 < H.size := fun k q hk => (hP k q hk).lt
  have d0 := z_D1 (h := H.size) (x := .inl (cA, 3, .inr (.inr (.inr (.inr (g3 (H.size + 1) (H.size + 2) (H.size + 3))))))) hD hl (hA _ hS.1)
  have d1 := z_D1 (h := H.size + 1) (x := .inl (comp, 120, .inl (fun _ => 0))) d0.1 d0.2 (hA _ (Nat.le_trans hS.1 (by omega)))
  have d2 := z_D1 (h := H.size + 2) (x := .inl (comp, 120, .inl (fun _ => 0))) d1.1 d1.2 (hA _ (Nat.le_trans hS.1 (by omega)))
  have d3 := z_D1 (h := H.size + 3) (x := .inl (comp, 120, .inl (fun _ => 0))) d2.1 d2.2 (hA _ (Nat.le_trans hS.1 (by omega)))
  rw [List.append_assoc, List.append_assoc, List.append_assoc] at d3
  obtain ⟨t, a1, b1⟩ := kk H.size (H.size + 1) (H.size + 2) (H.size + 3) F.heap ((hP.kept (fun k q hk => hold q.1 (hl k q hk))).app (fun k q hk => by
    have hk4 : k < 4 := (List.getElem?_eq_some_iff.mp hk).1
    rcases (show k = 0 ∨ k = 1 ∨ k = 2 ∨ k = 3 by omega) with rfl | rfl | rfl | rfl <;> cases hk
    · exact f2
    · exact i0
    · exact i1
    · exact i2)) d3.1 ⟨Nat.le_trans hS.1 (by rw [f1]; omega), fun x h1 h2 => (hold x (Nat.lt_of_lt_of_le h1 hS.1)).trans (hS.2.1 x h1 h2), hS.2.2⟩ F rfl X'
  exact ⟨t, step t a1, b1⟩
end ZCTOR
