theorem z_inC {i : Int32} {n : Nat} (h : decide (¬ (i < 0 ∨ n ≤ i.toNatClampNeg)) = true) : vp_in i n := by unfold vp_in; exact of_decide_eq_true h
noncomputable def bI (P : Prop) : Int32 := @ite _ P (Classical.propDecidable P) 1 0
theorem bI_t {P : Prop} (h : P) : bI P = 1 := by unfold bI; exact if_pos h
theorem bI_f {P : Prop} (h : ¬ P) : bI P = 0 := by unfold bI; exact if_neg h
theorem bI_01 (P : Prop) : bI P = 0 ∨ bI P = 1 := by
  by_cases h : P
  · exact Or.inr (bI_t h)
  · exact Or.inl (bI_f h)
/-- the outer array of a grid of three rows -/
def g3 (a b c : Nat) : Nat → Option Nat := fun i => if i = 0 then some a else if i = 1 then some b else if i = 2 then some c else none
/-- an index that a guard has let through -/
theorem z_inG {x : Int32} {n N : Nat} (h : gEx x (nI n)) (hn : n ≤ N) (hN : N < 2 ^ 31) : vp_in x N := by
  obtain ⟨h1, h2⟩ := h
  obtain ⟨j, hj, rfl⟩ := nI_of h1
  have h3 : j < n := (nI_ltI hj (by omega)).mp h2
  exact vp_in_nI (by omega) hN
/-- a loop at whose head the stack is empty: fu turns are left -/
theorem z_loopN {p : Program} {l : Launch} {e : Env} {R : Room} {s : State} {m : MethodId} {args : Array Value} {below : List Frame} {meth : Method} {c : Code} {H : Heap} {locs : List Loc} {cells slots : Nat} {Q : State → Prop} {σ : Type} {pc : Nat} {ls : Array Slot} (I : Nat → σ → Heap → List Loc → Array Slot → Prop)
    (h0 : ∀ (x : σ) (H : Heap) (locs : List Loc) (ls : Array Slot), I 0 x H locs ls → W p l e R s m args below meth c H locs cells slots Q (F0 m pc ls []))
    (hs : ∀ (fu : Nat) (x : σ) (H : Heap) (locs : List Loc) (ls : Array Slot), (∀ (x : σ) (H : Heap) (locs : List Loc) (ls : Array Slot), I fu x H locs ls → W p l e R s m args below meth c H locs cells slots Q (F0 m pc ls [])) → I (fu + 1) x H locs ls → W p l e R s m args below meth c H locs cells slots Q (F0 m pc ls []))
    (fu : Nat) (x : σ) (hI : I fu x H locs ls) : W p l e R s m args below meth c H locs cells slots Q (F0 m pc ls []) := by
  induction fu generalizing x H locs ls with
  | zero => exact h0 x H locs ls hI
  | succ fu ih => exact hs fu x H locs ls (fun x H locs ls h => ih x h) hI
def tchC (f1 f2 f3 : Nat → Int32) (p0 p1 p2 : Int32) (j : Nat) : Prop := (¬ p2 < f2 j ∧ ¬ f3 j < p1) ∧ (f1 j = -1 ∨ f1 j = p0)
def hldC (f1 f2 f3 : Nat → Int32) (p0 p1 : Int32) (j : Nat) : Prop := (f3 j = -1 ∨ ¬ f3 j ≤ p1) ∧ f1 j = p0 ∧ ¬ p1 < f2 j
def alwC (f1 f2 f3 f4 : Nat → Int32) (p0 p1 p2 : Int32) (j : Nat) : Prop := (f1 j = p0 ∧ f2 j = p1) ∧ ¬ p2 < f3 j ∧ ¬ f4 j < p2
/-- some place below k -/
abbrev anyB (k : Nat) (C : Nat → Prop) : Prop := ∃ j, j < k ∧ C j
def latF (f1 f2 f3 f4 : Nat → Int32) (p0 p1 p2 : Int32) : Nat → Int32 × Int32
  | 0 => (-1, -1)
  | j + 1 => if (f1 j = p0 ∧ f3 j = p2) ∧ ¬ p1 < f2 j ∧ ¬ f2 j < (latF f1 f2 f3 f4 p0 p1 p2 j).2 then (f4 j, f2 j) else latF f1 f2 f3 f4 p0 p1 p2 j
def hldF (f1 f2 f3 : Nat → Int32) (p0 p1 p2 : Int32) : Int32 := if f2 p0.toNatClampNeg = -1 then -1 else if f3 (f2 p0.toNatClampNeg).toNatClampNeg = -1 then f2 p0.toNatClampNeg else if f3 (f2 p0.toNatClampNeg).toNatClampNeg + f1 p1.toNatClampNeg * 365 < p2 then -1 else f2 p0.toNatClampNeg
set_option maxHeartbeats 4000000 in
set_option maxRecDepth 100000 in
theorem k_Cl_add (l : Launch) (hst : l.stackTraces = false) (dC : Nat → ClassId) (dI : Nat → Nat → Nat) (cI cZ cJ cQ : ClassId) (sz : Nat) (a0 : Nat) (a1 : Nat) (a2 : Nat) (a3 : Nat) (k : Nat) (f1 : Nat → Int32) (f2 : Nat → Int32) (f3 : Nat → Int32) (p0 : Int32) (p1 : Int32) (hk : k < 30) : Met l zy_Cl_add zws_Cl_add ({ frames := 0, cells := 0, slots := 0, locals := 0 }) (zPc (dC, dI) zCl (zTy cI cZ cJ cQ) [(a0, .inr (1, [.ref a1, .ref a2, .ref a3, .int (nI k)])), (a1, .inl (cI, 30, .inl f1)), (a2, .inl (cI, 30, .inl f2)), (a3, .inl (cI, 30, .inl f3))] sz [.ref a0, .int p0, .int p1]) (zQi (dC, dI) zCl (fun (r : Int32) (u : Unit) => (r = nI k)) (fun (u : Unit) => [(a0, .inr (1, [.ref a1, .ref a2, .ref a3, .int (nI (k + 1))])), (a1, .inl (cI, 30, .inl (upd f1 k p0))), (a2, .inl (cI, 30, .inl (upd f2 k p1))), (a3, .inl (cI, 30, .inl (upd f3 k (-1))))]) (va_A [(a0, .inr (1, [.ref a1, .ref a2, .ref a3, .int (nI k)])), (a1, .inl (cI, 30, .inl f1)), (a2, .inl (cI, 30, .inl f2)), (a3, .inl (cI, 30, .inl f3))] sz)) 0 0 (va_A [(a0, .inr (1, [.ref a1, .ref a2, .ref a3, .int (nI k)])), (a1, .inl (cI, 30, .inl f1)), (a2, .inl (cI, 30, .inl f2)), (a3, .inl (cI, 30, .inl f3))] sz) := by
  refine Met.ofW (cc := zc_Cl_add) (maxL := 3) (ret := (some .int)) (by decide) rfl ?_
  intro p e s m args below meth c s₁ B hml hv
  obtain ⟨rfl, hsz, hP, hK, hD0, hZ⟩ := hv
  have hx := B.exec
  have hb := B.bytes
  have hr := B.returns
  have hts := fun (w : Cond) (h : w ∈ zW) => atoms_spec (ws := zws_Cl_add) B.pre w (List.mem_cons_of_mem _ h)
  have hown : s.vm.findClass zR_Cl = some m.cls := findClass_of_methodNamed B.named
  have hlocks := B.notSynchronized
  subst hsz
  have hD := hD0.self (sz := s.heap.size)
  generalize hAe : va_A [(a0, .inr (1, [.ref a1, .ref a2, .ref a3, .int (nI k)])), (a1, .inl (cI, 30, .inl f1)), (a2, .inl (cI, 30, .inl f2)), (a3, .inl (cI, 30, .inl f3))] s.heap.size = A at hD hZ ⊢
  have hA : ∀ q : Nat, s.heap.size ≤ q → A q := fun q h => by rw [← hAe]; exact Or.inr h
  have hS : va_S A s.heap s.heap [] := va_S.rf
  have hl := lv_entry ([.ref a0, .int p0, .int p1]) (n := 3) (Nat.le_of_ble_eq_true rfl)
  rw [lg_entry_eq]
  generalize (lg_sl ([.ref a0, .int p0, .int p1]) ++ List.replicate (3 - (lg_sl ([.ref a0, .int p0, .int p1])).length) Slot.unset).toArray = ls at hl ⊢
  have hl : lv_has ls 3 [(0, .ref a0), (1, .int p0), (2, .int p1)] := hl
  refine z_start hP hS (fun H locs hP hS => ?_)
  refine lv_aload_n hx hb zd_Cl_add_0 rfl (lv_at hl 0 rfl) ?_
  refine va_get (D := (dC, dI)) (ci := 1) (v := .ref a1) (C := zR_Cl) (T := zT_Cl) (N := 4) hx hb hts zin_Cl hown hK hP 0 rfl rfl 0 (by decide) (hts _ zw_185) (fun _ h9 => h9) rfl zd_Cl_add_1 ?_
  refine lv_aload_n hx hb zd_Cl_add_4 rfl (lv_at hl 0 rfl) ?_
  refine va_get (D := (dC, dI)) (ci := 1) (v := .int (nI k)) (C := zR_Cl) (T := zT_Cl) (N := 4) hx hb hts zin_Cl hown hK hP 0 rfl rfl 3 (by decide) (hts _ zw_190) (fun _ h9 => h9) rfl zd_Cl_add_5 ?_
  refine lv_iload_n hx hb zd_Cl_add_8 rfl (lv_at hl 1 rfl) ?_
  refine va_iast hx hb hK hP hD hS 1 0 rfl rfl (vp_in_nI (show k < 30 from by omega) (by decide)) zd_Cl_add_9 (fun H locs hP hD hS => ?_)
  rw [show (nI k).toNatClampNeg = k from nI_clamp (by omega)] at hP hD
  have hP : va_P (dC, dI) zCl [(a0, .inr (1, [.ref a1, .ref a2, .ref a3, .int (nI k)])), (a1, .inl (cI, 30, .inl (upd f1 k p0))), (a2, .inl (cI, 30, .inl f2)), (a3, .inl (cI, 30, .inl f3))] H := hP
  have hD : va_D A [(a0, .inr (1, [.ref a1, .ref a2, .ref a3, .int (nI k)])), (a1, .inl (cI, 30, .inl (upd f1 k p0))), (a2, .inl (cI, 30, .inl f2)), (a3, .inl (cI, 30, .inl f3))] := hD
  refine lv_aload_n hx hb zd_Cl_add_10 rfl (lv_at hl 0 rfl) ?_
  refine va_get (D := (dC, dI)) (ci := 1) (v := .ref a2) (C := zR_Cl) (T := zT_Cl) (N := 4) hx hb hts zin_Cl hown hK hP 0 rfl rfl 1 (by decide) (hts _ zw_186) (fun _ h9 => h9) rfl zd_Cl_add_11 ?_
  refine lv_aload_n hx hb zd_Cl_add_14 rfl (lv_at hl 0 rfl) ?_
  refine va_get (D := (dC, dI)) (ci := 1) (v := .int (nI k)) (C := zR_Cl) (T := zT_Cl) (N := 4) hx hb hts zin_Cl hown hK hP 0 rfl rfl 3 (by decide) (hts _ zw_190) (fun _ h9 => h9) rfl zd_Cl_add_15 ?_
  refine lv_iload_n hx hb zd_Cl_add_18 rfl (lv_at hl 2 rfl) ?_
  refine va_iast hx hb hK hP hD hS 2 0 rfl rfl (vp_in_nI (show k < 30 from by omega) (by decide)) zd_Cl_add_19 (fun H locs hP hD hS => ?_)
  rw [show (nI k).toNatClampNeg = k from nI_clamp (by omega)] at hP hD
  have hP : va_P (dC, dI) zCl [(a0, .inr (1, [.ref a1, .ref a2, .ref a3, .int (nI k)])), (a1, .inl (cI, 30, .inl (upd f1 k p0))), (a2, .inl (cI, 30, .inl (upd f2 k p1))), (a3, .inl (cI, 30, .inl f3))] H := hP
  have hD : va_D A [(a0, .inr (1, [.ref a1, .ref a2, .ref a3, .int (nI k)])), (a1, .inl (cI, 30, .inl (upd f1 k p0))), (a2, .inl (cI, 30, .inl (upd f2 k p1))), (a3, .inl (cI, 30, .inl f3))] := hD
  refine lv_aload_n hx hb zd_Cl_add_20 rfl (lv_at hl 0 rfl) ?_
  refine va_get (D := (dC, dI)) (ci := 1) (v := .ref a3) (C := zR_Cl) (T := zT_Cl) (N := 4) hx hb hts zin_Cl hown hK hP 0 rfl rfl 2 (by decide) (hts _ zw_188) (fun _ h9 => h9) rfl zd_Cl_add_21 ?_
  refine lv_aload_n hx hb zd_Cl_add_24 rfl (lv_at hl 0 rfl) ?_
  refine va_get (D := (dC, dI)) (ci := 1) (v := .int (nI k)) (C := zR_Cl) (T := zT_Cl) (N := 4) hx hb hts zin_Cl hown hK hP 0 rfl rfl 3 (by decide) (hts _ zw_190) (fun _ h9 => h9) rfl zd_Cl_add_25 ?_
  refine lv_iconst (v := -1) hx hb zd_Cl_add_28 (by decide) ?_
  refine va_iast hx hb hK hP hD hS 3 0 rfl rfl (vp_in_nI (show k < 30 from by omega) (by decide)) zd_Cl_add_29 (fun H locs hP hD hS => ?_)
  rw [show (nI k).toNatClampNeg = k from nI_clamp (by omega)] at hP hD
  have hP : va_P (dC, dI) zCl [(a0, .inr (1, [.ref a1, .ref a2, .ref a3, .int (nI k)])), (a1, .inl (cI, 30, .inl (upd f1 k p0))), (a2, .inl (cI, 30, .inl (upd f2 k p1))), (a3, .inl (cI, 30, .inl (upd f3 k (-1))))] H := hP
  have hD : va_D A [(a0, .inr (1, [.ref a1, .ref a2, .ref a3, .int (nI k)])), (a1, .inl (cI, 30, .inl (upd f1 k p0))), (a2, .inl (cI, 30, .inl (upd f2 k p1))), (a3, .inl (cI, 30, .inl (upd f3 k (-1))))] := hD
  refine lv_aload_n hx hb zd_Cl_add_30 rfl (lv_at hl 0 rfl) ?_
  refine lv_dup hx hb zd_Cl_add_31 rfl ?_
  refine va_get (D := (dC, dI)) (ci := 1) (v := .int (nI k)) (C := zR_Cl) (T := zT_Cl) (N := 4) hx hb hts zin_Cl hown hK hP 0 rfl rfl 3 (by decide) (hts _ zw_190) (fun _ h9 => h9) rfl zd_Cl_add_32 ?_
  refine lv_iconst (v := 1) hx hb zd_Cl_add_35 (by decide) ?_
  refine lv_iadd hx hb zd_Cl_add_36 ?_
  rw [nI_1 k]
  refine va_put (D := (dC, dI)) (ci := 1) (v := .int (nI (k + 1))) (ty := .int) (C := zR_Cl) (T := zT_Cl) (N := 4) hx hb hts zin_Cl zt_Cl zt_Cl_ok zn_Cl hown hK hP hD hS 0 rfl rfl 3 (by decide) (hts _ zw_190) (fun _ h9 => h9) rfl (by decide +kernel) rfl rfl (Nat.le_of_ble_eq_true rfl) zd_Cl_add_37 (fun H locs hP hD hS => ?_)
  have hP : va_P (dC, dI) zCl [(a0, .inr (1, [.ref a1, .ref a2, .ref a3, .int (nI (k + 1))])), (a1, .inl (cI, 30, .inl (upd f1 k p0))), (a2, .inl (cI, 30, .inl (upd f2 k p1))), (a3, .inl (cI, 30, .inl (upd f3 k (-1))))] H := hP
  have hD : va_D A [(a0, .inr (1, [.ref a1, .ref a2, .ref a3, .int (nI (k + 1))])), (a1, .inl (cI, 30, .inl (upd f1 k p0))), (a2, .inl (cI, 30, .inl (upd f2 k p1))), (a3, .inl (cI, 30, .inl (upd f3 k (-1))))] := hD
  refine lv_aload_n hx hb zd_Cl_add_40 rfl (lv_at hl 0 rfl) ?_
  refine va_get (D := (dC, dI)) (ci := 1) (v := .int (nI (k + 1))) (C := zR_Cl) (T := zT_Cl) (N := 4) hx hb hts zin_Cl hown hK hP 0 rfl rfl 3 (by decide) (hts _ zw_190) (fun _ h9 => h9) rfl zd_Cl_add_41 ?_
  refine lv_iconst (v := 1) hx hb zd_Cl_add_44 (by decide) ?_
  refine lv_isub hx hb zd_Cl_add_45 ?_
  rw [nI_pred k]
  exact z_iret (S := Unit) (w1 := fun (u : Unit) => [(a0, .inr (1, [.ref a1, .ref a2, .ref a3, .int (nI (k + 1))])), (a1, .inl (cI, 30, .inl (upd f1 k p0))), (a2, .inl (cI, 30, .inl (upd f2 k p1))), (a3, .inl (cI, 30, .inl (upd f3 k (-1))))]) () hx hb hr hlocks rfl hP hD hS (Nat.le_of_ble_eq_true rfl) (Nat.le_of_ble_eq_true rfl) zd_Cl_add_46
set_option maxHeartbeats 4000000 in
set_option maxRecDepth 100000 in
theorem k_Co_add (l : Launch) (hst : l.stackTraces = false) (dC : Nat → ClassId) (dI : Nat → Nat → Nat) (cI cZ cJ cQ : ClassId) (sz : Nat) (a0 : Nat) (a1 : Nat) (a2 : Nat) (a3 : Nat) (a4 : Nat) (k : Nat) (f1 : Nat → Int32) (f2 : Nat → Int32) (f3 : Nat → Int32) (f4 : Nat → Int32) (p0 : Int32) (p1 : Int32) (p2 : Int32) (p3 : Int32) (hk : k < 200) : Met l zy_Co_add zws_Co_add ({ frames := 0, cells := 0, slots := 0, locals := 0 }) (zPc (dC, dI) zCl (zTy cI cZ cJ cQ) [(a0, .inr (2, [.ref a1, .ref a2, .ref a3, .ref a4, .int (nI k)])), (a1, .inl (cI, 200, .inl f1)), (a2, .inl (cI, 200, .inl f2)), (a3, .inl (cI, 200, .inl f3)), (a4, .inl (cI, 200, .inl f4))] sz [.ref a0, .int p0, .int p1, .int p2, .int p3]) (zQv (dC, dI) zCl (fun (u : Unit) => True) (fun (u : Unit) => [(a0, .inr (2, [.ref a1, .ref a2, .ref a3, .ref a4, .int (nI (k + 1))])), (a1, .inl (cI, 200, .inl (upd f1 k p0))), (a2, .inl (cI, 200, .inl (upd f2 k p1))), (a3, .inl (cI, 200, .inl (upd f3 k p2))), (a4, .inl (cI, 200, .inl (upd f4 k p3)))]) (va_A [(a0, .inr (2, [.ref a1, .ref a2, .ref a3, .ref a4, .int (nI k)])), (a1, .inl (cI, 200, .inl f1)), (a2, .inl (cI, 200, .inl f2)), (a3, .inl (cI, 200, .inl f3)), (a4, .inl (cI, 200, .inl f4))] sz)) 0 0 (va_A [(a0, .inr (2, [.ref a1, .ref a2, .ref a3, .ref a4, .int (nI k)])), (a1, .inl (cI, 200, .inl f1)), (a2, .inl (cI, 200, .inl f2)), (a3, .inl (cI, 200, .inl f3)), (a4, .inl (cI, 200, .inl f4))] sz) := by
  refine Met.ofW (cc := zc_Co_add) (maxL := 5) (ret := none) (by decide) rfl ?_
  intro p e s m args below meth c s₁ B hml hv
  obtain ⟨rfl, hsz, hP, hK, hD0, hZ⟩ := hv
  have hx := B.exec
  have hb := B.bytes
  have hr := B.returns
  have hts := fun (w : Cond) (h : w ∈ zW) => atoms_spec (ws := zws_Co_add) B.pre w (List.mem_cons_of_mem _ h)
  have hown : s.vm.findClass zR_Co = some m.cls := findClass_of_methodNamed B.named
  have hlocks := B.notSynchronized
  subst hsz
  have hD := hD0.self (sz := s.heap.size)
  generalize hAe : va_A [(a0, .inr (2, [.ref a1, .ref a2, .ref a3, .ref a4, .int (nI k)])), (a1, .inl (cI, 200, .inl f1)), (a2, .inl (cI, 200, .inl f2)), (a3, .inl (cI, 200, .inl f3)), (a4, .inl (cI, 200, .inl f4))] s.heap.size = A at hD hZ ⊢
  have hA : ∀ q : Nat, s.heap.size ≤ q → A q := fun q h => by rw [← hAe]; exact Or.inr h
  have hS : va_S A s.heap s.heap [] := va_S.rf
  have hl := lv_entry ([.ref a0, .int p0, .int p1, .int p2, .int p3]) (n := 5) (Nat.le_of_ble_eq_true rfl)
  rw [lg_entry_eq]
  generalize (lg_sl ([.ref a0, .int p0, .int p1, .int p2, .int p3]) ++ List.replicate (5 - (lg_sl ([.ref a0, .int p0, .int p1, .int p2, .int p3])).length) Slot.unset).toArray = ls at hl ⊢
  have hl : lv_has ls 5 [(0, .ref a0), (1, .int p0), (2, .int p1), (3, .int p2), (4, .int p3)] := hl
  refine z_start hP hS (fun H locs hP hS => ?_)
  refine lv_aload_n hx hb zd_Co_add_0 rfl (lv_at hl 0 rfl) ?_
  refine va_get (D := (dC, dI)) (ci := 2) (v := .ref a1) (C := zR_Co) (T := zT_Co) (N := 5) hx hb hts zin_Co hown hK hP 0 rfl rfl 0 (by decide) (hts _ zw_81) (fun _ h9 => h9) rfl zd_Co_add_1 ?_
  refine lv_aload_n hx hb zd_Co_add_4 rfl (lv_at hl 0 rfl) ?_
  refine va_get (D := (dC, dI)) (ci := 2) (v := .int (nI k)) (C := zR_Co) (T := zT_Co) (N := 5) hx hb hts zin_Co hown hK hP 0 rfl rfl 4 (by decide) (hts _ zw_89) (fun _ h9 => h9) rfl zd_Co_add_5 ?_
  refine lv_iload_n hx hb zd_Co_add_8 rfl (lv_at hl 1 rfl) ?_
  refine va_iast hx hb hK hP hD hS 1 0 rfl rfl (vp_in_nI (show k < 200 from by omega) (by decide)) zd_Co_add_9 (fun H locs hP hD hS => ?_)
  rw [show (nI k).toNatClampNeg = k from nI_clamp (by omega)] at hP hD
  have hP : va_P (dC, dI) zCl [(a0, .inr (2, [.ref a1, .ref a2, .ref a3, .ref a4, .int (nI k)])), (a1, .inl (cI, 200, .inl (upd f1 k p0))), (a2, .inl (cI, 200, .inl f2)), (a3, .inl (cI, 200, .inl f3)), (a4, .inl (cI, 200, .inl f4))] H := hP
  have hD : va_D A [(a0, .inr (2, [.ref a1, .ref a2, .ref a3, .ref a4, .int (nI k)])), (a1, .inl (cI, 200, .inl (upd f1 k p0))), (a2, .inl (cI, 200, .inl f2)), (a3, .inl (cI, 200, .inl f3)), (a4, .inl (cI, 200, .inl f4))] := hD
  refine lv_aload_n hx hb zd_Co_add_10 rfl (lv_at hl 0 rfl) ?_
  refine va_get (D := (dC, dI)) (ci := 2) (v := .ref a2) (C := zR_Co) (T := zT_Co) (N := 5) hx hb hts zin_Co hown hK hP 0 rfl rfl 1 (by decide) (hts _ zw_83) (fun _ h9 => h9) rfl zd_Co_add_11 ?_
  refine lv_aload_n hx hb zd_Co_add_14 rfl (lv_at hl 0 rfl) ?_
  refine va_get (D := (dC, dI)) (ci := 2) (v := .int (nI k)) (C := zR_Co) (T := zT_Co) (N := 5) hx hb hts zin_Co hown hK hP 0 rfl rfl 4 (by decide) (hts _ zw_89) (fun _ h9 => h9) rfl zd_Co_add_15 ?_
  refine lv_iload_n hx hb zd_Co_add_18 rfl (lv_at hl 2 rfl) ?_
  refine va_iast hx hb hK hP hD hS 2 0 rfl rfl (vp_in_nI (show k < 200 from by omega) (by decide)) zd_Co_add_19 (fun H locs hP hD hS => ?_)
  rw [show (nI k).toNatClampNeg = k from nI_clamp (by omega)] at hP hD
  have hP : va_P (dC, dI) zCl [(a0, .inr (2, [.ref a1, .ref a2, .ref a3, .ref a4, .int (nI k)])), (a1, .inl (cI, 200, .inl (upd f1 k p0))), (a2, .inl (cI, 200, .inl (upd f2 k p1))), (a3, .inl (cI, 200, .inl f3)), (a4, .inl (cI, 200, .inl f4))] H := hP
  have hD : va_D A [(a0, .inr (2, [.ref a1, .ref a2, .ref a3, .ref a4, .int (nI k)])), (a1, .inl (cI, 200, .inl (upd f1 k p0))), (a2, .inl (cI, 200, .inl (upd f2 k p1))), (a3, .inl (cI, 200, .inl f3)), (a4, .inl (cI, 200, .inl f4))] := hD
  refine lv_aload_n hx hb zd_Co_add_20 rfl (lv_at hl 0 rfl) ?_
  refine va_get (D := (dC, dI)) (ci := 2) (v := .ref a3) (C := zR_Co) (T := zT_Co) (N := 5) hx hb hts zin_Co hown hK hP 0 rfl rfl 2 (by decide) (hts _ zw_85) (fun _ h9 => h9) rfl zd_Co_add_21 ?_
  refine lv_aload_n hx hb zd_Co_add_24 rfl (lv_at hl 0 rfl) ?_
  refine va_get (D := (dC, dI)) (ci := 2) (v := .int (nI k)) (C := zR_Co) (T := zT_Co) (N := 5) hx hb hts zin_Co hown hK hP 0 rfl rfl 4 (by decide) (hts _ zw_89) (fun _ h9 => h9) rfl zd_Co_add_25 ?_
  refine lv_iload_n hx hb zd_Co_add_28 rfl (lv_at hl 3 rfl) ?_
  refine va_iast hx hb hK hP hD hS 3 0 rfl rfl (vp_in_nI (show k < 200 from by omega) (by decide)) zd_Co_add_29 (fun H locs hP hD hS => ?_)
  rw [show (nI k).toNatClampNeg = k from nI_clamp (by omega)] at hP hD
  have hP : va_P (dC, dI) zCl [(a0, .inr (2, [.ref a1, .ref a2, .ref a3, .ref a4, .int (nI k)])), (a1, .inl (cI, 200, .inl (upd f1 k p0))), (a2, .inl (cI, 200, .inl (upd f2 k p1))), (a3, .inl (cI, 200, .inl (upd f3 k p2))), (a4, .inl (cI, 200, .inl f4))] H := hP
  have hD : va_D A [(a0, .inr (2, [.ref a1, .ref a2, .ref a3, .ref a4, .int (nI k)])), (a1, .inl (cI, 200, .inl (upd f1 k p0))), (a2, .inl (cI, 200, .inl (upd f2 k p1))), (a3, .inl (cI, 200, .inl (upd f3 k p2))), (a4, .inl (cI, 200, .inl f4))] := hD
  refine lv_aload_n hx hb zd_Co_add_30 rfl (lv_at hl 0 rfl) ?_
  refine va_get (D := (dC, dI)) (ci := 2) (v := .ref a4) (C := zR_Co) (T := zT_Co) (N := 5) hx hb hts zin_Co hown hK hP 0 rfl rfl 3 (by decide) (hts _ zw_87) (fun _ h9 => h9) rfl zd_Co_add_31 ?_
  refine lv_aload_n hx hb zd_Co_add_34 rfl (lv_at hl 0 rfl) ?_
  refine va_get (D := (dC, dI)) (ci := 2) (v := .int (nI k)) (C := zR_Co) (T := zT_Co) (N := 5) hx hb hts zin_Co hown hK hP 0 rfl rfl 4 (by decide) (hts _ zw_89) (fun _ h9 => h9) rfl zd_Co_add_35 ?_
  refine lv_iload hx hb zd_Co_add_38 (lv_at hl 4 rfl) ?_
  refine va_iast hx hb hK hP hD hS 4 0 rfl rfl (vp_in_nI (show k < 200 from by omega) (by decide)) zd_Co_add_40 (fun H locs hP hD hS => ?_)
  rw [show (nI k).toNatClampNeg = k from nI_clamp (by omega)] at hP hD
  have hP : va_P (dC, dI) zCl [(a0, .inr (2, [.ref a1, .ref a2, .ref a3, .ref a4, .int (nI k)])), (a1, .inl (cI, 200, .inl (upd f1 k p0))), (a2, .inl (cI, 200, .inl (upd f2 k p1))), (a3, .inl (cI, 200, .inl (upd f3 k p2))), (a4, .inl (cI, 200, .inl (upd f4 k p3)))] H := hP
  have hD : va_D A [(a0, .inr (2, [.ref a1, .ref a2, .ref a3, .ref a4, .int (nI k)])), (a1, .inl (cI, 200, .inl (upd f1 k p0))), (a2, .inl (cI, 200, .inl (upd f2 k p1))), (a3, .inl (cI, 200, .inl (upd f3 k p2))), (a4, .inl (cI, 200, .inl (upd f4 k p3)))] := hD
  refine lv_aload_n hx hb zd_Co_add_41 rfl (lv_at hl 0 rfl) ?_
  refine lv_dup hx hb zd_Co_add_42 rfl ?_
  refine va_get (D := (dC, dI)) (ci := 2) (v := .int (nI k)) (C := zR_Co) (T := zT_Co) (N := 5) hx hb hts zin_Co hown hK hP 0 rfl rfl 4 (by decide) (hts _ zw_89) (fun _ h9 => h9) rfl zd_Co_add_43 ?_
  refine lv_iconst (v := 1) hx hb zd_Co_add_46 (by decide) ?_
  refine lv_iadd hx hb zd_Co_add_47 ?_
  rw [nI_1 k]
  refine va_put (D := (dC, dI)) (ci := 2) (v := .int (nI (k + 1))) (ty := .int) (C := zR_Co) (T := zT_Co) (N := 5) hx hb hts zin_Co zt_Co zt_Co_ok zn_Co hown hK hP hD hS 0 rfl rfl 4 (by decide) (hts _ zw_89) (fun _ h9 => h9) rfl (by decide +kernel) rfl rfl (Nat.le_of_ble_eq_true rfl) zd_Co_add_48 (fun H locs hP hD hS => ?_)
  have hP : va_P (dC, dI) zCl [(a0, .inr (2, [.ref a1, .ref a2, .ref a3, .ref a4, .int (nI (k + 1))])), (a1, .inl (cI, 200, .inl (upd f1 k p0))), (a2, .inl (cI, 200, .inl (upd f2 k p1))), (a3, .inl (cI, 200, .inl (upd f3 k p2))), (a4, .inl (cI, 200, .inl (upd f4 k p3)))] H := hP
  have hD : va_D A [(a0, .inr (2, [.ref a1, .ref a2, .ref a3, .ref a4, .int (nI (k + 1))])), (a1, .inl (cI, 200, .inl (upd f1 k p0))), (a2, .inl (cI, 200, .inl (upd f2 k p1))), (a3, .inl (cI, 200, .inl (upd f3 k p2))), (a4, .inl (cI, 200, .inl (upd f4 k p3)))] := hD
  exact z_vret (S := Unit) (w1 := fun (u : Unit) => [(a0, .inr (2, [.ref a1, .ref a2, .ref a3, .ref a4, .int (nI (k + 1))])), (a1, .inl (cI, 200, .inl (upd f1 k p0))), (a2, .inl (cI, 200, .inl (upd f2 k p1))), (a3, .inl (cI, 200, .inl (upd f3 k p2))), (a4, .inl (cI, 200, .inl (upd f4 k p3)))]) () hx hb hr hlocks trivial hP hD hS (Nat.le_of_ble_eq_true rfl) (Nat.le_of_ble_eq_true rfl) zd_Co_add_51
set_option maxHeartbeats 4000000 in
set_option maxRecDepth 100000 in
theorem k_Li_add (l : Launch) (hst : l.stackTraces = false) (dC : Nat → ClassId) (dI : Nat → Nat → Nat) (cI cZ cJ cQ : ClassId) (sz : Nat) (a0 : Nat) (a1 : Nat) (a2 : Nat) (a3 : Nat) (a4 : Nat) (k : Nat) (f1 : Nat → Int32) (f2 : Nat → Int32) (f3 : Nat → Int32) (f4 : Nat → Int32) (p0 : Int32) (p1 : Int32) (p2 : Int32) (p3 : Int32) (hk : k < 40) : Met l zy_Li_add zws_Li_add ({ frames := 0, cells := 0, slots := 0, locals := 0 }) (zPc (dC, dI) zCl (zTy cI cZ cJ cQ) [(a0, .inr (3, [.ref a1, .ref a2, .ref a3, .ref a4, .int (nI k)])), (a1, .inl (cI, 40, .inl f1)), (a2, .inl (cI, 40, .inl f2)), (a3, .inl (cI, 40, .inl f3)), (a4, .inl (cI, 40, .inl f4))] sz [.ref a0, .int p0, .int p1, .int p2, .int p3]) (zQi (dC, dI) zCl (fun (r : Int32) (u : Unit) => (r = nI (k + 1))) (fun (u : Unit) => [(a0, .inr (3, [.ref a1, .ref a2, .ref a3, .ref a4, .int (nI (k + 1))])), (a1, .inl (cI, 40, .inl (upd f1 k p0))), (a2, .inl (cI, 40, .inl (upd f2 k p1))), (a3, .inl (cI, 40, .inl (upd f3 k p2))), (a4, .inl (cI, 40, .inl (upd f4 k p3)))]) (va_A [(a0, .inr (3, [.ref a1, .ref a2, .ref a3, .ref a4, .int (nI k)])), (a1, .inl (cI, 40, .inl f1)), (a2, .inl (cI, 40, .inl f2)), (a3, .inl (cI, 40, .inl f3)), (a4, .inl (cI, 40, .inl f4))] sz)) 0 0 (va_A [(a0, .inr (3, [.ref a1, .ref a2, .ref a3, .ref a4, .int (nI k)])), (a1, .inl (cI, 40, .inl f1)), (a2, .inl (cI, 40, .inl f2)), (a3, .inl (cI, 40, .inl f3)), (a4, .inl (cI, 40, .inl f4))] sz) := by
  refine Met.ofW (cc := zc_Li_add) (maxL := 5) (ret := (some .int)) (by decide) rfl ?_
  intro p e s m args below meth c s₁ B hml hv
  obtain ⟨rfl, hsz, hP, hK, hD0, hZ⟩ := hv
  have hx := B.exec
  have hb := B.bytes
  have hr := B.returns
  have hts := fun (w : Cond) (h : w ∈ zW) => atoms_spec (ws := zws_Li_add) B.pre w (List.mem_cons_of_mem _ h)
  have hown : s.vm.findClass zR_Li = some m.cls := findClass_of_methodNamed B.named
  have hlocks := B.notSynchronized
  subst hsz
  have hD := hD0.self (sz := s.heap.size)
  generalize hAe : va_A [(a0, .inr (3, [.ref a1, .ref a2, .ref a3, .ref a4, .int (nI k)])), (a1, .inl (cI, 40, .inl f1)), (a2, .inl (cI, 40, .inl f2)), (a3, .inl (cI, 40, .inl f3)), (a4, .inl (cI, 40, .inl f4))] s.heap.size = A at hD hZ ⊢
  have hA : ∀ q : Nat, s.heap.size ≤ q → A q := fun q h => by rw [← hAe]; exact Or.inr h
  have hS : va_S A s.heap s.heap [] := va_S.rf
  have hl := lv_entry ([.ref a0, .int p0, .int p1, .int p2, .int p3]) (n := 5) (Nat.le_of_ble_eq_true rfl)
  rw [lg_entry_eq]
  generalize (lg_sl ([.ref a0, .int p0, .int p1, .int p2, .int p3]) ++ List.replicate (5 - (lg_sl ([.ref a0, .int p0, .int p1, .int p2, .int p3])).length) Slot.unset).toArray = ls at hl ⊢
  have hl : lv_has ls 5 [(0, .ref a0), (1, .int p0), (2, .int p1), (3, .int p2), (4, .int p3)] := hl
  refine z_start hP hS (fun H locs hP hS => ?_)
  refine lv_aload_n hx hb zd_Li_add_0 rfl (lv_at hl 0 rfl) ?_
  refine va_get (D := (dC, dI)) (ci := 3) (v := .ref a1) (C := zR_Li) (T := zT_Li) (N := 5) hx hb hts zin_Li hown hK hP 0 rfl rfl 0 (by decide) (hts _ zw_229) (fun _ h9 => h9) rfl zd_Li_add_1 ?_
  refine lv_aload_n hx hb zd_Li_add_4 rfl (lv_at hl 0 rfl) ?_
  refine va_get (D := (dC, dI)) (ci := 3) (v := .int (nI k)) (C := zR_Li) (T := zT_Li) (N := 5) hx hb hts zin_Li hown hK hP 0 rfl rfl 4 (by decide) (hts _ zw_233) (fun _ h9 => h9) rfl zd_Li_add_5 ?_
  refine lv_iload_n hx hb zd_Li_add_8 rfl (lv_at hl 1 rfl) ?_
  refine va_iast hx hb hK hP hD hS 1 0 rfl rfl (vp_in_nI (show k < 40 from by omega) (by decide)) zd_Li_add_9 (fun H locs hP hD hS => ?_)
  rw [show (nI k).toNatClampNeg = k from nI_clamp (by omega)] at hP hD
  have hP : va_P (dC, dI) zCl [(a0, .inr (3, [.ref a1, .ref a2, .ref a3, .ref a4, .int (nI k)])), (a1, .inl (cI, 40, .inl (upd f1 k p0))), (a2, .inl (cI, 40, .inl f2)), (a3, .inl (cI, 40, .inl f3)), (a4, .inl (cI, 40, .inl f4))] H := hP
  have hD : va_D A [(a0, .inr (3, [.ref a1, .ref a2, .ref a3, .ref a4, .int (nI k)])), (a1, .inl (cI, 40, .inl (upd f1 k p0))), (a2, .inl (cI, 40, .inl f2)), (a3, .inl (cI, 40, .inl f3)), (a4, .inl (cI, 40, .inl f4))] := hD
  refine lv_aload_n hx hb zd_Li_add_10 rfl (lv_at hl 0 rfl) ?_
  refine va_get (D := (dC, dI)) (ci := 3) (v := .ref a2) (C := zR_Li) (T := zT_Li) (N := 5) hx hb hts zin_Li hown hK hP 0 rfl rfl 1 (by decide) (hts _ zw_230) (fun _ h9 => h9) rfl zd_Li_add_11 ?_
  refine lv_aload_n hx hb zd_Li_add_14 rfl (lv_at hl 0 rfl) ?_
  refine va_get (D := (dC, dI)) (ci := 3) (v := .int (nI k)) (C := zR_Li) (T := zT_Li) (N := 5) hx hb hts zin_Li hown hK hP 0 rfl rfl 4 (by decide) (hts _ zw_233) (fun _ h9 => h9) rfl zd_Li_add_15 ?_
  refine lv_iload_n hx hb zd_Li_add_18 rfl (lv_at hl 2 rfl) ?_
  refine va_iast hx hb hK hP hD hS 2 0 rfl rfl (vp_in_nI (show k < 40 from by omega) (by decide)) zd_Li_add_19 (fun H locs hP hD hS => ?_)
  rw [show (nI k).toNatClampNeg = k from nI_clamp (by omega)] at hP hD
  have hP : va_P (dC, dI) zCl [(a0, .inr (3, [.ref a1, .ref a2, .ref a3, .ref a4, .int (nI k)])), (a1, .inl (cI, 40, .inl (upd f1 k p0))), (a2, .inl (cI, 40, .inl (upd f2 k p1))), (a3, .inl (cI, 40, .inl f3)), (a4, .inl (cI, 40, .inl f4))] H := hP
  have hD : va_D A [(a0, .inr (3, [.ref a1, .ref a2, .ref a3, .ref a4, .int (nI k)])), (a1, .inl (cI, 40, .inl (upd f1 k p0))), (a2, .inl (cI, 40, .inl (upd f2 k p1))), (a3, .inl (cI, 40, .inl f3)), (a4, .inl (cI, 40, .inl f4))] := hD
  refine lv_aload_n hx hb zd_Li_add_20 rfl (lv_at hl 0 rfl) ?_
  refine va_get (D := (dC, dI)) (ci := 3) (v := .ref a3) (C := zR_Li) (T := zT_Li) (N := 5) hx hb hts zin_Li hown hK hP 0 rfl rfl 2 (by decide) (hts _ zw_231) (fun _ h9 => h9) rfl zd_Li_add_21 ?_
  refine lv_aload_n hx hb zd_Li_add_24 rfl (lv_at hl 0 rfl) ?_
  refine va_get (D := (dC, dI)) (ci := 3) (v := .int (nI k)) (C := zR_Li) (T := zT_Li) (N := 5) hx hb hts zin_Li hown hK hP 0 rfl rfl 4 (by decide) (hts _ zw_233) (fun _ h9 => h9) rfl zd_Li_add_25 ?_
  refine lv_iload_n hx hb zd_Li_add_28 rfl (lv_at hl 3 rfl) ?_
  refine va_iast hx hb hK hP hD hS 3 0 rfl rfl (vp_in_nI (show k < 40 from by omega) (by decide)) zd_Li_add_29 (fun H locs hP hD hS => ?_)
  rw [show (nI k).toNatClampNeg = k from nI_clamp (by omega)] at hP hD
  have hP : va_P (dC, dI) zCl [(a0, .inr (3, [.ref a1, .ref a2, .ref a3, .ref a4, .int (nI k)])), (a1, .inl (cI, 40, .inl (upd f1 k p0))), (a2, .inl (cI, 40, .inl (upd f2 k p1))), (a3, .inl (cI, 40, .inl (upd f3 k p2))), (a4, .inl (cI, 40, .inl f4))] H := hP
  have hD : va_D A [(a0, .inr (3, [.ref a1, .ref a2, .ref a3, .ref a4, .int (nI k)])), (a1, .inl (cI, 40, .inl (upd f1 k p0))), (a2, .inl (cI, 40, .inl (upd f2 k p1))), (a3, .inl (cI, 40, .inl (upd f3 k p2))), (a4, .inl (cI, 40, .inl f4))] := hD
  refine lv_aload_n hx hb zd_Li_add_30 rfl (lv_at hl 0 rfl) ?_
  refine va_get (D := (dC, dI)) (ci := 3) (v := .ref a4) (C := zR_Li) (T := zT_Li) (N := 5) hx hb hts zin_Li hown hK hP 0 rfl rfl 3 (by decide) (hts _ zw_232) (fun _ h9 => h9) rfl zd_Li_add_31 ?_
  refine lv_aload_n hx hb zd_Li_add_34 rfl (lv_at hl 0 rfl) ?_
  refine va_get (D := (dC, dI)) (ci := 3) (v := .int (nI k)) (C := zR_Li) (T := zT_Li) (N := 5) hx hb hts zin_Li hown hK hP 0 rfl rfl 4 (by decide) (hts _ zw_233) (fun _ h9 => h9) rfl zd_Li_add_35 ?_
  refine lv_iload hx hb zd_Li_add_38 (lv_at hl 4 rfl) ?_
  refine va_iast hx hb hK hP hD hS 4 0 rfl rfl (vp_in_nI (show k < 40 from by omega) (by decide)) zd_Li_add_40 (fun H locs hP hD hS => ?_)
  rw [show (nI k).toNatClampNeg = k from nI_clamp (by omega)] at hP hD
  have hP : va_P (dC, dI) zCl [(a0, .inr (3, [.ref a1, .ref a2, .ref a3, .ref a4, .int (nI k)])), (a1, .inl (cI, 40, .inl (upd f1 k p0))), (a2, .inl (cI, 40, .inl (upd f2 k p1))), (a3, .inl (cI, 40, .inl (upd f3 k p2))), (a4, .inl (cI, 40, .inl (upd f4 k p3)))] H := hP
  have hD : va_D A [(a0, .inr (3, [.ref a1, .ref a2, .ref a3, .ref a4, .int (nI k)])), (a1, .inl (cI, 40, .inl (upd f1 k p0))), (a2, .inl (cI, 40, .inl (upd f2 k p1))), (a3, .inl (cI, 40, .inl (upd f3 k p2))), (a4, .inl (cI, 40, .inl (upd f4 k p3)))] := hD
  refine lv_aload_n hx hb zd_Li_add_41 rfl (lv_at hl 0 rfl) ?_
  refine lv_dup hx hb zd_Li_add_42 rfl ?_
  refine va_get (D := (dC, dI)) (ci := 3) (v := .int (nI k)) (C := zR_Li) (T := zT_Li) (N := 5) hx hb hts zin_Li hown hK hP 0 rfl rfl 4 (by decide) (hts _ zw_233) (fun _ h9 => h9) rfl zd_Li_add_43 ?_
  refine lv_iconst (v := 1) hx hb zd_Li_add_46 (by decide) ?_
  refine lv_iadd hx hb zd_Li_add_47 ?_
  rw [nI_1 k]
  refine va_put (D := (dC, dI)) (ci := 3) (v := .int (nI (k + 1))) (ty := .int) (C := zR_Li) (T := zT_Li) (N := 5) hx hb hts zin_Li zt_Li zt_Li_ok zn_Li hown hK hP hD hS 0 rfl rfl 4 (by decide) (hts _ zw_233) (fun _ h9 => h9) rfl (by decide +kernel) rfl rfl (Nat.le_of_ble_eq_true rfl) zd_Li_add_48 (fun H locs hP hD hS => ?_)
  have hP : va_P (dC, dI) zCl [(a0, .inr (3, [.ref a1, .ref a2, .ref a3, .ref a4, .int (nI (k + 1))])), (a1, .inl (cI, 40, .inl (upd f1 k p0))), (a2, .inl (cI, 40, .inl (upd f2 k p1))), (a3, .inl (cI, 40, .inl (upd f3 k p2))), (a4, .inl (cI, 40, .inl (upd f4 k p3)))] H := hP
  have hD : va_D A [(a0, .inr (3, [.ref a1, .ref a2, .ref a3, .ref a4, .int (nI (k + 1))])), (a1, .inl (cI, 40, .inl (upd f1 k p0))), (a2, .inl (cI, 40, .inl (upd f2 k p1))), (a3, .inl (cI, 40, .inl (upd f3 k p2))), (a4, .inl (cI, 40, .inl (upd f4 k p3)))] := hD
  refine lv_aload_n hx hb zd_Li_add_51 rfl (lv_at hl 0 rfl) ?_
  refine va_get (D := (dC, dI)) (ci := 3) (v := .int (nI (k + 1))) (C := zR_Li) (T := zT_Li) (N := 5) hx hb hts zin_Li hown hK hP 0 rfl rfl 4 (by decide) (hts _ zw_233) (fun _ h9 => h9) rfl zd_Li_add_52 ?_
  exact z_iret (S := Unit) (w1 := fun (u : Unit) => [(a0, .inr (3, [.ref a1, .ref a2, .ref a3, .ref a4, .int (nI (k + 1))])), (a1, .inl (cI, 40, .inl (upd f1 k p0))), (a2, .inl (cI, 40, .inl (upd f2 k p1))), (a3, .inl (cI, 40, .inl (upd f3 k p2))), (a4, .inl (cI, 40, .inl (upd f4 k p3)))]) () hx hb hr hlocks rfl hP hD hS (Nat.le_of_ble_eq_true rfl) (Nat.le_of_ble_eq_true rfl) zd_Li_add_55
set_option maxHeartbeats 4000000 in
set_option maxRecDepth 100000 in
theorem k_Va_add (l : Launch) (hst : l.stackTraces = false) (dC : Nat → ClassId) (dI : Nat → Nat → Nat) (cI cZ cJ cQ : ClassId) (sz : Nat) (a0 : Nat) (a1 : Nat) (a2 : Nat) (a3 : Nat) (a4 : Nat) (k : Nat) (f1 : Nat → Int32) (f2 : Nat → Int32) (f3 : Nat → Int32) (f4 : Nat → Int32) (p0 : Int32) (p1 : Int32) (p2 : Int32) (p3 : Int32) (hk : k < 60) : Met l zy_Va_add zws_Va_add ({ frames := 0, cells := 0, slots := 0, locals := 0 }) (zPc (dC, dI) zCl (zTy cI cZ cJ cQ) [(a0, .inr (9, [.ref a1, .ref a2, .ref a3, .ref a4, .int (nI k)])), (a1, .inl (cI, 60, .inl f1)), (a2, .inl (cI, 60, .inl f2)), (a3, .inl (cI, 60, .inl f3)), (a4, .inl (cI, 60, .inl f4))] sz [.ref a0, .int p0, .int p1, .int p2, .int p3]) (zQi (dC, dI) zCl (fun (r : Int32) (u : Unit) => (r = nI (k + 1))) (fun (u : Unit) => [(a0, .inr (9, [.ref a1, .ref a2, .ref a3, .ref a4, .int (nI (k + 1))])), (a1, .inl (cI, 60, .inl (upd f1 k p0))), (a2, .inl (cI, 60, .inl (upd f2 k p1))), (a3, .inl (cI, 60, .inl (upd f3 k p2))), (a4, .inl (cI, 60, .inl (upd f4 k p3)))]) (va_A [(a0, .inr (9, [.ref a1, .ref a2, .ref a3, .ref a4, .int (nI k)])), (a1, .inl (cI, 60, .inl f1)), (a2, .inl (cI, 60, .inl f2)), (a3, .inl (cI, 60, .inl f3)), (a4, .inl (cI, 60, .inl f4))] sz)) 0 0 (va_A [(a0, .inr (9, [.ref a1, .ref a2, .ref a3, .ref a4, .int (nI k)])), (a1, .inl (cI, 60, .inl f1)), (a2, .inl (cI, 60, .inl f2)), (a3, .inl (cI, 60, .inl f3)), (a4, .inl (cI, 60, .inl f4))] sz) := by
  refine Met.ofW (cc := zc_Va_add) (maxL := 5) (ret := (some .int)) (by decide) rfl ?_
  intro p e s m args below meth c s₁ B hml hv
  obtain ⟨rfl, hsz, hP, hK, hD0, hZ⟩ := hv
  have hx := B.exec
  have hb := B.bytes
  have hr := B.returns
  have hts := fun (w : Cond) (h : w ∈ zW) => atoms_spec (ws := zws_Va_add) B.pre w (List.mem_cons_of_mem _ h)
  have hown : s.vm.findClass zR_Va = some m.cls := findClass_of_methodNamed B.named
  have hlocks := B.notSynchronized
  subst hsz
  have hD := hD0.self (sz := s.heap.size)
  generalize hAe : va_A [(a0, .inr (9, [.ref a1, .ref a2, .ref a3, .ref a4, .int (nI k)])), (a1, .inl (cI, 60, .inl f1)), (a2, .inl (cI, 60, .inl f2)), (a3, .inl (cI, 60, .inl f3)), (a4, .inl (cI, 60, .inl f4))] s.heap.size = A at hD hZ ⊢
  have hA : ∀ q : Nat, s.heap.size ≤ q → A q := fun q h => by rw [← hAe]; exact Or.inr h
  have hS : va_S A s.heap s.heap [] := va_S.rf
  have hl := lv_entry ([.ref a0, .int p0, .int p1, .int p2, .int p3]) (n := 5) (Nat.le_of_ble_eq_true rfl)
  rw [lg_entry_eq]
  generalize (lg_sl ([.ref a0, .int p0, .int p1, .int p2, .int p3]) ++ List.replicate (5 - (lg_sl ([.ref a0, .int p0, .int p1, .int p2, .int p3])).length) Slot.unset).toArray = ls at hl ⊢
  have hl : lv_has ls 5 [(0, .ref a0), (1, .int p0), (2, .int p1), (3, .int p2), (4, .int p3)] := hl
  refine z_start hP hS (fun H locs hP hS => ?_)
  refine lv_aload_n hx hb zd_Va_add_0 rfl (lv_at hl 0 rfl) ?_
  refine va_get (D := (dC, dI)) (ci := 9) (v := .ref a1) (C := zR_Va) (T := zT_Va) (N := 5) hx hb hts zin_Va hown hK hP 0 rfl rfl 0 (by decide) (hts _ zw_252) (fun _ h9 => h9) rfl zd_Va_add_1 ?_
  refine lv_aload_n hx hb zd_Va_add_4 rfl (lv_at hl 0 rfl) ?_
  refine va_get (D := (dC, dI)) (ci := 9) (v := .int (nI k)) (C := zR_Va) (T := zT_Va) (N := 5) hx hb hts zin_Va hown hK hP 0 rfl rfl 4 (by decide) (hts _ zw_256) (fun _ h9 => h9) rfl zd_Va_add_5 ?_
  refine lv_iload_n hx hb zd_Va_add_8 rfl (lv_at hl 1 rfl) ?_
  refine va_iast hx hb hK hP hD hS 1 0 rfl rfl (vp_in_nI (show k < 60 from by omega) (by decide)) zd_Va_add_9 (fun H locs hP hD hS => ?_)
  rw [show (nI k).toNatClampNeg = k from nI_clamp (by omega)] at hP hD
  have hP : va_P (dC, dI) zCl [(a0, .inr (9, [.ref a1, .ref a2, .ref a3, .ref a4, .int (nI k)])), (a1, .inl (cI, 60, .inl (upd f1 k p0))), (a2, .inl (cI, 60, .inl f2)), (a3, .inl (cI, 60, .inl f3)), (a4, .inl (cI, 60, .inl f4))] H := hP
  have hD : va_D A [(a0, .inr (9, [.ref a1, .ref a2, .ref a3, .ref a4, .int (nI k)])), (a1, .inl (cI, 60, .inl (upd f1 k p0))), (a2, .inl (cI, 60, .inl f2)), (a3, .inl (cI, 60, .inl f3)), (a4, .inl (cI, 60, .inl f4))] := hD
  refine lv_aload_n hx hb zd_Va_add_10 rfl (lv_at hl 0 rfl) ?_
  refine va_get (D := (dC, dI)) (ci := 9) (v := .ref a2) (C := zR_Va) (T := zT_Va) (N := 5) hx hb hts zin_Va hown hK hP 0 rfl rfl 1 (by decide) (hts _ zw_253) (fun _ h9 => h9) rfl zd_Va_add_11 ?_
  refine lv_aload_n hx hb zd_Va_add_14 rfl (lv_at hl 0 rfl) ?_
  refine va_get (D := (dC, dI)) (ci := 9) (v := .int (nI k)) (C := zR_Va) (T := zT_Va) (N := 5) hx hb hts zin_Va hown hK hP 0 rfl rfl 4 (by decide) (hts _ zw_256) (fun _ h9 => h9) rfl zd_Va_add_15 ?_
  refine lv_iload_n hx hb zd_Va_add_18 rfl (lv_at hl 2 rfl) ?_
  refine va_iast hx hb hK hP hD hS 2 0 rfl rfl (vp_in_nI (show k < 60 from by omega) (by decide)) zd_Va_add_19 (fun H locs hP hD hS => ?_)
  rw [show (nI k).toNatClampNeg = k from nI_clamp (by omega)] at hP hD
  have hP : va_P (dC, dI) zCl [(a0, .inr (9, [.ref a1, .ref a2, .ref a3, .ref a4, .int (nI k)])), (a1, .inl (cI, 60, .inl (upd f1 k p0))), (a2, .inl (cI, 60, .inl (upd f2 k p1))), (a3, .inl (cI, 60, .inl f3)), (a4, .inl (cI, 60, .inl f4))] H := hP
  have hD : va_D A [(a0, .inr (9, [.ref a1, .ref a2, .ref a3, .ref a4, .int (nI k)])), (a1, .inl (cI, 60, .inl (upd f1 k p0))), (a2, .inl (cI, 60, .inl (upd f2 k p1))), (a3, .inl (cI, 60, .inl f3)), (a4, .inl (cI, 60, .inl f4))] := hD
  refine lv_aload_n hx hb zd_Va_add_20 rfl (lv_at hl 0 rfl) ?_
  refine va_get (D := (dC, dI)) (ci := 9) (v := .ref a3) (C := zR_Va) (T := zT_Va) (N := 5) hx hb hts zin_Va hown hK hP 0 rfl rfl 2 (by decide) (hts _ zw_254) (fun _ h9 => h9) rfl zd_Va_add_21 ?_
  refine lv_aload_n hx hb zd_Va_add_24 rfl (lv_at hl 0 rfl) ?_
  refine va_get (D := (dC, dI)) (ci := 9) (v := .int (nI k)) (C := zR_Va) (T := zT_Va) (N := 5) hx hb hts zin_Va hown hK hP 0 rfl rfl 4 (by decide) (hts _ zw_256) (fun _ h9 => h9) rfl zd_Va_add_25 ?_
  refine lv_iload_n hx hb zd_Va_add_28 rfl (lv_at hl 3 rfl) ?_
  refine va_iast hx hb hK hP hD hS 3 0 rfl rfl (vp_in_nI (show k < 60 from by omega) (by decide)) zd_Va_add_29 (fun H locs hP hD hS => ?_)
  rw [show (nI k).toNatClampNeg = k from nI_clamp (by omega)] at hP hD
  have hP : va_P (dC, dI) zCl [(a0, .inr (9, [.ref a1, .ref a2, .ref a3, .ref a4, .int (nI k)])), (a1, .inl (cI, 60, .inl (upd f1 k p0))), (a2, .inl (cI, 60, .inl (upd f2 k p1))), (a3, .inl (cI, 60, .inl (upd f3 k p2))), (a4, .inl (cI, 60, .inl f4))] H := hP
  have hD : va_D A [(a0, .inr (9, [.ref a1, .ref a2, .ref a3, .ref a4, .int (nI k)])), (a1, .inl (cI, 60, .inl (upd f1 k p0))), (a2, .inl (cI, 60, .inl (upd f2 k p1))), (a3, .inl (cI, 60, .inl (upd f3 k p2))), (a4, .inl (cI, 60, .inl f4))] := hD
  refine lv_aload_n hx hb zd_Va_add_30 rfl (lv_at hl 0 rfl) ?_
  refine va_get (D := (dC, dI)) (ci := 9) (v := .ref a4) (C := zR_Va) (T := zT_Va) (N := 5) hx hb hts zin_Va hown hK hP 0 rfl rfl 3 (by decide) (hts _ zw_255) (fun _ h9 => h9) rfl zd_Va_add_31 ?_
  refine lv_aload_n hx hb zd_Va_add_34 rfl (lv_at hl 0 rfl) ?_
  refine va_get (D := (dC, dI)) (ci := 9) (v := .int (nI k)) (C := zR_Va) (T := zT_Va) (N := 5) hx hb hts zin_Va hown hK hP 0 rfl rfl 4 (by decide) (hts _ zw_256) (fun _ h9 => h9) rfl zd_Va_add_35 ?_
  refine lv_iload hx hb zd_Va_add_38 (lv_at hl 4 rfl) ?_
  refine va_iast hx hb hK hP hD hS 4 0 rfl rfl (vp_in_nI (show k < 60 from by omega) (by decide)) zd_Va_add_40 (fun H locs hP hD hS => ?_)
  rw [show (nI k).toNatClampNeg = k from nI_clamp (by omega)] at hP hD
  have hP : va_P (dC, dI) zCl [(a0, .inr (9, [.ref a1, .ref a2, .ref a3, .ref a4, .int (nI k)])), (a1, .inl (cI, 60, .inl (upd f1 k p0))), (a2, .inl (cI, 60, .inl (upd f2 k p1))), (a3, .inl (cI, 60, .inl (upd f3 k p2))), (a4, .inl (cI, 60, .inl (upd f4 k p3)))] H := hP
  have hD : va_D A [(a0, .inr (9, [.ref a1, .ref a2, .ref a3, .ref a4, .int (nI k)])), (a1, .inl (cI, 60, .inl (upd f1 k p0))), (a2, .inl (cI, 60, .inl (upd f2 k p1))), (a3, .inl (cI, 60, .inl (upd f3 k p2))), (a4, .inl (cI, 60, .inl (upd f4 k p3)))] := hD
  refine lv_aload_n hx hb zd_Va_add_41 rfl (lv_at hl 0 rfl) ?_
  refine lv_dup hx hb zd_Va_add_42 rfl ?_
  refine va_get (D := (dC, dI)) (ci := 9) (v := .int (nI k)) (C := zR_Va) (T := zT_Va) (N := 5) hx hb hts zin_Va hown hK hP 0 rfl rfl 4 (by decide) (hts _ zw_256) (fun _ h9 => h9) rfl zd_Va_add_43 ?_
  refine lv_iconst (v := 1) hx hb zd_Va_add_46 (by decide) ?_
  refine lv_iadd hx hb zd_Va_add_47 ?_
  rw [nI_1 k]
  refine va_put (D := (dC, dI)) (ci := 9) (v := .int (nI (k + 1))) (ty := .int) (C := zR_Va) (T := zT_Va) (N := 5) hx hb hts zin_Va zt_Va zt_Va_ok zn_Va hown hK hP hD hS 0 rfl rfl 4 (by decide) (hts _ zw_256) (fun _ h9 => h9) rfl (by decide +kernel) rfl rfl (Nat.le_of_ble_eq_true rfl) zd_Va_add_48 (fun H locs hP hD hS => ?_)
  have hP : va_P (dC, dI) zCl [(a0, .inr (9, [.ref a1, .ref a2, .ref a3, .ref a4, .int (nI (k + 1))])), (a1, .inl (cI, 60, .inl (upd f1 k p0))), (a2, .inl (cI, 60, .inl (upd f2 k p1))), (a3, .inl (cI, 60, .inl (upd f3 k p2))), (a4, .inl (cI, 60, .inl (upd f4 k p3)))] H := hP
  have hD : va_D A [(a0, .inr (9, [.ref a1, .ref a2, .ref a3, .ref a4, .int (nI (k + 1))])), (a1, .inl (cI, 60, .inl (upd f1 k p0))), (a2, .inl (cI, 60, .inl (upd f2 k p1))), (a3, .inl (cI, 60, .inl (upd f3 k p2))), (a4, .inl (cI, 60, .inl (upd f4 k p3)))] := hD
  refine lv_aload_n hx hb zd_Va_add_51 rfl (lv_at hl 0 rfl) ?_
  refine va_get (D := (dC, dI)) (ci := 9) (v := .int (nI (k + 1))) (C := zR_Va) (T := zT_Va) (N := 5) hx hb hts zin_Va hown hK hP 0 rfl rfl 4 (by decide) (hts _ zw_256) (fun _ h9 => h9) rfl zd_Va_add_52 ?_
  exact z_iret (S := Unit) (w1 := fun (u : Unit) => [(a0, .inr (9, [.ref a1, .ref a2, .ref a3, .ref a4, .int (nI (k + 1))])), (a1, .inl (cI, 60, .inl (upd f1 k p0))), (a2, .inl (cI, 60, .inl (upd f2 k p1))), (a3, .inl (cI, 60, .inl (upd f3 k p2))), (a4, .inl (cI, 60, .inl (upd f4 k p3)))]) () hx hb hr hlocks rfl hP hD hS (Nat.le_of_ble_eq_true rfl) (Nat.le_of_ble_eq_true rfl) zd_Va_add_55
set_option maxHeartbeats 4000000 in
set_option maxRecDepth 100000 in
theorem k_Ru_add (l : Launch) (hst : l.stackTraces = false) (dC : Nat → ClassId) (dI : Nat → Nat → Nat) (cI cZ cJ cQ : ClassId) (sz : Nat) (a0 : Nat) (a1 : Nat) (a2 : Nat) (a3 : Nat) (k : Nat) (f1 : Nat → Int32) (f2 : Nat → Int32) (f3 : Nat → Int32) (p0 : Int32) (p1 : Int32) (p2 : Int32) (hk : k < 10) : Met l zy_Ru_add zws_Ru_add ({ frames := 0, cells := 0, slots := 0, locals := 0 }) (zPc (dC, dI) zCl (zTy cI cZ cJ cQ) [(a0, .inr (7, [.ref a1, .ref a2, .ref a3, .int (nI k)])), (a1, .inl (cI, 10, .inl f1)), (a2, .inl (cI, 10, .inl f2)), (a3, .inl (cI, 10, .inl f3))] sz [.ref a0, .int p0, .int p1, .int p2]) (zQi (dC, dI) zCl (fun (r : Int32) (u : Unit) => (r = nI k)) (fun (u : Unit) => [(a0, .inr (7, [.ref a1, .ref a2, .ref a3, .int (nI (k + 1))])), (a1, .inl (cI, 10, .inl (upd f1 k p0))), (a2, .inl (cI, 10, .inl (upd f2 k p1))), (a3, .inl (cI, 10, .inl (upd f3 k p2)))]) (va_A [(a0, .inr (7, [.ref a1, .ref a2, .ref a3, .int (nI k)])), (a1, .inl (cI, 10, .inl f1)), (a2, .inl (cI, 10, .inl f2)), (a3, .inl (cI, 10, .inl f3))] sz)) 0 0 (va_A [(a0, .inr (7, [.ref a1, .ref a2, .ref a3, .int (nI k)])), (a1, .inl (cI, 10, .inl f1)), (a2, .inl (cI, 10, .inl f2)), (a3, .inl (cI, 10, .inl f3))] sz) := by
  refine Met.ofW (cc := zc_Ru_add) (maxL := 4) (ret := (some .int)) (by decide) rfl ?_
  intro p e s m args below meth c s₁ B hml hv
  obtain ⟨rfl, hsz, hP, hK, hD0, hZ⟩ := hv
  have hx := B.exec
  have hb := B.bytes
  have hr := B.returns
  have hts := fun (w : Cond) (h : w ∈ zW) => atoms_spec (ws := zws_Ru_add) B.pre w (List.mem_cons_of_mem _ h)
  have hown : s.vm.findClass zR_Ru = some m.cls := findClass_of_methodNamed B.named
  have hlocks := B.notSynchronized
  subst hsz
  have hD := hD0.self (sz := s.heap.size)
  generalize hAe : va_A [(a0, .inr (7, [.ref a1, .ref a2, .ref a3, .int (nI k)])), (a1, .inl (cI, 10, .inl f1)), (a2, .inl (cI, 10, .inl f2)), (a3, .inl (cI, 10, .inl f3))] s.heap.size = A at hD hZ ⊢
  have hA : ∀ q : Nat, s.heap.size ≤ q → A q := fun q h => by rw [← hAe]; exact Or.inr h
  have hS : va_S A s.heap s.heap [] := va_S.rf
  have hl := lv_entry ([.ref a0, .int p0, .int p1, .int p2]) (n := 4) (Nat.le_of_ble_eq_true rfl)
  rw [lg_entry_eq]
  generalize (lg_sl ([.ref a0, .int p0, .int p1, .int p2]) ++ List.replicate (4 - (lg_sl ([.ref a0, .int p0, .int p1, .int p2])).length) Slot.unset).toArray = ls at hl ⊢
  have hl : lv_has ls 4 [(0, .ref a0), (1, .int p0), (2, .int p1), (3, .int p2)] := hl
  refine z_start hP hS (fun H locs hP hS => ?_)
  refine lv_aload_n hx hb zd_Ru_add_0 rfl (lv_at hl 0 rfl) ?_
  refine va_get (D := (dC, dI)) (ci := 7) (v := .ref a1) (C := zR_Ru) (T := zT_Ru) (N := 4) hx hb hts zin_Ru hown hK hP 0 rfl rfl 0 (by decide) (hts _ zw_165) (fun _ h9 => h9) rfl zd_Ru_add_1 ?_
  refine lv_aload_n hx hb zd_Ru_add_4 rfl (lv_at hl 0 rfl) ?_
  refine va_get (D := (dC, dI)) (ci := 7) (v := .int (nI k)) (C := zR_Ru) (T := zT_Ru) (N := 4) hx hb hts zin_Ru hown hK hP 0 rfl rfl 3 (by decide) (hts _ zw_168) (fun _ h9 => h9) rfl zd_Ru_add_5 ?_
  refine lv_iload_n hx hb zd_Ru_add_8 rfl (lv_at hl 1 rfl) ?_
  refine va_iast hx hb hK hP hD hS 1 0 rfl rfl (vp_in_nI (show k < 10 from by omega) (by decide)) zd_Ru_add_9 (fun H locs hP hD hS => ?_)
  rw [show (nI k).toNatClampNeg = k from nI_clamp (by omega)] at hP hD
  have hP : va_P (dC, dI) zCl [(a0, .inr (7, [.ref a1, .ref a2, .ref a3, .int (nI k)])), (a1, .inl (cI, 10, .inl (upd f1 k p0))), (a2, .inl (cI, 10, .inl f2)), (a3, .inl (cI, 10, .inl f3))] H := hP
  have hD : va_D A [(a0, .inr (7, [.ref a1, .ref a2, .ref a3, .int (nI k)])), (a1, .inl (cI, 10, .inl (upd f1 k p0))), (a2, .inl (cI, 10, .inl f2)), (a3, .inl (cI, 10, .inl f3))] := hD
  refine lv_aload_n hx hb zd_Ru_add_10 rfl (lv_at hl 0 rfl) ?_
  refine va_get (D := (dC, dI)) (ci := 7) (v := .ref a2) (C := zR_Ru) (T := zT_Ru) (N := 4) hx hb hts zin_Ru hown hK hP 0 rfl rfl 1 (by decide) (hts _ zw_166) (fun _ h9 => h9) rfl zd_Ru_add_11 ?_
  refine lv_aload_n hx hb zd_Ru_add_14 rfl (lv_at hl 0 rfl) ?_
  refine va_get (D := (dC, dI)) (ci := 7) (v := .int (nI k)) (C := zR_Ru) (T := zT_Ru) (N := 4) hx hb hts zin_Ru hown hK hP 0 rfl rfl 3 (by decide) (hts _ zw_168) (fun _ h9 => h9) rfl zd_Ru_add_15 ?_
  refine lv_iload_n hx hb zd_Ru_add_18 rfl (lv_at hl 2 rfl) ?_
  refine va_iast hx hb hK hP hD hS 2 0 rfl rfl (vp_in_nI (show k < 10 from by omega) (by decide)) zd_Ru_add_19 (fun H locs hP hD hS => ?_)
  rw [show (nI k).toNatClampNeg = k from nI_clamp (by omega)] at hP hD
  have hP : va_P (dC, dI) zCl [(a0, .inr (7, [.ref a1, .ref a2, .ref a3, .int (nI k)])), (a1, .inl (cI, 10, .inl (upd f1 k p0))), (a2, .inl (cI, 10, .inl (upd f2 k p1))), (a3, .inl (cI, 10, .inl f3))] H := hP
  have hD : va_D A [(a0, .inr (7, [.ref a1, .ref a2, .ref a3, .int (nI k)])), (a1, .inl (cI, 10, .inl (upd f1 k p0))), (a2, .inl (cI, 10, .inl (upd f2 k p1))), (a3, .inl (cI, 10, .inl f3))] := hD
  refine lv_aload_n hx hb zd_Ru_add_20 rfl (lv_at hl 0 rfl) ?_
  refine va_get (D := (dC, dI)) (ci := 7) (v := .ref a3) (C := zR_Ru) (T := zT_Ru) (N := 4) hx hb hts zin_Ru hown hK hP 0 rfl rfl 2 (by decide) (hts _ zw_167) (fun _ h9 => h9) rfl zd_Ru_add_21 ?_
  refine lv_aload_n hx hb zd_Ru_add_24 rfl (lv_at hl 0 rfl) ?_
  refine va_get (D := (dC, dI)) (ci := 7) (v := .int (nI k)) (C := zR_Ru) (T := zT_Ru) (N := 4) hx hb hts zin_Ru hown hK hP 0 rfl rfl 3 (by decide) (hts _ zw_168) (fun _ h9 => h9) rfl zd_Ru_add_25 ?_
  refine lv_iload_n hx hb zd_Ru_add_28 rfl (lv_at hl 3 rfl) ?_
  refine va_iast hx hb hK hP hD hS 3 0 rfl rfl (vp_in_nI (show k < 10 from by omega) (by decide)) zd_Ru_add_29 (fun H locs hP hD hS => ?_)
  rw [show (nI k).toNatClampNeg = k from nI_clamp (by omega)] at hP hD
  have hP : va_P (dC, dI) zCl [(a0, .inr (7, [.ref a1, .ref a2, .ref a3, .int (nI k)])), (a1, .inl (cI, 10, .inl (upd f1 k p0))), (a2, .inl (cI, 10, .inl (upd f2 k p1))), (a3, .inl (cI, 10, .inl (upd f3 k p2)))] H := hP
  have hD : va_D A [(a0, .inr (7, [.ref a1, .ref a2, .ref a3, .int (nI k)])), (a1, .inl (cI, 10, .inl (upd f1 k p0))), (a2, .inl (cI, 10, .inl (upd f2 k p1))), (a3, .inl (cI, 10, .inl (upd f3 k p2)))] := hD
  refine lv_aload_n hx hb zd_Ru_add_30 rfl (lv_at hl 0 rfl) ?_
  refine lv_dup hx hb zd_Ru_add_31 rfl ?_
  refine va_get (D := (dC, dI)) (ci := 7) (v := .int (nI k)) (C := zR_Ru) (T := zT_Ru) (N := 4) hx hb hts zin_Ru hown hK hP 0 rfl rfl 3 (by decide) (hts _ zw_168) (fun _ h9 => h9) rfl zd_Ru_add_32 ?_
  refine lv_iconst (v := 1) hx hb zd_Ru_add_35 (by decide) ?_
  refine lv_iadd hx hb zd_Ru_add_36 ?_
  rw [nI_1 k]
  refine va_put (D := (dC, dI)) (ci := 7) (v := .int (nI (k + 1))) (ty := .int) (C := zR_Ru) (T := zT_Ru) (N := 4) hx hb hts zin_Ru zt_Ru zt_Ru_ok zn_Ru hown hK hP hD hS 0 rfl rfl 3 (by decide) (hts _ zw_168) (fun _ h9 => h9) rfl (by decide +kernel) rfl rfl (Nat.le_of_ble_eq_true rfl) zd_Ru_add_37 (fun H locs hP hD hS => ?_)
  have hP : va_P (dC, dI) zCl [(a0, .inr (7, [.ref a1, .ref a2, .ref a3, .int (nI (k + 1))])), (a1, .inl (cI, 10, .inl (upd f1 k p0))), (a2, .inl (cI, 10, .inl (upd f2 k p1))), (a3, .inl (cI, 10, .inl (upd f3 k p2)))] H := hP
  have hD : va_D A [(a0, .inr (7, [.ref a1, .ref a2, .ref a3, .int (nI (k + 1))])), (a1, .inl (cI, 10, .inl (upd f1 k p0))), (a2, .inl (cI, 10, .inl (upd f2 k p1))), (a3, .inl (cI, 10, .inl (upd f3 k p2)))] := hD
  refine lv_aload_n hx hb zd_Ru_add_40 rfl (lv_at hl 0 rfl) ?_
  refine va_get (D := (dC, dI)) (ci := 7) (v := .int (nI (k + 1))) (C := zR_Ru) (T := zT_Ru) (N := 4) hx hb hts zin_Ru hown hK hP 0 rfl rfl 3 (by decide) (hts _ zw_168) (fun _ h9 => h9) rfl zd_Ru_add_41 ?_
  refine lv_iconst (v := 1) hx hb zd_Ru_add_44 (by decide) ?_
  refine lv_isub hx hb zd_Ru_add_45 ?_
  rw [nI_pred k]
  exact z_iret (S := Unit) (w1 := fun (u : Unit) => [(a0, .inr (7, [.ref a1, .ref a2, .ref a3, .int (nI (k + 1))])), (a1, .inl (cI, 10, .inl (upd f1 k p0))), (a2, .inl (cI, 10, .inl (upd f2 k p1))), (a3, .inl (cI, 10, .inl (upd f3 k p2)))]) () hx hb hr hlocks rfl hP hD hS (Nat.le_of_ble_eq_true rfl) (Nat.le_of_ble_eq_true rfl) zd_Ru_add_46
set_option maxHeartbeats 4000000 in
set_option maxRecDepth 100000 in
theorem k_Ru_touch (l : Launch) (hst : l.stackTraces = false) (dC : Nat → ClassId) (dI : Nat → Nat → Nat) (cI cZ cJ cQ : ClassId) (sz : Nat) (a0 : Nat) (a1 : Nat) (a2 : Nat) (a3 : Nat) (k : Nat) (f1 : Nat → Int32) (f2 : Nat → Int32) (f3 : Nat → Int32) (p0 : Int32) (p1 : Int32) (p2 : Int32) (hk : k ≤ 10) : Met l zy_Ru_touch zws_Ru_touch ({ frames := 0, cells := 0, slots := 0, locals := 0 }) (zPc (dC, dI) zCl (zTy cI cZ cJ cQ) [(a0, .inr (7, [.ref a1, .ref a2, .ref a3, .int (nI k)])), (a1, .inl (cI, 10, .inl f1)), (a2, .inl (cI, 10, .inl f2)), (a3, .inl (cI, 10, .inl f3))] sz [.ref a0, .int p0, .int p1, .int p2]) (zQi (dC, dI) zCl (fun (r : Int32) (u : Unit) => (r = bI (anyB k (tchC f1 f2 f3 p0 p1 p2)))) (fun (u : Unit) => [(a0, .inr (7, [.ref a1, .ref a2, .ref a3, .int (nI k)])), (a1, .inl (cI, 10, .inl f1)), (a2, .inl (cI, 10, .inl f2)), (a3, .inl (cI, 10, .inl f3))]) (va_A [(a0, .inr (7, [.ref a1, .ref a2, .ref a3, .int (nI k)])), (a1, .inl (cI, 10, .inl f1)), (a2, .inl (cI, 10, .inl f2)), (a3, .inl (cI, 10, .inl f3))] sz)) 0 0 (va_A [(a0, .inr (7, [.ref a1, .ref a2, .ref a3, .int (nI k)])), (a1, .inl (cI, 10, .inl f1)), (a2, .inl (cI, 10, .inl f2)), (a3, .inl (cI, 10, .inl f3))] sz) := by
  refine Met.ofW (cc := zc_Ru_touch) (maxL := 6) (ret := (some .boolean)) (by decide) rfl ?_
  intro p e s m args below meth c s₁ B hml hv
  obtain ⟨rfl, hsz, hP, hK, hD0, hZ⟩ := hv
  have hx := B.exec
  have hb := B.bytes
  have hr := B.returns
  have hts := fun (w : Cond) (h : w ∈ zW) => atoms_spec (ws := zws_Ru_touch) B.pre w (List.mem_cons_of_mem _ h)
  have hown : s.vm.findClass zR_Ru = some m.cls := findClass_of_methodNamed B.named
  have hlocks := B.notSynchronized
  subst hsz
  have hD := hD0.self (sz := s.heap.size)
  generalize hAe : va_A [(a0, .inr (7, [.ref a1, .ref a2, .ref a3, .int (nI k)])), (a1, .inl (cI, 10, .inl f1)), (a2, .inl (cI, 10, .inl f2)), (a3, .inl (cI, 10, .inl f3))] s.heap.size = A at hD hZ ⊢
  have hA : ∀ q : Nat, s.heap.size ≤ q → A q := fun q h => by rw [← hAe]; exact Or.inr h
  have hS : va_S A s.heap s.heap [] := va_S.rf
  have hl := lv_entry ([.ref a0, .int p0, .int p1, .int p2]) (n := 6) (Nat.le_of_ble_eq_true rfl)
  rw [lg_entry_eq]
  generalize (lg_sl ([.ref a0, .int p0, .int p1, .int p2]) ++ List.replicate (6 - (lg_sl ([.ref a0, .int p0, .int p1, .int p2])).length) Slot.unset).toArray = ls at hl ⊢
  have hl : lv_has ls 6 [(0, .ref a0), (1, .int p0), (2, .int p1), (3, .int p2)] := hl
  refine z_start hP hS (fun H locs hP hS => ?_)
  refine lv_iconst (v := 0) hx hb zd_Ru_touch_0 (by decide) ?_
  refine lv_istore (lv' := [(4, .int 0), (0, .ref a0), (1, .int p0), (2, .int p1), (3, .int p2)]) hx hb zd_Ru_touch_1 hl (by decide) rfl (fun ls hl => ?_)
  refine z_loopN (σ := Nat) (fun (fu : Nat) (x9 : Nat) H locs ls => match x9 with | i => (i + fu = k ∧ (∀ j, j < i → ¬ (tchC f1 f2 f3 p0 p1 p2) j)) ∧ va_P (dC, dI) zCl [(a0, .inr (7, [.ref a1, .ref a2, .ref a3, .int (nI k)])), (a1, .inl (cI, 10, .inl f1)), (a2, .inl (cI, 10, .inl f2)), (a3, .inl (cI, 10, .inl f3))] H ∧ va_D A [(a0, .inr (7, [.ref a1, .ref a2, .ref a3, .int (nI k)])), (a1, .inl (cI, 10, .inl f1)), (a2, .inl (cI, 10, .inl f2)), (a3, .inl (cI, 10, .inl f3))] ∧ va_S A s.heap H locs ∧ lv_has ls 6 [(0, .ref a0), (1, .int p0), (2, .int p1), (3, .int p2), (4, .int (nI i))]) (fun x9 H locs ls hI => ?_) (fun fu x9 H locs ls ih_3 hI => ?_) k 0 ⟨⟨(by first | omega | (dsimp only; omega)), lt_0⟩, z_sub hP [0, 1, 2, 3] rfl, hD.sub [0, 1, 2, 3] (by decide) rfl, hS, lv_sub hl [1, 2, 3, 4, 0] rfl⟩
  · obtain ⟨i, rfl⟩ : ∃ z, z = x9 := ⟨_, rfl⟩
    dsimp only at hI
    obtain ⟨⟨hfu, hno⟩, hP, hD, hS, hl⟩ := hI
    refine lv_iload hx hb zd_Ru_touch_3 (lv_at hl 4 rfl) ?_
    refine lv_aload_n hx hb zd_Ru_touch_5 rfl (lv_at hl 0 rfl) ?_
    refine va_get (D := (dC, dI)) (ci := 7) (v := .int (nI k)) (C := zR_Ru) (T := zT_Ru) (N := 4) hx hb hts zin_Ru hown hK hP 0 rfl rfl 3 (by decide) (hts _ zw_168) (fun _ h9 => h9) rfl zd_Ru_touch_6 ?_
    refine lv_icmp_ge (tgt := 76) hx hb zd_Ru_touch_9 (by decide) (fun _ => ?_) (fun c_1 => absurd (nI_le (by omega) (by omega)) c_1)
    refine lv_iconst (v := 0) hx hb zd_Ru_touch_76 (by decide) ?_
    exact z_zret (S := Unit) (w1 := fun (u : Unit) => [(a0, .inr (7, [.ref a1, .ref a2, .ref a3, .int (nI k)])), (a1, .inl (cI, 10, .inl f1)), (a2, .inl (cI, 10, .inl f2)), (a3, .inl (cI, 10, .inl f3))]) () hx hb hr hlocks (Or.inl rfl) (bI_f (fun ⟨j, h1, h2⟩ => hno j (by omega) h2)).symm hP hD hS (Nat.le_of_ble_eq_true rfl) (Nat.le_of_ble_eq_true rfl) zd_Ru_touch_77
  · obtain ⟨i, rfl⟩ : ∃ z, z = x9 := ⟨_, rfl⟩
    dsimp only at hI
    obtain ⟨⟨hfu, hno⟩, hP, hD, hS, hl⟩ := hI
    refine lv_iload hx hb zd_Ru_touch_3 (lv_at hl 4 rfl) ?_
    refine lv_aload_n hx hb zd_Ru_touch_5 rfl (lv_at hl 0 rfl) ?_
    refine va_get (D := (dC, dI)) (ci := 7) (v := .int (nI k)) (C := zR_Ru) (T := zT_Ru) (N := 4) hx hb hts zin_Ru hown hK hP 0 rfl rfl 3 (by decide) (hts _ zw_168) (fun _ h9 => h9) rfl zd_Ru_touch_6 ?_
    refine lv_icmp_ge (tgt := 76) hx hb zd_Ru_touch_9 (by decide) (fun c_2 => absurd c_2 (nI_ge (by omega) (by omega))) (fun _ => ?_)
    refine lv_aload_n hx hb zd_Ru_touch_12 rfl (lv_at hl 0 rfl) ?_
    refine va_get (D := (dC, dI)) (ci := 7) (v := .ref a2) (C := zR_Ru) (T := zT_Ru) (N := 4) hx hb hts zin_Ru hown hK hP 0 rfl rfl 1 (by decide) (hts _ zw_166) (fun _ h9 => h9) rfl zd_Ru_touch_13 ?_
    refine lv_iload hx hb zd_Ru_touch_16 (lv_at hl 4 rfl) ?_
    refine va_iald hx hb hK hP 2 0 rfl rfl (vp_in_nI (show i < 10 from by omega) (by decide)) zd_Ru_touch_18 ?_
    rw [show (nI i).toNatClampNeg = i from nI_clamp (by omega)]
    refine lv_iload_n hx hb zd_Ru_touch_19 rfl (lv_at hl 3 rfl) ?_
    refine lv_icmp_gt (tgt := 38) hx hb zd_Ru_touch_20 (by decide) (fun c_3 => ?_) (fun c_3 => ?_)
    · refine lv_iconst (v := 0) hx hb zd_Ru_touch_38 (by decide) ?_
      refine lv_istore (lv' := [(5, .int 0), (0, .ref a0), (1, .int p0), (2, .int p1), (3, .int p2), (4, .int (nI i))]) hx hb zd_Ru_touch_39 hl (by decide) rfl (fun ls hl => ?_)
      refine lv_iload hx hb zd_Ru_touch_41 (lv_at hl 0 rfl) ?_
      refine lv_if_eq (tgt := 70) hx hb zd_Ru_touch_43 (by decide) (fun _ => ?_) (fun c_4 => absurd (by decide : (0 : Int32) = 0) c_4)
      refine lv_iinc (v := nI (i + 1)) (lv' := [(4, .int (nI (i + 1))), (5, .int 0), (0, .ref a0), (1, .int p0), (2, .int p1), (3, .int p2)]) hx hb zd_Ru_touch_70 hl (k := 5) rfl (nI_1 i) (by decide) rfl (fun ls hl => ?_)
      refine lv_goto (tgt := 3) hx hb zd_Ru_touch_73 (by decide) ?_
      exact ih_3 (i + 1) _ _ _ ⟨⟨(by first | omega | (dsimp only; omega)), (lt_s hno (by unfold tchC; grind))⟩, z_sub hP [0, 1, 2, 3] rfl, hD.sub [0, 1, 2, 3] (by decide) rfl, hS, lv_sub hl [2, 3, 4, 5, 0] rfl⟩
    · refine lv_iload_n hx hb zd_Ru_touch_23 rfl (lv_at hl 2 rfl) ?_
      refine lv_aload_n hx hb zd_Ru_touch_24 rfl (lv_at hl 0 rfl) ?_
      refine va_get (D := (dC, dI)) (ci := 7) (v := .ref a3) (C := zR_Ru) (T := zT_Ru) (N := 4) hx hb hts zin_Ru hown hK hP 0 rfl rfl 2 (by decide) (hts _ zw_167) (fun _ h9 => h9) rfl zd_Ru_touch_25 ?_
      refine lv_iload hx hb zd_Ru_touch_28 (lv_at hl 4 rfl) ?_
      refine va_iald hx hb hK hP 3 0 rfl rfl (vp_in_nI (show i < 10 from by omega) (by decide)) zd_Ru_touch_30 ?_
      rw [show (nI i).toNatClampNeg = i from nI_clamp (by omega)]
      refine lv_icmp_gt (tgt := 38) hx hb zd_Ru_touch_31 (by decide) (fun c_5 => ?_) (fun c_5 => ?_)
      · refine lv_iconst (v := 0) hx hb zd_Ru_touch_38 (by decide) ?_
        refine lv_istore (lv' := [(5, .int 0), (0, .ref a0), (1, .int p0), (2, .int p1), (3, .int p2), (4, .int (nI i))]) hx hb zd_Ru_touch_39 hl (by decide) rfl (fun ls hl => ?_)
        refine lv_iload hx hb zd_Ru_touch_41 (lv_at hl 0 rfl) ?_
        refine lv_if_eq (tgt := 70) hx hb zd_Ru_touch_43 (by decide) (fun _ => ?_) (fun c_6 => absurd (by decide : (0 : Int32) = 0) c_6)
        refine lv_iinc (v := nI (i + 1)) (lv' := [(4, .int (nI (i + 1))), (5, .int 0), (0, .ref a0), (1, .int p0), (2, .int p1), (3, .int p2)]) hx hb zd_Ru_touch_70 hl (k := 5) rfl (nI_1 i) (by decide) rfl (fun ls hl => ?_)
        refine lv_goto (tgt := 3) hx hb zd_Ru_touch_73 (by decide) ?_
        exact ih_3 (i + 1) _ _ _ ⟨⟨(by first | omega | (dsimp only; omega)), (lt_s hno (by unfold tchC; grind))⟩, z_sub hP [0, 1, 2, 3] rfl, hD.sub [0, 1, 2, 3] (by decide) rfl, hS, lv_sub hl [2, 3, 4, 5, 0] rfl⟩
      · refine lv_iconst (v := 1) hx hb zd_Ru_touch_34 (by decide) ?_
        refine lv_goto (tgt := 39) hx hb zd_Ru_touch_35 (by decide) ?_
        refine lv_istore (lv' := [(5, .int 1), (0, .ref a0), (1, .int p0), (2, .int p1), (3, .int p2), (4, .int (nI i))]) hx hb zd_Ru_touch_39 hl (by decide) rfl (fun ls hl => ?_)
        refine lv_iload hx hb zd_Ru_touch_41 (lv_at hl 0 rfl) ?_
        refine lv_if_eq (tgt := 70) hx hb zd_Ru_touch_43 (by decide) (fun c_7 => absurd c_7 (by decide : ¬ (1 : Int32) = 0)) (fun _ => ?_)
        refine lv_aload_n hx hb zd_Ru_touch_46 rfl (lv_at hl 1 rfl) ?_
        refine va_get (D := (dC, dI)) (ci := 7) (v := .ref a1) (C := zR_Ru) (T := zT_Ru) (N := 4) hx hb hts zin_Ru hown hK hP 0 rfl rfl 0 (by decide) (hts _ zw_165) (fun _ h9 => h9) rfl zd_Ru_touch_47 ?_
        refine lv_iload hx hb zd_Ru_touch_50 (lv_at hl 5 rfl) ?_
        refine va_iald hx hb hK hP 1 0 rfl rfl (vp_in_nI (show i < 10 from by omega) (by decide)) zd_Ru_touch_52 ?_
        rw [show (nI i).toNatClampNeg = i from nI_clamp (by omega)]
        refine lv_iconst (v := -1) hx hb zd_Ru_touch_53 (by decide) ?_
        refine lv_icmp_eq (tgt := 68) hx hb zd_Ru_touch_54 (by decide) (fun c_8 => ?_) (fun c_8 => ?_)
        · refine lv_iconst (v := 1) hx hb zd_Ru_touch_68 (by decide) ?_
          exact z_zret (S := Unit) (w1 := fun (u : Unit) => [(a0, .inr (7, [.ref a1, .ref a2, .ref a3, .int (nI k)])), (a1, .inl (cI, 10, .inl f1)), (a2, .inl (cI, 10, .inl f2)), (a3, .inl (cI, 10, .inl f3))]) () hx hb hr hlocks (Or.inr rfl) (bI_t ⟨i, by omega, by unfold tchC; grind⟩).symm hP hD hS (Nat.le_of_ble_eq_true rfl) (Nat.le_of_ble_eq_true rfl) zd_Ru_touch_69
        · refine lv_aload_n hx hb zd_Ru_touch_57 rfl (lv_at hl 1 rfl) ?_
          refine va_get (D := (dC, dI)) (ci := 7) (v := .ref a1) (C := zR_Ru) (T := zT_Ru) (N := 4) hx hb hts zin_Ru hown hK hP 0 rfl rfl 0 (by decide) (hts _ zw_165) (fun _ h9 => h9) rfl zd_Ru_touch_58 ?_
          refine lv_iload hx hb zd_Ru_touch_61 (lv_at hl 5 rfl) ?_
          refine va_iald hx hb hK hP 1 0 rfl rfl (vp_in_nI (show i < 10 from by omega) (by decide)) zd_Ru_touch_63 ?_
          rw [show (nI i).toNatClampNeg = i from nI_clamp (by omega)]
          refine lv_iload_n hx hb zd_Ru_touch_64 rfl (lv_at hl 2 rfl) ?_
          refine lv_icmp_ne (tgt := 70) hx hb zd_Ru_touch_65 (by decide) (fun c_9 => ?_) (fun c_9 => ?_)
          · refine lv_iinc (v := nI (i + 1)) (lv' := [(4, .int (nI (i + 1))), (5, .int 1), (0, .ref a0), (1, .int p0), (2, .int p1), (3, .int p2)]) hx hb zd_Ru_touch_70 hl (k := 5) rfl (nI_1 i) (by decide) rfl (fun ls hl => ?_)
            refine lv_goto (tgt := 3) hx hb zd_Ru_touch_73 (by decide) ?_
            exact ih_3 (i + 1) _ _ _ ⟨⟨(by first | omega | (dsimp only; omega)), (lt_s hno (by unfold tchC; grind))⟩, z_sub hP [0, 1, 2, 3] rfl, hD.sub [0, 1, 2, 3] (by decide) rfl, hS, lv_sub hl [2, 3, 4, 5, 0] rfl⟩
          · refine lv_iconst (v := 1) hx hb zd_Ru_touch_68 (by decide) ?_
            exact z_zret (S := Unit) (w1 := fun (u : Unit) => [(a0, .inr (7, [.ref a1, .ref a2, .ref a3, .int (nI k)])), (a1, .inl (cI, 10, .inl f1)), (a2, .inl (cI, 10, .inl f2)), (a3, .inl (cI, 10, .inl f3))]) () hx hb hr hlocks (Or.inr rfl) (bI_t ⟨i, by omega, by unfold tchC; grind⟩).symm hP hD hS (Nat.le_of_ble_eq_true rfl) (Nat.le_of_ble_eq_true rfl) zd_Ru_touch_69
set_option maxHeartbeats 4000000 in
set_option maxRecDepth 100000 in
theorem k_Cl_hold (l : Launch) (hst : l.stackTraces = false) (dC : Nat → ClassId) (dI : Nat → Nat → Nat) (cI cZ cJ cQ : ClassId) (sz : Nat) (a0 : Nat) (a1 : Nat) (a2 : Nat) (a3 : Nat) (k : Nat) (f1 : Nat → Int32) (f2 : Nat → Int32) (f3 : Nat → Int32) (p0 : Int32) (p1 : Int32) (hk : k ≤ 30) : Met l zy_Cl_hold zws_Cl_hold ({ frames := 0, cells := 0, slots := 0, locals := 0 }) (zPc (dC, dI) zCl (zTy cI cZ cJ cQ) [(a0, .inr (1, [.ref a1, .ref a2, .ref a3, .int (nI k)])), (a1, .inl (cI, 30, .inl f1)), (a2, .inl (cI, 30, .inl f2)), (a3, .inl (cI, 30, .inl f3))] sz [.ref a0, .int p0, .int p1]) (zQi (dC, dI) zCl (fun (r : Int32) (u : Unit) => (r = bI (anyB k (hldC f1 f2 f3 p0 p1)))) (fun (u : Unit) => [(a0, .inr (1, [.ref a1, .ref a2, .ref a3, .int (nI k)])), (a1, .inl (cI, 30, .inl f1)), (a2, .inl (cI, 30, .inl f2)), (a3, .inl (cI, 30, .inl f3))]) (va_A [(a0, .inr (1, [.ref a1, .ref a2, .ref a3, .int (nI k)])), (a1, .inl (cI, 30, .inl f1)), (a2, .inl (cI, 30, .inl f2)), (a3, .inl (cI, 30, .inl f3))] sz)) 0 0 (va_A [(a0, .inr (1, [.ref a1, .ref a2, .ref a3, .int (nI k)])), (a1, .inl (cI, 30, .inl f1)), (a2, .inl (cI, 30, .inl f2)), (a3, .inl (cI, 30, .inl f3))] sz) := by
  refine Met.ofW (cc := zc_Cl_hold) (maxL := 5) (ret := (some .boolean)) (by decide) rfl ?_
  intro p e s m args below meth c s₁ B hml hv
  obtain ⟨rfl, hsz, hP, hK, hD0, hZ⟩ := hv
  have hx := B.exec
  have hb := B.bytes
  have hr := B.returns
  have hts := fun (w : Cond) (h : w ∈ zW) => atoms_spec (ws := zws_Cl_hold) B.pre w (List.mem_cons_of_mem _ h)
  have hown : s.vm.findClass zR_Cl = some m.cls := findClass_of_methodNamed B.named
  have hlocks := B.notSynchronized
  subst hsz
  have hD := hD0.self (sz := s.heap.size)
  generalize hAe : va_A [(a0, .inr (1, [.ref a1, .ref a2, .ref a3, .int (nI k)])), (a1, .inl (cI, 30, .inl f1)), (a2, .inl (cI, 30, .inl f2)), (a3, .inl (cI, 30, .inl f3))] s.heap.size = A at hD hZ ⊢
  have hA : ∀ q : Nat, s.heap.size ≤ q → A q := fun q h => by rw [← hAe]; exact Or.inr h
  have hS : va_S A s.heap s.heap [] := va_S.rf
  have hl := lv_entry ([.ref a0, .int p0, .int p1]) (n := 5) (Nat.le_of_ble_eq_true rfl)
  rw [lg_entry_eq]
  generalize (lg_sl ([.ref a0, .int p0, .int p1]) ++ List.replicate (5 - (lg_sl ([.ref a0, .int p0, .int p1])).length) Slot.unset).toArray = ls at hl ⊢
  have hl : lv_has ls 5 [(0, .ref a0), (1, .int p0), (2, .int p1)] := hl
  refine z_start hP hS (fun H locs hP hS => ?_)
  refine lv_iconst (v := 0) hx hb zd_Cl_hold_0 (by decide) ?_
  refine lv_istore_n (lv' := [(3, .int 0), (0, .ref a0), (1, .int p0), (2, .int p1)]) hx hb zd_Cl_hold_1 rfl hl (by decide) rfl (fun ls hl => ?_)
  refine z_loopN (σ := Nat) (fun (fu : Nat) (x9 : Nat) H locs ls => match x9 with | i => (i + fu = k ∧ (∀ j, j < i → ¬ (hldC f1 f2 f3 p0 p1) j)) ∧ va_P (dC, dI) zCl [(a0, .inr (1, [.ref a1, .ref a2, .ref a3, .int (nI k)])), (a1, .inl (cI, 30, .inl f1)), (a2, .inl (cI, 30, .inl f2)), (a3, .inl (cI, 30, .inl f3))] H ∧ va_D A [(a0, .inr (1, [.ref a1, .ref a2, .ref a3, .int (nI k)])), (a1, .inl (cI, 30, .inl f1)), (a2, .inl (cI, 30, .inl f2)), (a3, .inl (cI, 30, .inl f3))] ∧ va_S A s.heap H locs ∧ lv_has ls 5 [(0, .ref a0), (1, .int p0), (2, .int p1), (3, .int (nI i))]) (fun x9 H locs ls hI => ?_) (fun fu x9 H locs ls ih_2 hI => ?_) k 0 ⟨⟨(by first | omega | (dsimp only; omega)), lt_0⟩, z_sub hP [0, 1, 2, 3] rfl, hD.sub [0, 1, 2, 3] (by decide) rfl, hS, lv_sub hl [1, 2, 3, 0] rfl⟩
  · obtain ⟨i, rfl⟩ : ∃ z, z = x9 := ⟨_, rfl⟩
    dsimp only at hI
    obtain ⟨⟨hfu, hno⟩, hP, hD, hS, hl⟩ := hI
    refine lv_iload_n hx hb zd_Cl_hold_2 rfl (lv_at hl 3 rfl) ?_
    refine lv_aload_n hx hb zd_Cl_hold_3 rfl (lv_at hl 0 rfl) ?_
    refine va_get (D := (dC, dI)) (ci := 1) (v := .int (nI k)) (C := zR_Cl) (T := zT_Cl) (N := 4) hx hb hts zin_Cl hown hK hP 0 rfl rfl 3 (by decide) (hts _ zw_190) (fun _ h9 => h9) rfl zd_Cl_hold_4 ?_
    refine lv_icmp_ge (tgt := 70) hx hb zd_Cl_hold_7 (by decide) (fun _ => ?_) (fun c_1 => absurd (nI_le (by omega) (by omega)) c_1)
    refine lv_iconst (v := 0) hx hb zd_Cl_hold_70 (by decide) ?_
    exact z_zret (S := Unit) (w1 := fun (u : Unit) => [(a0, .inr (1, [.ref a1, .ref a2, .ref a3, .int (nI k)])), (a1, .inl (cI, 30, .inl f1)), (a2, .inl (cI, 30, .inl f2)), (a3, .inl (cI, 30, .inl f3))]) () hx hb hr hlocks (Or.inl rfl) (bI_f (fun ⟨j, h1, h2⟩ => hno j (by omega) h2)).symm hP hD hS (Nat.le_of_ble_eq_true rfl) (Nat.le_of_ble_eq_true rfl) zd_Cl_hold_71
  · obtain ⟨i, rfl⟩ : ∃ z, z = x9 := ⟨_, rfl⟩
    dsimp only at hI
    obtain ⟨⟨hfu, hno⟩, hP, hD, hS, hl⟩ := hI
    refine lv_iload_n hx hb zd_Cl_hold_2 rfl (lv_at hl 3 rfl) ?_
    refine lv_aload_n hx hb zd_Cl_hold_3 rfl (lv_at hl 0 rfl) ?_
    refine va_get (D := (dC, dI)) (ci := 1) (v := .int (nI k)) (C := zR_Cl) (T := zT_Cl) (N := 4) hx hb hts zin_Cl hown hK hP 0 rfl rfl 3 (by decide) (hts _ zw_190) (fun _ h9 => h9) rfl zd_Cl_hold_4 ?_
    refine lv_icmp_ge (tgt := 70) hx hb zd_Cl_hold_7 (by decide) (fun c_2 => absurd c_2 (nI_ge (by omega) (by omega))) (fun _ => ?_)
    refine lv_aload_n hx hb zd_Cl_hold_10 rfl (lv_at hl 0 rfl) ?_
    refine va_get (D := (dC, dI)) (ci := 1) (v := .ref a3) (C := zR_Cl) (T := zT_Cl) (N := 4) hx hb hts zin_Cl hown hK hP 0 rfl rfl 2 (by decide) (hts _ zw_188) (fun _ h9 => h9) rfl zd_Cl_hold_11 ?_
    refine lv_iload_n hx hb zd_Cl_hold_14 rfl (lv_at hl 3 rfl) ?_
    refine va_iald hx hb hK hP 3 0 rfl rfl (vp_in_nI (show i < 30 from by omega) (by decide)) zd_Cl_hold_15 ?_
    rw [show (nI i).toNatClampNeg = i from nI_clamp (by omega)]
    refine lv_iconst (v := -1) hx hb zd_Cl_hold_16 (by decide) ?_
    refine lv_icmp_eq (tgt := 30) hx hb zd_Cl_hold_17 (by decide) (fun c_3 => ?_) (fun c_3 => ?_)
    · refine lv_iconst (v := 1) hx hb zd_Cl_hold_30 (by decide) ?_
      refine lv_goto (tgt := 35) hx hb zd_Cl_hold_31 (by decide) ?_
      refine lv_istore (lv' := [(4, .int 1), (0, .ref a0), (1, .int p0), (2, .int p1), (3, .int (nI i))]) hx hb zd_Cl_hold_35 hl (by decide) rfl (fun ls hl => ?_)
      refine lv_aload_n hx hb zd_Cl_hold_37 rfl (lv_at hl 1 rfl) ?_
      refine va_get (D := (dC, dI)) (ci := 1) (v := .ref a1) (C := zR_Cl) (T := zT_Cl) (N := 4) hx hb hts zin_Cl hown hK hP 0 rfl rfl 0 (by decide) (hts _ zw_185) (fun _ h9 => h9) rfl zd_Cl_hold_38 ?_
      refine lv_iload_n hx hb zd_Cl_hold_41 rfl (lv_at hl 4 rfl) ?_
      refine va_iald hx hb hK hP 1 0 rfl rfl (vp_in_nI (show i < 30 from by omega) (by decide)) zd_Cl_hold_42 ?_
      rw [show (nI i).toNatClampNeg = i from nI_clamp (by omega)]
      refine lv_iload_n hx hb zd_Cl_hold_43 rfl (lv_at hl 2 rfl) ?_
      refine lv_icmp_ne (tgt := 64) hx hb zd_Cl_hold_44 (by decide) (fun c_4 => ?_) (fun c_4 => ?_)
      · refine lv_iinc (v := nI (i + 1)) (lv' := [(3, .int (nI (i + 1))), (4, .int 1), (0, .ref a0), (1, .int p0), (2, .int p1)]) hx hb zd_Cl_hold_64 hl (k := 4) rfl (nI_1 i) (by decide) rfl (fun ls hl => ?_)
        refine lv_goto (tgt := 2) hx hb zd_Cl_hold_67 (by decide) ?_
        exact ih_2 (i + 1) _ _ _ ⟨⟨(by first | omega | (dsimp only; omega)), (lt_s hno (by unfold hldC; grind))⟩, z_sub hP [0, 1, 2, 3] rfl, hD.sub [0, 1, 2, 3] (by decide) rfl, hS, lv_sub hl [2, 3, 4, 0] rfl⟩
      · refine lv_aload_n hx hb zd_Cl_hold_47 rfl (lv_at hl 1 rfl) ?_
        refine va_get (D := (dC, dI)) (ci := 1) (v := .ref a2) (C := zR_Cl) (T := zT_Cl) (N := 4) hx hb hts zin_Cl hown hK hP 0 rfl rfl 1 (by decide) (hts _ zw_186) (fun _ h9 => h9) rfl zd_Cl_hold_48 ?_
        refine lv_iload_n hx hb zd_Cl_hold_51 rfl (lv_at hl 4 rfl) ?_
        refine va_iald hx hb hK hP 2 0 rfl rfl (vp_in_nI (show i < 30 from by omega) (by decide)) zd_Cl_hold_52 ?_
        rw [show (nI i).toNatClampNeg = i from nI_clamp (by omega)]
        refine lv_iload_n hx hb zd_Cl_hold_53 rfl (lv_at hl 3 rfl) ?_
        refine lv_icmp_gt (tgt := 64) hx hb zd_Cl_hold_54 (by decide) (fun c_5 => ?_) (fun c_5 => ?_)
        · refine lv_iinc (v := nI (i + 1)) (lv' := [(3, .int (nI (i + 1))), (4, .int 1), (0, .ref a0), (1, .int p0), (2, .int p1)]) hx hb zd_Cl_hold_64 hl (k := 4) rfl (nI_1 i) (by decide) rfl (fun ls hl => ?_)
          refine lv_goto (tgt := 2) hx hb zd_Cl_hold_67 (by decide) ?_
          exact ih_2 (i + 1) _ _ _ ⟨⟨(by first | omega | (dsimp only; omega)), (lt_s hno (by unfold hldC; grind))⟩, z_sub hP [0, 1, 2, 3] rfl, hD.sub [0, 1, 2, 3] (by decide) rfl, hS, lv_sub hl [2, 3, 4, 0] rfl⟩
        · refine lv_iload hx hb zd_Cl_hold_57 (lv_at hl 0 rfl) ?_
          refine lv_if_eq (tgt := 64) hx hb zd_Cl_hold_59 (by decide) (fun c_6 => absurd c_6 (by decide : ¬ (1 : Int32) = 0)) (fun _ => ?_)
          refine lv_iconst (v := 1) hx hb zd_Cl_hold_62 (by decide) ?_
          exact z_zret (S := Unit) (w1 := fun (u : Unit) => [(a0, .inr (1, [.ref a1, .ref a2, .ref a3, .int (nI k)])), (a1, .inl (cI, 30, .inl f1)), (a2, .inl (cI, 30, .inl f2)), (a3, .inl (cI, 30, .inl f3))]) () hx hb hr hlocks (Or.inr rfl) (bI_t ⟨i, by omega, by unfold hldC; grind⟩).symm hP hD hS (Nat.le_of_ble_eq_true rfl) (Nat.le_of_ble_eq_true rfl) zd_Cl_hold_63
    · refine lv_iload_n hx hb zd_Cl_hold_20 rfl (lv_at hl 2 rfl) ?_
      refine lv_aload_n hx hb zd_Cl_hold_21 rfl (lv_at hl 0 rfl) ?_
      refine va_get (D := (dC, dI)) (ci := 1) (v := .ref a3) (C := zR_Cl) (T := zT_Cl) (N := 4) hx hb hts zin_Cl hown hK hP 0 rfl rfl 2 (by decide) (hts _ zw_188) (fun _ h9 => h9) rfl zd_Cl_hold_22 ?_
      refine lv_iload_n hx hb zd_Cl_hold_25 rfl (lv_at hl 3 rfl) ?_
      refine va_iald hx hb hK hP 3 0 rfl rfl (vp_in_nI (show i < 30 from by omega) (by decide)) zd_Cl_hold_26 ?_
      rw [show (nI i).toNatClampNeg = i from nI_clamp (by omega)]
      refine lv_icmp_ge (tgt := 34) hx hb zd_Cl_hold_27 (by decide) (fun c_7 => ?_) (fun c_7 => ?_)
      · refine lv_iconst (v := 0) hx hb zd_Cl_hold_34 (by decide) ?_
        refine lv_istore (lv' := [(4, .int 0), (0, .ref a0), (1, .int p0), (2, .int p1), (3, .int (nI i))]) hx hb zd_Cl_hold_35 hl (by decide) rfl (fun ls hl => ?_)
        refine lv_aload_n hx hb zd_Cl_hold_37 rfl (lv_at hl 1 rfl) ?_
        refine va_get (D := (dC, dI)) (ci := 1) (v := .ref a1) (C := zR_Cl) (T := zT_Cl) (N := 4) hx hb hts zin_Cl hown hK hP 0 rfl rfl 0 (by decide) (hts _ zw_185) (fun _ h9 => h9) rfl zd_Cl_hold_38 ?_
        refine lv_iload_n hx hb zd_Cl_hold_41 rfl (lv_at hl 4 rfl) ?_
        refine va_iald hx hb hK hP 1 0 rfl rfl (vp_in_nI (show i < 30 from by omega) (by decide)) zd_Cl_hold_42 ?_
        rw [show (nI i).toNatClampNeg = i from nI_clamp (by omega)]
        refine lv_iload_n hx hb zd_Cl_hold_43 rfl (lv_at hl 2 rfl) ?_
        refine lv_icmp_ne (tgt := 64) hx hb zd_Cl_hold_44 (by decide) (fun c_8 => ?_) (fun c_8 => ?_)
        · refine lv_iinc (v := nI (i + 1)) (lv' := [(3, .int (nI (i + 1))), (4, .int 0), (0, .ref a0), (1, .int p0), (2, .int p1)]) hx hb zd_Cl_hold_64 hl (k := 4) rfl (nI_1 i) (by decide) rfl (fun ls hl => ?_)
          refine lv_goto (tgt := 2) hx hb zd_Cl_hold_67 (by decide) ?_
          exact ih_2 (i + 1) _ _ _ ⟨⟨(by first | omega | (dsimp only; omega)), (lt_s hno (by unfold hldC; grind))⟩, z_sub hP [0, 1, 2, 3] rfl, hD.sub [0, 1, 2, 3] (by decide) rfl, hS, lv_sub hl [2, 3, 4, 0] rfl⟩
        · refine lv_aload_n hx hb zd_Cl_hold_47 rfl (lv_at hl 1 rfl) ?_
          refine va_get (D := (dC, dI)) (ci := 1) (v := .ref a2) (C := zR_Cl) (T := zT_Cl) (N := 4) hx hb hts zin_Cl hown hK hP 0 rfl rfl 1 (by decide) (hts _ zw_186) (fun _ h9 => h9) rfl zd_Cl_hold_48 ?_
          refine lv_iload_n hx hb zd_Cl_hold_51 rfl (lv_at hl 4 rfl) ?_
          refine va_iald hx hb hK hP 2 0 rfl rfl (vp_in_nI (show i < 30 from by omega) (by decide)) zd_Cl_hold_52 ?_
          rw [show (nI i).toNatClampNeg = i from nI_clamp (by omega)]
          refine lv_iload_n hx hb zd_Cl_hold_53 rfl (lv_at hl 3 rfl) ?_
          refine lv_icmp_gt (tgt := 64) hx hb zd_Cl_hold_54 (by decide) (fun c_9 => ?_) (fun c_9 => ?_)
          · refine lv_iinc (v := nI (i + 1)) (lv' := [(3, .int (nI (i + 1))), (4, .int 0), (0, .ref a0), (1, .int p0), (2, .int p1)]) hx hb zd_Cl_hold_64 hl (k := 4) rfl (nI_1 i) (by decide) rfl (fun ls hl => ?_)
            refine lv_goto (tgt := 2) hx hb zd_Cl_hold_67 (by decide) ?_
            exact ih_2 (i + 1) _ _ _ ⟨⟨(by first | omega | (dsimp only; omega)), (lt_s hno (by unfold hldC; grind))⟩, z_sub hP [0, 1, 2, 3] rfl, hD.sub [0, 1, 2, 3] (by decide) rfl, hS, lv_sub hl [2, 3, 4, 0] rfl⟩
          · refine lv_iload hx hb zd_Cl_hold_57 (lv_at hl 0 rfl) ?_
            refine lv_if_eq (tgt := 64) hx hb zd_Cl_hold_59 (by decide) (fun _ => ?_) (fun c_10 => absurd (by decide : (0 : Int32) = 0) c_10)
            refine lv_iinc (v := nI (i + 1)) (lv' := [(3, .int (nI (i + 1))), (4, .int 0), (0, .ref a0), (1, .int p0), (2, .int p1)]) hx hb zd_Cl_hold_64 hl (k := 4) rfl (nI_1 i) (by decide) rfl (fun ls hl => ?_)
            refine lv_goto (tgt := 2) hx hb zd_Cl_hold_67 (by decide) ?_
            exact ih_2 (i + 1) _ _ _ ⟨⟨(by first | omega | (dsimp only; omega)), (lt_s hno (by unfold hldC; grind))⟩, z_sub hP [0, 1, 2, 3] rfl, hD.sub [0, 1, 2, 3] (by decide) rfl, hS, lv_sub hl [2, 3, 4, 0] rfl⟩
      · refine lv_iconst (v := 1) hx hb zd_Cl_hold_30 (by decide) ?_
        refine lv_goto (tgt := 35) hx hb zd_Cl_hold_31 (by decide) ?_
        refine lv_istore (lv' := [(4, .int 1), (0, .ref a0), (1, .int p0), (2, .int p1), (3, .int (nI i))]) hx hb zd_Cl_hold_35 hl (by decide) rfl (fun ls hl => ?_)
        refine lv_aload_n hx hb zd_Cl_hold_37 rfl (lv_at hl 1 rfl) ?_
        refine va_get (D := (dC, dI)) (ci := 1) (v := .ref a1) (C := zR_Cl) (T := zT_Cl) (N := 4) hx hb hts zin_Cl hown hK hP 0 rfl rfl 0 (by decide) (hts _ zw_185) (fun _ h9 => h9) rfl zd_Cl_hold_38 ?_
        refine lv_iload_n hx hb zd_Cl_hold_41 rfl (lv_at hl 4 rfl) ?_
        refine va_iald hx hb hK hP 1 0 rfl rfl (vp_in_nI (show i < 30 from by omega) (by decide)) zd_Cl_hold_42 ?_
        rw [show (nI i).toNatClampNeg = i from nI_clamp (by omega)]
        refine lv_iload_n hx hb zd_Cl_hold_43 rfl (lv_at hl 2 rfl) ?_
        refine lv_icmp_ne (tgt := 64) hx hb zd_Cl_hold_44 (by decide) (fun c_11 => ?_) (fun c_11 => ?_)
        · refine lv_iinc (v := nI (i + 1)) (lv' := [(3, .int (nI (i + 1))), (4, .int 1), (0, .ref a0), (1, .int p0), (2, .int p1)]) hx hb zd_Cl_hold_64 hl (k := 4) rfl (nI_1 i) (by decide) rfl (fun ls hl => ?_)
          refine lv_goto (tgt := 2) hx hb zd_Cl_hold_67 (by decide) ?_
          exact ih_2 (i + 1) _ _ _ ⟨⟨(by first | omega | (dsimp only; omega)), (lt_s hno (by unfold hldC; grind))⟩, z_sub hP [0, 1, 2, 3] rfl, hD.sub [0, 1, 2, 3] (by decide) rfl, hS, lv_sub hl [2, 3, 4, 0] rfl⟩
        · refine lv_aload_n hx hb zd_Cl_hold_47 rfl (lv_at hl 1 rfl) ?_
          refine va_get (D := (dC, dI)) (ci := 1) (v := .ref a2) (C := zR_Cl) (T := zT_Cl) (N := 4) hx hb hts zin_Cl hown hK hP 0 rfl rfl 1 (by decide) (hts _ zw_186) (fun _ h9 => h9) rfl zd_Cl_hold_48 ?_
          refine lv_iload_n hx hb zd_Cl_hold_51 rfl (lv_at hl 4 rfl) ?_
          refine va_iald hx hb hK hP 2 0 rfl rfl (vp_in_nI (show i < 30 from by omega) (by decide)) zd_Cl_hold_52 ?_
          rw [show (nI i).toNatClampNeg = i from nI_clamp (by omega)]
          refine lv_iload_n hx hb zd_Cl_hold_53 rfl (lv_at hl 3 rfl) ?_
          refine lv_icmp_gt (tgt := 64) hx hb zd_Cl_hold_54 (by decide) (fun c_12 => ?_) (fun c_12 => ?_)
          · refine lv_iinc (v := nI (i + 1)) (lv' := [(3, .int (nI (i + 1))), (4, .int 1), (0, .ref a0), (1, .int p0), (2, .int p1)]) hx hb zd_Cl_hold_64 hl (k := 4) rfl (nI_1 i) (by decide) rfl (fun ls hl => ?_)
            refine lv_goto (tgt := 2) hx hb zd_Cl_hold_67 (by decide) ?_
            exact ih_2 (i + 1) _ _ _ ⟨⟨(by first | omega | (dsimp only; omega)), (lt_s hno (by unfold hldC; grind))⟩, z_sub hP [0, 1, 2, 3] rfl, hD.sub [0, 1, 2, 3] (by decide) rfl, hS, lv_sub hl [2, 3, 4, 0] rfl⟩
          · refine lv_iload hx hb zd_Cl_hold_57 (lv_at hl 0 rfl) ?_
            refine lv_if_eq (tgt := 64) hx hb zd_Cl_hold_59 (by decide) (fun c_13 => absurd c_13 (by decide : ¬ (1 : Int32) = 0)) (fun _ => ?_)
            refine lv_iconst (v := 1) hx hb zd_Cl_hold_62 (by decide) ?_
            exact z_zret (S := Unit) (w1 := fun (u : Unit) => [(a0, .inr (1, [.ref a1, .ref a2, .ref a3, .int (nI k)])), (a1, .inl (cI, 30, .inl f1)), (a2, .inl (cI, 30, .inl f2)), (a3, .inl (cI, 30, .inl f3))]) () hx hb hr hlocks (Or.inr rfl) (bI_t ⟨i, by omega, by unfold hldC; grind⟩).symm hP hD hS (Nat.le_of_ble_eq_true rfl) (Nat.le_of_ble_eq_true rfl) zd_Cl_hold_63
set_option maxHeartbeats 4000000 in
set_option maxRecDepth 100000 in
theorem k_Li_allow (l : Launch) (hst : l.stackTraces = false) (dC : Nat → ClassId) (dI : Nat → Nat → Nat) (cI cZ cJ cQ : ClassId) (sz : Nat) (a0 : Nat) (a1 : Nat) (a2 : Nat) (a3 : Nat) (a4 : Nat) (k : Nat) (f1 : Nat → Int32) (f2 : Nat → Int32) (f3 : Nat → Int32) (f4 : Nat → Int32) (p0 : Int32) (p1 : Int32) (p2 : Int32) (hk : k ≤ 40) : Met l zy_Li_allow zws_Li_allow ({ frames := 0, cells := 0, slots := 0, locals := 0 }) (zPc (dC, dI) zCl (zTy cI cZ cJ cQ) [(a0, .inr (3, [.ref a1, .ref a2, .ref a3, .ref a4, .int (nI k)])), (a1, .inl (cI, 40, .inl f1)), (a2, .inl (cI, 40, .inl f2)), (a3, .inl (cI, 40, .inl f3)), (a4, .inl (cI, 40, .inl f4))] sz [.ref a0, .int p0, .int p1, .int p2]) (zQi (dC, dI) zCl (fun (r : Int32) (u : Unit) => (r = bI (anyB k (alwC f1 f2 f3 f4 p0 p1 p2)))) (fun (u : Unit) => [(a0, .inr (3, [.ref a1, .ref a2, .ref a3, .ref a4, .int (nI k)])), (a1, .inl (cI, 40, .inl f1)), (a2, .inl (cI, 40, .inl f2)), (a3, .inl (cI, 40, .inl f3)), (a4, .inl (cI, 40, .inl f4))]) (va_A [(a0, .inr (3, [.ref a1, .ref a2, .ref a3, .ref a4, .int (nI k)])), (a1, .inl (cI, 40, .inl f1)), (a2, .inl (cI, 40, .inl f2)), (a3, .inl (cI, 40, .inl f3)), (a4, .inl (cI, 40, .inl f4))] sz)) 0 0 (va_A [(a0, .inr (3, [.ref a1, .ref a2, .ref a3, .ref a4, .int (nI k)])), (a1, .inl (cI, 40, .inl f1)), (a2, .inl (cI, 40, .inl f2)), (a3, .inl (cI, 40, .inl f3)), (a4, .inl (cI, 40, .inl f4))] sz) := by
  refine Met.ofW (cc := zc_Li_allow) (maxL := 6) (ret := (some .boolean)) (by decide) rfl ?_
  intro p e s m args below meth c s₁ B hml hv
  obtain ⟨rfl, hsz, hP, hK, hD0, hZ⟩ := hv
  have hx := B.exec
  have hb := B.bytes
  have hr := B.returns
  have hts := fun (w : Cond) (h : w ∈ zW) => atoms_spec (ws := zws_Li_allow) B.pre w (List.mem_cons_of_mem _ h)
  have hown : s.vm.findClass zR_Li = some m.cls := findClass_of_methodNamed B.named
  have hlocks := B.notSynchronized
  subst hsz
  have hD := hD0.self (sz := s.heap.size)
  generalize hAe : va_A [(a0, .inr (3, [.ref a1, .ref a2, .ref a3, .ref a4, .int (nI k)])), (a1, .inl (cI, 40, .inl f1)), (a2, .inl (cI, 40, .inl f2)), (a3, .inl (cI, 40, .inl f3)), (a4, .inl (cI, 40, .inl f4))] s.heap.size = A at hD hZ ⊢
  have hA : ∀ q : Nat, s.heap.size ≤ q → A q := fun q h => by rw [← hAe]; exact Or.inr h
  have hS : va_S A s.heap s.heap [] := va_S.rf
  have hl := lv_entry ([.ref a0, .int p0, .int p1, .int p2]) (n := 6) (Nat.le_of_ble_eq_true rfl)
  rw [lg_entry_eq]
  generalize (lg_sl ([.ref a0, .int p0, .int p1, .int p2]) ++ List.replicate (6 - (lg_sl ([.ref a0, .int p0, .int p1, .int p2])).length) Slot.unset).toArray = ls at hl ⊢
  have hl : lv_has ls 6 [(0, .ref a0), (1, .int p0), (2, .int p1), (3, .int p2)] := hl
  refine z_start hP hS (fun H locs hP hS => ?_)
  refine lv_iconst (v := 0) hx hb zd_Li_allow_0 (by decide) ?_
  refine lv_istore (lv' := [(4, .int 0), (0, .ref a0), (1, .int p0), (2, .int p1), (3, .int p2)]) hx hb zd_Li_allow_1 hl (by decide) rfl (fun ls hl => ?_)
  refine z_loopN (σ := Nat) (fun (fu : Nat) (x9 : Nat) H locs ls => match x9 with | i => (i + fu = k ∧ (∀ j, j < i → ¬ (alwC f1 f2 f3 f4 p0 p1 p2) j)) ∧ va_P (dC, dI) zCl [(a0, .inr (3, [.ref a1, .ref a2, .ref a3, .ref a4, .int (nI k)])), (a1, .inl (cI, 40, .inl f1)), (a2, .inl (cI, 40, .inl f2)), (a3, .inl (cI, 40, .inl f3)), (a4, .inl (cI, 40, .inl f4))] H ∧ va_D A [(a0, .inr (3, [.ref a1, .ref a2, .ref a3, .ref a4, .int (nI k)])), (a1, .inl (cI, 40, .inl f1)), (a2, .inl (cI, 40, .inl f2)), (a3, .inl (cI, 40, .inl f3)), (a4, .inl (cI, 40, .inl f4))] ∧ va_S A s.heap H locs ∧ lv_has ls 6 [(0, .ref a0), (1, .int p0), (2, .int p1), (3, .int p2), (4, .int (nI i))]) (fun x9 H locs ls hI => ?_) (fun fu x9 H locs ls ih_3 hI => ?_) k 0 ⟨⟨(by first | omega | (dsimp only; omega)), lt_0⟩, z_sub hP [0, 1, 2, 3, 4] rfl, hD.sub [0, 1, 2, 3, 4] (by decide) rfl, hS, lv_sub hl [1, 2, 3, 4, 0] rfl⟩
  · obtain ⟨i, rfl⟩ : ∃ z, z = x9 := ⟨_, rfl⟩
    dsimp only at hI
    obtain ⟨⟨hfu, hno⟩, hP, hD, hS, hl⟩ := hI
    refine lv_iload hx hb zd_Li_allow_3 (lv_at hl 4 rfl) ?_
    refine lv_aload_n hx hb zd_Li_allow_5 rfl (lv_at hl 0 rfl) ?_
    refine va_get (D := (dC, dI)) (ci := 3) (v := .int (nI k)) (C := zR_Li) (T := zT_Li) (N := 5) hx hb hts zin_Li hown hK hP 0 rfl rfl 4 (by decide) (hts _ zw_233) (fun _ h9 => h9) rfl zd_Li_allow_6 ?_
    refine lv_icmp_ge (tgt := 76) hx hb zd_Li_allow_9 (by decide) (fun _ => ?_) (fun c_1 => absurd (nI_le (by omega) (by omega)) c_1)
    refine lv_iconst (v := 0) hx hb zd_Li_allow_76 (by decide) ?_
    exact z_zret (S := Unit) (w1 := fun (u : Unit) => [(a0, .inr (3, [.ref a1, .ref a2, .ref a3, .ref a4, .int (nI k)])), (a1, .inl (cI, 40, .inl f1)), (a2, .inl (cI, 40, .inl f2)), (a3, .inl (cI, 40, .inl f3)), (a4, .inl (cI, 40, .inl f4))]) () hx hb hr hlocks (Or.inl rfl) (bI_f (fun ⟨j, h1, h2⟩ => hno j (by omega) h2)).symm hP hD hS (Nat.le_of_ble_eq_true rfl) (Nat.le_of_ble_eq_true rfl) zd_Li_allow_77
  · obtain ⟨i, rfl⟩ : ∃ z, z = x9 := ⟨_, rfl⟩
    dsimp only at hI
    obtain ⟨⟨hfu, hno⟩, hP, hD, hS, hl⟩ := hI
    refine lv_iload hx hb zd_Li_allow_3 (lv_at hl 4 rfl) ?_
    refine lv_aload_n hx hb zd_Li_allow_5 rfl (lv_at hl 0 rfl) ?_
    refine va_get (D := (dC, dI)) (ci := 3) (v := .int (nI k)) (C := zR_Li) (T := zT_Li) (N := 5) hx hb hts zin_Li hown hK hP 0 rfl rfl 4 (by decide) (hts _ zw_233) (fun _ h9 => h9) rfl zd_Li_allow_6 ?_
    refine lv_icmp_ge (tgt := 76) hx hb zd_Li_allow_9 (by decide) (fun c_2 => absurd c_2 (nI_ge (by omega) (by omega))) (fun _ => ?_)
    refine lv_aload_n hx hb zd_Li_allow_12 rfl (lv_at hl 0 rfl) ?_
    refine va_get (D := (dC, dI)) (ci := 3) (v := .ref a1) (C := zR_Li) (T := zT_Li) (N := 5) hx hb hts zin_Li hown hK hP 0 rfl rfl 0 (by decide) (hts _ zw_229) (fun _ h9 => h9) rfl zd_Li_allow_13 ?_
    refine lv_iload hx hb zd_Li_allow_16 (lv_at hl 4 rfl) ?_
    refine va_iald hx hb hK hP 1 0 rfl rfl (vp_in_nI (show i < 40 from by omega) (by decide)) zd_Li_allow_18 ?_
    rw [show (nI i).toNatClampNeg = i from nI_clamp (by omega)]
    refine lv_iload_n hx hb zd_Li_allow_19 rfl (lv_at hl 1 rfl) ?_
    refine lv_icmp_ne (tgt := 38) hx hb zd_Li_allow_20 (by decide) (fun c_3 => ?_) (fun c_3 => ?_)
    · refine lv_iconst (v := 0) hx hb zd_Li_allow_38 (by decide) ?_
      refine lv_istore (lv' := [(5, .int 0), (0, .ref a0), (1, .int p0), (2, .int p1), (3, .int p2), (4, .int (nI i))]) hx hb zd_Li_allow_39 hl (by decide) rfl (fun ls hl => ?_)
      refine lv_iload hx hb zd_Li_allow_41 (lv_at hl 0 rfl) ?_
      refine lv_if_eq (tgt := 70) hx hb zd_Li_allow_43 (by decide) (fun _ => ?_) (fun c_4 => absurd (by decide : (0 : Int32) = 0) c_4)
      refine lv_iinc (v := nI (i + 1)) (lv' := [(4, .int (nI (i + 1))), (5, .int 0), (0, .ref a0), (1, .int p0), (2, .int p1), (3, .int p2)]) hx hb zd_Li_allow_70 hl (k := 5) rfl (nI_1 i) (by decide) rfl (fun ls hl => ?_)
      refine lv_goto (tgt := 3) hx hb zd_Li_allow_73 (by decide) ?_
      exact ih_3 (i + 1) _ _ _ ⟨⟨(by first | omega | (dsimp only; omega)), (lt_s hno (by unfold alwC; grind))⟩, z_sub hP [0, 1, 2, 3, 4] rfl, hD.sub [0, 1, 2, 3, 4] (by decide) rfl, hS, lv_sub hl [2, 3, 4, 5, 0] rfl⟩
    · refine lv_aload_n hx hb zd_Li_allow_23 rfl (lv_at hl 0 rfl) ?_
      refine va_get (D := (dC, dI)) (ci := 3) (v := .ref a2) (C := zR_Li) (T := zT_Li) (N := 5) hx hb hts zin_Li hown hK hP 0 rfl rfl 1 (by decide) (hts _ zw_230) (fun _ h9 => h9) rfl zd_Li_allow_24 ?_
      refine lv_iload hx hb zd_Li_allow_27 (lv_at hl 4 rfl) ?_
      refine va_iald hx hb hK hP 2 0 rfl rfl (vp_in_nI (show i < 40 from by omega) (by decide)) zd_Li_allow_29 ?_
      rw [show (nI i).toNatClampNeg = i from nI_clamp (by omega)]
      refine lv_iload_n hx hb zd_Li_allow_30 rfl (lv_at hl 2 rfl) ?_
      refine lv_icmp_ne (tgt := 38) hx hb zd_Li_allow_31 (by decide) (fun c_5 => ?_) (fun c_5 => ?_)
      · refine lv_iconst (v := 0) hx hb zd_Li_allow_38 (by decide) ?_
        refine lv_istore (lv' := [(5, .int 0), (0, .ref a0), (1, .int p0), (2, .int p1), (3, .int p2), (4, .int (nI i))]) hx hb zd_Li_allow_39 hl (by decide) rfl (fun ls hl => ?_)
        refine lv_iload hx hb zd_Li_allow_41 (lv_at hl 0 rfl) ?_
        refine lv_if_eq (tgt := 70) hx hb zd_Li_allow_43 (by decide) (fun _ => ?_) (fun c_6 => absurd (by decide : (0 : Int32) = 0) c_6)
        refine lv_iinc (v := nI (i + 1)) (lv' := [(4, .int (nI (i + 1))), (5, .int 0), (0, .ref a0), (1, .int p0), (2, .int p1), (3, .int p2)]) hx hb zd_Li_allow_70 hl (k := 5) rfl (nI_1 i) (by decide) rfl (fun ls hl => ?_)
        refine lv_goto (tgt := 3) hx hb zd_Li_allow_73 (by decide) ?_
        exact ih_3 (i + 1) _ _ _ ⟨⟨(by first | omega | (dsimp only; omega)), (lt_s hno (by unfold alwC; grind))⟩, z_sub hP [0, 1, 2, 3, 4] rfl, hD.sub [0, 1, 2, 3, 4] (by decide) rfl, hS, lv_sub hl [2, 3, 4, 5, 0] rfl⟩
      · refine lv_iconst (v := 1) hx hb zd_Li_allow_34 (by decide) ?_
        refine lv_goto (tgt := 39) hx hb zd_Li_allow_35 (by decide) ?_
        refine lv_istore (lv' := [(5, .int 1), (0, .ref a0), (1, .int p0), (2, .int p1), (3, .int p2), (4, .int (nI i))]) hx hb zd_Li_allow_39 hl (by decide) rfl (fun ls hl => ?_)
        refine lv_iload hx hb zd_Li_allow_41 (lv_at hl 0 rfl) ?_
        refine lv_if_eq (tgt := 70) hx hb zd_Li_allow_43 (by decide) (fun c_7 => absurd c_7 (by decide : ¬ (1 : Int32) = 0)) (fun _ => ?_)
        refine lv_aload_n hx hb zd_Li_allow_46 rfl (lv_at hl 1 rfl) ?_
        refine va_get (D := (dC, dI)) (ci := 3) (v := .ref a3) (C := zR_Li) (T := zT_Li) (N := 5) hx hb hts zin_Li hown hK hP 0 rfl rfl 2 (by decide) (hts _ zw_231) (fun _ h9 => h9) rfl zd_Li_allow_47 ?_
        refine lv_iload hx hb zd_Li_allow_50 (lv_at hl 5 rfl) ?_
        refine va_iald hx hb hK hP 3 0 rfl rfl (vp_in_nI (show i < 40 from by omega) (by decide)) zd_Li_allow_52 ?_
        rw [show (nI i).toNatClampNeg = i from nI_clamp (by omega)]
        refine lv_iload_n hx hb zd_Li_allow_53 rfl (lv_at hl 4 rfl) ?_
        refine lv_icmp_gt (tgt := 70) hx hb zd_Li_allow_54 (by decide) (fun c_8 => ?_) (fun c_8 => ?_)
        · refine lv_iinc (v := nI (i + 1)) (lv' := [(4, .int (nI (i + 1))), (5, .int 1), (0, .ref a0), (1, .int p0), (2, .int p1), (3, .int p2)]) hx hb zd_Li_allow_70 hl (k := 5) rfl (nI_1 i) (by decide) rfl (fun ls hl => ?_)
          refine lv_goto (tgt := 3) hx hb zd_Li_allow_73 (by decide) ?_
          exact ih_3 (i + 1) _ _ _ ⟨⟨(by first | omega | (dsimp only; omega)), (lt_s hno (by unfold alwC; grind))⟩, z_sub hP [0, 1, 2, 3, 4] rfl, hD.sub [0, 1, 2, 3, 4] (by decide) rfl, hS, lv_sub hl [2, 3, 4, 5, 0] rfl⟩
        · refine lv_iload_n hx hb zd_Li_allow_57 rfl (lv_at hl 4 rfl) ?_
          refine lv_aload_n hx hb zd_Li_allow_58 rfl (lv_at hl 1 rfl) ?_
          refine va_get (D := (dC, dI)) (ci := 3) (v := .ref a4) (C := zR_Li) (T := zT_Li) (N := 5) hx hb hts zin_Li hown hK hP 0 rfl rfl 3 (by decide) (hts _ zw_232) (fun _ h9 => h9) rfl zd_Li_allow_59 ?_
          refine lv_iload hx hb zd_Li_allow_62 (lv_at hl 5 rfl) ?_
          refine va_iald hx hb hK hP 4 0 rfl rfl (vp_in_nI (show i < 40 from by omega) (by decide)) zd_Li_allow_64 ?_
          rw [show (nI i).toNatClampNeg = i from nI_clamp (by omega)]
          refine lv_icmp_gt (tgt := 70) hx hb zd_Li_allow_65 (by decide) (fun c_9 => ?_) (fun c_9 => ?_)
          · refine lv_iinc (v := nI (i + 1)) (lv' := [(4, .int (nI (i + 1))), (5, .int 1), (0, .ref a0), (1, .int p0), (2, .int p1), (3, .int p2)]) hx hb zd_Li_allow_70 hl (k := 5) rfl (nI_1 i) (by decide) rfl (fun ls hl => ?_)
            refine lv_goto (tgt := 3) hx hb zd_Li_allow_73 (by decide) ?_
            exact ih_3 (i + 1) _ _ _ ⟨⟨(by first | omega | (dsimp only; omega)), (lt_s hno (by unfold alwC; grind))⟩, z_sub hP [0, 1, 2, 3, 4] rfl, hD.sub [0, 1, 2, 3, 4] (by decide) rfl, hS, lv_sub hl [2, 3, 4, 5, 0] rfl⟩
          · refine lv_iconst (v := 1) hx hb zd_Li_allow_68 (by decide) ?_
            exact z_zret (S := Unit) (w1 := fun (u : Unit) => [(a0, .inr (3, [.ref a1, .ref a2, .ref a3, .ref a4, .int (nI k)])), (a1, .inl (cI, 40, .inl f1)), (a2, .inl (cI, 40, .inl f2)), (a3, .inl (cI, 40, .inl f3)), (a4, .inl (cI, 40, .inl f4))]) () hx hb hr hlocks (Or.inr rfl) (bI_t ⟨i, by omega, by unfold alwC; grind⟩).symm hP hD hS (Nat.le_of_ble_eq_true rfl) (Nat.le_of_ble_eq_true rfl) zd_Li_allow_69
set_option maxHeartbeats 4000000 in
set_option maxRecDepth 100000 in
theorem k_Va_latest (l : Launch) (hst : l.stackTraces = false) (dC : Nat → ClassId) (dI : Nat → Nat → Nat) (cI cZ cJ cQ : ClassId) (sz : Nat) (a0 : Nat) (a1 : Nat) (a2 : Nat) (a3 : Nat) (a4 : Nat) (k : Nat) (f1 : Nat → Int32) (f2 : Nat → Int32) (f3 : Nat → Int32) (f4 : Nat → Int32) (p0 : Int32) (p1 : Int32) (p2 : Int32) (hk : k ≤ 60) : Met l zy_Va_latest zws_Va_latest ({ frames := 0, cells := 0, slots := 0, locals := 0 }) (zPc (dC, dI) zCl (zTy cI cZ cJ cQ) [(a0, .inr (9, [.ref a1, .ref a2, .ref a3, .ref a4, .int (nI k)])), (a1, .inl (cI, 60, .inl f1)), (a2, .inl (cI, 60, .inl f2)), (a3, .inl (cI, 60, .inl f3)), (a4, .inl (cI, 60, .inl f4))] sz [.ref a0, .int p0, .int p1, .int p2]) (zQi (dC, dI) zCl (fun (r : Int32) (u : Unit) => (r = (latF f1 f2 f3 f4 p0 p1 p2 k).1)) (fun (u : Unit) => [(a0, .inr (9, [.ref a1, .ref a2, .ref a3, .ref a4, .int (nI k)])), (a1, .inl (cI, 60, .inl f1)), (a2, .inl (cI, 60, .inl f2)), (a3, .inl (cI, 60, .inl f3)), (a4, .inl (cI, 60, .inl f4))]) (va_A [(a0, .inr (9, [.ref a1, .ref a2, .ref a3, .ref a4, .int (nI k)])), (a1, .inl (cI, 60, .inl f1)), (a2, .inl (cI, 60, .inl f2)), (a3, .inl (cI, 60, .inl f3)), (a4, .inl (cI, 60, .inl f4))] sz)) 0 0 (va_A [(a0, .inr (9, [.ref a1, .ref a2, .ref a3, .ref a4, .int (nI k)])), (a1, .inl (cI, 60, .inl f1)), (a2, .inl (cI, 60, .inl f2)), (a3, .inl (cI, 60, .inl f3)), (a4, .inl (cI, 60, .inl f4))] sz) := by
  refine Met.ofW (cc := zc_Va_latest) (maxL := 8) (ret := (some .int)) (by decide) rfl ?_
  intro p e s m args below meth c s₁ B hml hv
  obtain ⟨rfl, hsz, hP, hK, hD0, hZ⟩ := hv
  have hx := B.exec
  have hb := B.bytes
  have hr := B.returns
  have hts := fun (w : Cond) (h : w ∈ zW) => atoms_spec (ws := zws_Va_latest) B.pre w (List.mem_cons_of_mem _ h)
  have hown : s.vm.findClass zR_Va = some m.cls := findClass_of_methodNamed B.named
  have hlocks := B.notSynchronized
  subst hsz
  have hD := hD0.self (sz := s.heap.size)
  generalize hAe : va_A [(a0, .inr (9, [.ref a1, .ref a2, .ref a3, .ref a4, .int (nI k)])), (a1, .inl (cI, 60, .inl f1)), (a2, .inl (cI, 60, .inl f2)), (a3, .inl (cI, 60, .inl f3)), (a4, .inl (cI, 60, .inl f4))] s.heap.size = A at hD hZ ⊢
  have hA : ∀ q : Nat, s.heap.size ≤ q → A q := fun q h => by rw [← hAe]; exact Or.inr h
  have hS : va_S A s.heap s.heap [] := va_S.rf
  have hl := lv_entry ([.ref a0, .int p0, .int p1, .int p2]) (n := 8) (Nat.le_of_ble_eq_true rfl)
  rw [lg_entry_eq]
  generalize (lg_sl ([.ref a0, .int p0, .int p1, .int p2]) ++ List.replicate (8 - (lg_sl ([.ref a0, .int p0, .int p1, .int p2])).length) Slot.unset).toArray = ls at hl ⊢
  have hl : lv_has ls 8 [(0, .ref a0), (1, .int p0), (2, .int p1), (3, .int p2)] := hl
  refine z_start hP hS (fun H locs hP hS => ?_)
  refine lv_iconst (v := -1) hx hb zd_Va_latest_0 (by decide) ?_
  refine lv_istore (lv' := [(4, .int (-1)), (0, .ref a0), (1, .int p0), (2, .int p1), (3, .int p2)]) hx hb zd_Va_latest_1 hl (by decide) rfl (fun ls hl => ?_)
  refine lv_iconst (v := -1) hx hb zd_Va_latest_3 (by decide) ?_
  refine lv_istore (lv' := [(5, .int (-1)), (4, .int (-1)), (0, .ref a0), (1, .int p0), (2, .int p1), (3, .int p2)]) hx hb zd_Va_latest_4 hl (by decide) rfl (fun ls hl => ?_)
  refine lv_iconst (v := 0) hx hb zd_Va_latest_6 (by decide) ?_
  refine lv_istore (lv' := [(6, .int 0), (5, .int (-1)), (4, .int (-1)), (0, .ref a0), (1, .int p0), (2, .int p1), (3, .int p2)]) hx hb zd_Va_latest_7 hl (by decide) rfl (fun ls hl => ?_)
  refine z_loopN (σ := Nat × Int32 × Int32) (fun (fu : Nat) (x9 : Nat × Int32 × Int32) H locs ls => match x9 with | (i, x, y) => (i + fu = k ∧ ((x, y) = latF f1 f2 f3 f4 p0 p1 p2 i)) ∧ va_P (dC, dI) zCl [(a0, .inr (9, [.ref a1, .ref a2, .ref a3, .ref a4, .int (nI k)])), (a1, .inl (cI, 60, .inl f1)), (a2, .inl (cI, 60, .inl f2)), (a3, .inl (cI, 60, .inl f3)), (a4, .inl (cI, 60, .inl f4))] H ∧ va_D A [(a0, .inr (9, [.ref a1, .ref a2, .ref a3, .ref a4, .int (nI k)])), (a1, .inl (cI, 60, .inl f1)), (a2, .inl (cI, 60, .inl f2)), (a3, .inl (cI, 60, .inl f3)), (a4, .inl (cI, 60, .inl f4))] ∧ va_S A s.heap H locs ∧ lv_has ls 8 [(0, .ref a0), (1, .int p0), (2, .int p1), (3, .int p2), (4, .int x), (5, .int y), (6, .int (nI i))]) (fun x9 H locs ls hI => ?_) (fun fu x9 H locs ls ih_9 hI => ?_) k (0, -1, -1) ⟨⟨(by first | omega | (dsimp only; omega)), rfl⟩, z_sub hP [0, 1, 2, 3, 4] rfl, hD.sub [0, 1, 2, 3, 4] (by decide) rfl, hS, lv_sub hl [3, 4, 5, 6, 2, 1, 0] rfl⟩
  · obtain ⟨i, x, y⟩ := x9
    dsimp only at hI
    obtain ⟨⟨hfu, hxy⟩, hP, hD, hS, hl⟩ := hI
    refine lv_iload hx hb zd_Va_latest_9 (lv_at hl 6 rfl) ?_
    refine lv_aload_n hx hb zd_Va_latest_11 rfl (lv_at hl 0 rfl) ?_
    refine va_get (D := (dC, dI)) (ci := 9) (v := .int (nI k)) (C := zR_Va) (T := zT_Va) (N := 5) hx hb hts zin_Va hown hK hP 0 rfl rfl 4 (by decide) (hts _ zw_256) (fun _ h9 => h9) rfl zd_Va_latest_12 ?_
    refine lv_icmp_ge (tgt := 99) hx hb zd_Va_latest_15 (by decide) (fun _ => ?_) (fun c_1 => absurd (nI_le (by omega) (by omega)) c_1)
    refine lv_iload hx hb zd_Va_latest_99 (lv_at hl 4 rfl) ?_
    exact z_iret (S := Unit) (w1 := fun (u : Unit) => [(a0, .inr (9, [.ref a1, .ref a2, .ref a3, .ref a4, .int (nI k)])), (a1, .inl (cI, 60, .inl f1)), (a2, .inl (cI, 60, .inl f2)), (a3, .inl (cI, 60, .inl f3)), (a4, .inl (cI, 60, .inl f4))]) () hx hb hr hlocks (by (have h9 : i = k := (by omega)); subst h9; rw [← hxy]) hP hD hS (Nat.le_of_ble_eq_true rfl) (Nat.le_of_ble_eq_true rfl) zd_Va_latest_101
  · obtain ⟨i, x, y⟩ := x9
    dsimp only at hI
    obtain ⟨⟨hfu, hxy⟩, hP, hD, hS, hl⟩ := hI
    dsimp only at ih_9
    refine lv_iload hx hb zd_Va_latest_9 (lv_at hl 6 rfl) ?_
    refine lv_aload_n hx hb zd_Va_latest_11 rfl (lv_at hl 0 rfl) ?_
    refine va_get (D := (dC, dI)) (ci := 9) (v := .int (nI k)) (C := zR_Va) (T := zT_Va) (N := 5) hx hb hts zin_Va hown hK hP 0 rfl rfl 4 (by decide) (hts _ zw_256) (fun _ h9 => h9) rfl zd_Va_latest_12 ?_
    refine lv_icmp_ge (tgt := 99) hx hb zd_Va_latest_15 (by decide) (fun c_2 => absurd c_2 (nI_ge (by omega) (by omega))) (fun _ => ?_)
    refine lv_aload_n hx hb zd_Va_latest_18 rfl (lv_at hl 0 rfl) ?_
    refine va_get (D := (dC, dI)) (ci := 9) (v := .ref a1) (C := zR_Va) (T := zT_Va) (N := 5) hx hb hts zin_Va hown hK hP 0 rfl rfl 0 (by decide) (hts _ zw_252) (fun _ h9 => h9) rfl zd_Va_latest_19 ?_
    refine lv_iload hx hb zd_Va_latest_22 (lv_at hl 6 rfl) ?_
    refine va_iald hx hb hK hP 1 0 rfl rfl (vp_in_nI (show i < 60 from by omega) (by decide)) zd_Va_latest_24 ?_
    rw [show (nI i).toNatClampNeg = i from nI_clamp (by omega)]
    refine lv_iload_n hx hb zd_Va_latest_25 rfl (lv_at hl 1 rfl) ?_
    refine lv_icmp_ne (tgt := 44) hx hb zd_Va_latest_26 (by decide) (fun c_3 => ?_) (fun c_3 => ?_)
    · refine lv_iconst (v := 0) hx hb zd_Va_latest_44 (by decide) ?_
      refine lv_istore (lv' := [(7, .int 0), (0, .ref a0), (1, .int p0), (2, .int p1), (3, .int p2), (4, .int x), (5, .int y), (6, .int (nI i))]) hx hb zd_Va_latest_45 hl (by decide) rfl (fun ls hl => ?_)
      refine lv_iload hx hb zd_Va_latest_47 (lv_at hl 0 rfl) ?_
      refine lv_if_eq (tgt := 93) hx hb zd_Va_latest_49 (by decide) (fun _ => ?_) (fun c_4 => absurd (by decide : (0 : Int32) = 0) c_4)
      refine lv_iinc (v := nI (i + 1)) (lv' := [(6, .int (nI (i + 1))), (7, .int 0), (0, .ref a0), (1, .int p0), (2, .int p1), (3, .int p2), (4, .int x), (5, .int y)]) hx hb zd_Va_latest_93 hl (k := 7) rfl (nI_1 i) (by decide) rfl (fun ls hl => ?_)
      refine lv_goto (tgt := 9) hx hb zd_Va_latest_96 (by decide) ?_
      exact ih_9 (i + 1, x, y) _ _ _ ⟨⟨(by first | omega | (dsimp only; omega)), (by rw [latF, ← hxy]; grind)⟩, z_sub hP [0, 1, 2, 3, 4] rfl, hD.sub [0, 1, 2, 3, 4] (by decide) rfl, hS, lv_sub hl [2, 3, 4, 5, 6, 7, 0] rfl⟩
    · refine lv_aload_n hx hb zd_Va_latest_29 rfl (lv_at hl 0 rfl) ?_
      refine va_get (D := (dC, dI)) (ci := 9) (v := .ref a3) (C := zR_Va) (T := zT_Va) (N := 5) hx hb hts zin_Va hown hK hP 0 rfl rfl 2 (by decide) (hts _ zw_254) (fun _ h9 => h9) rfl zd_Va_latest_30 ?_
      refine lv_iload hx hb zd_Va_latest_33 (lv_at hl 6 rfl) ?_
      refine va_iald hx hb hK hP 3 0 rfl rfl (vp_in_nI (show i < 60 from by omega) (by decide)) zd_Va_latest_35 ?_
      rw [show (nI i).toNatClampNeg = i from nI_clamp (by omega)]
      refine lv_iload_n hx hb zd_Va_latest_36 rfl (lv_at hl 3 rfl) ?_
      refine lv_icmp_ne (tgt := 44) hx hb zd_Va_latest_37 (by decide) (fun c_5 => ?_) (fun c_5 => ?_)
      · refine lv_iconst (v := 0) hx hb zd_Va_latest_44 (by decide) ?_
        refine lv_istore (lv' := [(7, .int 0), (0, .ref a0), (1, .int p0), (2, .int p1), (3, .int p2), (4, .int x), (5, .int y), (6, .int (nI i))]) hx hb zd_Va_latest_45 hl (by decide) rfl (fun ls hl => ?_)
        refine lv_iload hx hb zd_Va_latest_47 (lv_at hl 0 rfl) ?_
        refine lv_if_eq (tgt := 93) hx hb zd_Va_latest_49 (by decide) (fun _ => ?_) (fun c_6 => absurd (by decide : (0 : Int32) = 0) c_6)
        refine lv_iinc (v := nI (i + 1)) (lv' := [(6, .int (nI (i + 1))), (7, .int 0), (0, .ref a0), (1, .int p0), (2, .int p1), (3, .int p2), (4, .int x), (5, .int y)]) hx hb zd_Va_latest_93 hl (k := 7) rfl (nI_1 i) (by decide) rfl (fun ls hl => ?_)
        refine lv_goto (tgt := 9) hx hb zd_Va_latest_96 (by decide) ?_
        exact ih_9 (i + 1, x, y) _ _ _ ⟨⟨(by first | omega | (dsimp only; omega)), (by rw [latF, ← hxy]; grind)⟩, z_sub hP [0, 1, 2, 3, 4] rfl, hD.sub [0, 1, 2, 3, 4] (by decide) rfl, hS, lv_sub hl [2, 3, 4, 5, 6, 7, 0] rfl⟩
      · refine lv_iconst (v := 1) hx hb zd_Va_latest_40 (by decide) ?_
        refine lv_goto (tgt := 45) hx hb zd_Va_latest_41 (by decide) ?_
        refine lv_istore (lv' := [(7, .int 1), (0, .ref a0), (1, .int p0), (2, .int p1), (3, .int p2), (4, .int x), (5, .int y), (6, .int (nI i))]) hx hb zd_Va_latest_45 hl (by decide) rfl (fun ls hl => ?_)
        refine lv_iload hx hb zd_Va_latest_47 (lv_at hl 0 rfl) ?_
        refine lv_if_eq (tgt := 93) hx hb zd_Va_latest_49 (by decide) (fun c_7 => absurd c_7 (by decide : ¬ (1 : Int32) = 0)) (fun _ => ?_)
        refine lv_aload_n hx hb zd_Va_latest_52 rfl (lv_at hl 1 rfl) ?_
        refine va_get (D := (dC, dI)) (ci := 9) (v := .ref a2) (C := zR_Va) (T := zT_Va) (N := 5) hx hb hts zin_Va hown hK hP 0 rfl rfl 1 (by decide) (hts _ zw_253) (fun _ h9 => h9) rfl zd_Va_latest_53 ?_
        refine lv_iload hx hb zd_Va_latest_56 (lv_at hl 7 rfl) ?_
        refine va_iald hx hb hK hP 2 0 rfl rfl (vp_in_nI (show i < 60 from by omega) (by decide)) zd_Va_latest_58 ?_
        rw [show (nI i).toNatClampNeg = i from nI_clamp (by omega)]
        refine lv_iload_n hx hb zd_Va_latest_59 rfl (lv_at hl 3 rfl) ?_
        refine lv_icmp_gt (tgt := 93) hx hb zd_Va_latest_60 (by decide) (fun c_8 => ?_) (fun c_8 => ?_)
        · refine lv_iinc (v := nI (i + 1)) (lv' := [(6, .int (nI (i + 1))), (7, .int 1), (0, .ref a0), (1, .int p0), (2, .int p1), (3, .int p2), (4, .int x), (5, .int y)]) hx hb zd_Va_latest_93 hl (k := 7) rfl (nI_1 i) (by decide) rfl (fun ls hl => ?_)
          refine lv_goto (tgt := 9) hx hb zd_Va_latest_96 (by decide) ?_
          exact ih_9 (i + 1, x, y) _ _ _ ⟨⟨(by first | omega | (dsimp only; omega)), (by rw [latF, ← hxy]; grind)⟩, z_sub hP [0, 1, 2, 3, 4] rfl, hD.sub [0, 1, 2, 3, 4] (by decide) rfl, hS, lv_sub hl [2, 3, 4, 5, 6, 7, 0] rfl⟩
        · refine lv_aload_n hx hb zd_Va_latest_63 rfl (lv_at hl 1 rfl) ?_
          refine va_get (D := (dC, dI)) (ci := 9) (v := .ref a2) (C := zR_Va) (T := zT_Va) (N := 5) hx hb hts zin_Va hown hK hP 0 rfl rfl 1 (by decide) (hts _ zw_253) (fun _ h9 => h9) rfl zd_Va_latest_64 ?_
          refine lv_iload hx hb zd_Va_latest_67 (lv_at hl 7 rfl) ?_
          refine va_iald hx hb hK hP 2 0 rfl rfl (vp_in_nI (show i < 60 from by omega) (by decide)) zd_Va_latest_69 ?_
          rw [show (nI i).toNatClampNeg = i from nI_clamp (by omega)]
          refine lv_iload hx hb zd_Va_latest_70 (lv_at hl 6 rfl) ?_
          refine lv_icmp_lt (tgt := 93) hx hb zd_Va_latest_72 (by decide) (fun c_9 => ?_) (fun c_9 => ?_)
          · refine lv_iinc (v := nI (i + 1)) (lv' := [(6, .int (nI (i + 1))), (7, .int 1), (0, .ref a0), (1, .int p0), (2, .int p1), (3, .int p2), (4, .int x), (5, .int y)]) hx hb zd_Va_latest_93 hl (k := 7) rfl (nI_1 i) (by decide) rfl (fun ls hl => ?_)
            refine lv_goto (tgt := 9) hx hb zd_Va_latest_96 (by decide) ?_
            exact ih_9 (i + 1, x, y) _ _ _ ⟨⟨(by first | omega | (dsimp only; omega)), (by rw [latF, ← hxy]; grind)⟩, z_sub hP [0, 1, 2, 3, 4] rfl, hD.sub [0, 1, 2, 3, 4] (by decide) rfl, hS, lv_sub hl [2, 3, 4, 5, 6, 7, 0] rfl⟩
          · refine lv_aload_n hx hb zd_Va_latest_75 rfl (lv_at hl 1 rfl) ?_
            refine va_get (D := (dC, dI)) (ci := 9) (v := .ref a4) (C := zR_Va) (T := zT_Va) (N := 5) hx hb hts zin_Va hown hK hP 0 rfl rfl 3 (by decide) (hts _ zw_255) (fun _ h9 => h9) rfl zd_Va_latest_76 ?_
            refine lv_iload hx hb zd_Va_latest_79 (lv_at hl 7 rfl) ?_
            refine va_iald hx hb hK hP 4 0 rfl rfl (vp_in_nI (show i < 60 from by omega) (by decide)) zd_Va_latest_81 ?_
            rw [show (nI i).toNatClampNeg = i from nI_clamp (by omega)]
            refine lv_istore (lv' := [(4, .int (f4 i)), (7, .int 1), (0, .ref a0), (1, .int p0), (2, .int p1), (3, .int p2), (5, .int y), (6, .int (nI i))]) hx hb zd_Va_latest_82 hl (by decide) rfl (fun ls hl => ?_)
            refine lv_aload_n hx hb zd_Va_latest_84 rfl (lv_at hl 2 rfl) ?_
            refine va_get (D := (dC, dI)) (ci := 9) (v := .ref a2) (C := zR_Va) (T := zT_Va) (N := 5) hx hb hts zin_Va hown hK hP 0 rfl rfl 1 (by decide) (hts _ zw_253) (fun _ h9 => h9) rfl zd_Va_latest_85 ?_
            refine lv_iload hx hb zd_Va_latest_88 (lv_at hl 7 rfl) ?_
            refine va_iald hx hb hK hP 2 0 rfl rfl (vp_in_nI (show i < 60 from by omega) (by decide)) zd_Va_latest_90 ?_
            rw [show (nI i).toNatClampNeg = i from nI_clamp (by omega)]
            refine lv_istore (lv' := [(5, .int (f2 i)), (4, .int (f4 i)), (7, .int 1), (0, .ref a0), (1, .int p0), (2, .int p1), (3, .int p2), (6, .int (nI i))]) hx hb zd_Va_latest_91 hl (by decide) rfl (fun ls hl => ?_)
            refine lv_iinc (v := nI (i + 1)) (lv' := [(6, .int (nI (i + 1))), (5, .int (f2 i)), (4, .int (f4 i)), (7, .int 1), (0, .ref a0), (1, .int p0), (2, .int p1), (3, .int p2)]) hx hb zd_Va_latest_93 hl (k := 7) rfl (nI_1 i) (by decide) rfl (fun ls hl => ?_)
            refine lv_goto (tgt := 9) hx hb zd_Va_latest_96 (by decide) ?_
            exact ih_9 (i + 1, f4 i, f2 i) _ _ _ ⟨⟨(by first | omega | (dsimp only; omega)), (by rw [latF, ← hxy]; grind)⟩, z_sub hP [0, 1, 2, 3, 4] rfl, hD.sub [0, 1, 2, 3, 4] (by decide) rfl, hS, lv_sub hl [4, 5, 6, 7, 2, 1, 0] rfl⟩
set_option maxHeartbeats 4000000 in
set_option maxRecDepth 100000 in
theorem k_Ro_add (l : Launch) (hst : l.stackTraces = false) (dC : Nat → ClassId) (dI : Nat → Nat → Nat) (cI cZ cJ cQ : ClassId) (sz : Nat) (a0 : Nat) (a1 : Nat) (a2 : Nat) (a3 : Nat) (a4 : Nat) (a5 : Nat) (a6 : Nat) (a7 : Nat) (b0 : Nat) (b1 : Nat) (b2 : Nat) (k : Nat) (f1 : Nat → Int32) (h0 : Nat → Int32) (h1 : Nat → Int32) (h2 : Nat → Int32) (f3 : Nat → Int32) (f4 : Nat → Int32) (f5 : Nat → Int32) (f6 : Nat → Int32) (f7 : Nat → Int32) (p0 : Int32) (p1 : Int32) (p2 : Int32) (p3 : Int32) (p4 : Int32) (hk : k < 120) : Met l zy_Ro_add zws_Ro_add ({ frames := 0, cells := 0, slots := 0, locals := 0 }) (zPc (dC, dI) zCl (zTy cI cZ cJ cQ) [(a0, .inr (6, [.ref a1, .ref a2, .ref a3, .ref a4, .ref a5, .ref a6, .ref a7, .int (nI k)])), (a1, .inl (cI, 120, .inl f1)), (a2, .inl (cQ, 3, .inr (.inr (.inr (.inr (g3 b0 b1 b2)))))), (b0, .inl (cI, 120, .inl h0)), (b1, .inl (cI, 120, .inl h1)), (b2, .inl (cI, 120, .inl h2)), (a3, .inl (cI, 120, .inl f3)), (a4, .inl (cI, 120, .inl f4)), (a5, .inl (cI, 120, .inl f5)), (a6, .inl (cZ, 120, .inl f6)), (a7, .inl (cI, 120, .inl f7))] sz [.ref a0, .int p0, .int p1, .int p2, .int p3, .int p4]) (zQi (dC, dI) zCl (fun (r : Int32) (u : Unit) => (r = nI k)) (fun (u : Unit) => [(a0, .inr (6, [.ref a1, .ref a2, .ref a3, .ref a4, .ref a5, .ref a6, .ref a7, .int (nI (k + 1))])), (a1, .inl (cI, 120, .inl (upd f1 k p0))), (a2, .inl (cQ, 3, .inr (.inr (.inr (.inr (g3 b0 b1 b2)))))), (b0, .inl (cI, 120, .inl (upd h0 k p1))), (b1, .inl (cI, 120, .inl (upd h1 k p2))), (b2, .inl (cI, 120, .inl (upd h2 k p3))), (a3, .inl (cI, 120, .inl (upd f3 k p4))), (a4, .inl (cI, 120, .inl (upd f4 k 1))), (a5, .inl (cI, 120, .inl (upd f5 k 1))), (a6, .inl (cZ, 120, .inl f6)), (a7, .inl (cI, 120, .inl f7))]) (va_A [(a0, .inr (6, [.ref a1, .ref a2, .ref a3, .ref a4, .ref a5, .ref a6, .ref a7, .int (nI k)])), (a1, .inl (cI, 120, .inl f1)), (a2, .inl (cQ, 3, .inr (.inr (.inr (.inr (g3 b0 b1 b2)))))), (b0, .inl (cI, 120, .inl h0)), (b1, .inl (cI, 120, .inl h1)), (b2, .inl (cI, 120, .inl h2)), (a3, .inl (cI, 120, .inl f3)), (a4, .inl (cI, 120, .inl f4)), (a5, .inl (cI, 120, .inl f5)), (a6, .inl (cZ, 120, .inl f6)), (a7, .inl (cI, 120, .inl f7))] sz)) 0 0 (va_A [(a0, .inr (6, [.ref a1, .ref a2, .ref a3, .ref a4, .ref a5, .ref a6, .ref a7, .int (nI k)])), (a1, .inl (cI, 120, .inl f1)), (a2, .inl (cQ, 3, .inr (.inr (.inr (.inr (g3 b0 b1 b2)))))), (b0, .inl (cI, 120, .inl h0)), (b1, .inl (cI, 120, .inl h1)), (b2, .inl (cI, 120, .inl h2)), (a3, .inl (cI, 120, .inl f3)), (a4, .inl (cI, 120, .inl f4)), (a5, .inl (cI, 120, .inl f5)), (a6, .inl (cZ, 120, .inl f6)), (a7, .inl (cI, 120, .inl f7))] sz) := by
  refine Met.ofW (cc := zc_Ro_add) (maxL := 7) (ret := (some .int)) (by decide) rfl ?_
  intro p e s m args below meth c s₁ B hml hv
  obtain ⟨rfl, hsz, hP, hK, hD0, hZ⟩ := hv
  have hx := B.exec
  have hb := B.bytes
  have hr := B.returns
  have hts := fun (w : Cond) (h : w ∈ zW) => atoms_spec (ws := zws_Ro_add) B.pre w (List.mem_cons_of_mem _ h)
  have hown : s.vm.findClass zR_Ro = some m.cls := findClass_of_methodNamed B.named
  have hlocks := B.notSynchronized
  subst hsz
  have hD := hD0.self (sz := s.heap.size)
  generalize hAe : va_A [(a0, .inr (6, [.ref a1, .ref a2, .ref a3, .ref a4, .ref a5, .ref a6, .ref a7, .int (nI k)])), (a1, .inl (cI, 120, .inl f1)), (a2, .inl (cQ, 3, .inr (.inr (.inr (.inr (g3 b0 b1 b2)))))), (b0, .inl (cI, 120, .inl h0)), (b1, .inl (cI, 120, .inl h1)), (b2, .inl (cI, 120, .inl h2)), (a3, .inl (cI, 120, .inl f3)), (a4, .inl (cI, 120, .inl f4)), (a5, .inl (cI, 120, .inl f5)), (a6, .inl (cZ, 120, .inl f6)), (a7, .inl (cI, 120, .inl f7))] s.heap.size = A at hD hZ ⊢
  have hA : ∀ q : Nat, s.heap.size ≤ q → A q := fun q h => by rw [← hAe]; exact Or.inr h
  have hS : va_S A s.heap s.heap [] := va_S.rf
  have hl := lv_entry ([.ref a0, .int p0, .int p1, .int p2, .int p3, .int p4]) (n := 7) (Nat.le_of_ble_eq_true rfl)
  rw [lg_entry_eq]
  generalize (lg_sl ([.ref a0, .int p0, .int p1, .int p2, .int p3, .int p4]) ++ List.replicate (7 - (lg_sl ([.ref a0, .int p0, .int p1, .int p2, .int p3, .int p4])).length) Slot.unset).toArray = ls at hl ⊢
  have hl : lv_has ls 7 [(0, .ref a0), (1, .int p0), (2, .int p1), (3, .int p2), (4, .int p3), (5, .int p4)] := hl
  refine z_start hP hS (fun H locs hP hS => ?_)
  refine lv_aload_n hx hb zd_Ro_add_0 rfl (lv_at hl 0 rfl) ?_
  refine va_get (D := (dC, dI)) (ci := 6) (v := .int (nI k)) (C := zR_Ro) (T := zT_Ro) (N := 8) hx hb hts zin_Ro hown hK hP 0 rfl rfl 7 (by decide) (hts _ zw_53) (fun _ h9 => h9) rfl zd_Ro_add_1 ?_
  refine lv_istore (lv' := [(6, .int (nI k)), (0, .ref a0), (1, .int p0), (2, .int p1), (3, .int p2), (4, .int p3), (5, .int p4)]) hx hb zd_Ro_add_4 hl (by decide) rfl (fun ls hl => ?_)
  refine lv_aload_n hx hb zd_Ro_add_6 rfl (lv_at hl 1 rfl) ?_
  refine va_get (D := (dC, dI)) (ci := 6) (v := .ref a1) (C := zR_Ro) (T := zT_Ro) (N := 8) hx hb hts zin_Ro hown hK hP 0 rfl rfl 0 (by decide) (hts _ zw_38) (fun _ h9 => h9) rfl zd_Ro_add_7 ?_
  refine lv_iload hx hb zd_Ro_add_10 (lv_at hl 0 rfl) ?_
  refine lv_iload_n hx hb zd_Ro_add_12 rfl (lv_at hl 2 rfl) ?_
  refine va_iast hx hb hK hP hD hS 1 0 rfl rfl (vp_in_nI (show k < 120 from by omega) (by decide)) zd_Ro_add_13 (fun H locs hP hD hS => ?_)
  rw [show (nI k).toNatClampNeg = k from nI_clamp (by omega)] at hP hD
  have hP : va_P (dC, dI) zCl [(a0, .inr (6, [.ref a1, .ref a2, .ref a3, .ref a4, .ref a5, .ref a6, .ref a7, .int (nI k)])), (a1, .inl (cI, 120, .inl (upd f1 k p0))), (a2, .inl (cQ, 3, .inr (.inr (.inr (.inr (g3 b0 b1 b2)))))), (b0, .inl (cI, 120, .inl h0)), (b1, .inl (cI, 120, .inl h1)), (b2, .inl (cI, 120, .inl h2)), (a3, .inl (cI, 120, .inl f3)), (a4, .inl (cI, 120, .inl f4)), (a5, .inl (cI, 120, .inl f5)), (a6, .inl (cZ, 120, .inl f6)), (a7, .inl (cI, 120, .inl f7))] H := hP
  have hD : va_D A [(a0, .inr (6, [.ref a1, .ref a2, .ref a3, .ref a4, .ref a5, .ref a6, .ref a7, .int (nI k)])), (a1, .inl (cI, 120, .inl (upd f1 k p0))), (a2, .inl (cQ, 3, .inr (.inr (.inr (.inr (g3 b0 b1 b2)))))), (b0, .inl (cI, 120, .inl h0)), (b1, .inl (cI, 120, .inl h1)), (b2, .inl (cI, 120, .inl h2)), (a3, .inl (cI, 120, .inl f3)), (a4, .inl (cI, 120, .inl f4)), (a5, .inl (cI, 120, .inl f5)), (a6, .inl (cZ, 120, .inl f6)), (a7, .inl (cI, 120, .inl f7))] := hD
  refine lv_aload_n hx hb zd_Ro_add_14 rfl (lv_at hl 1 rfl) ?_
  refine va_get (D := (dC, dI)) (ci := 6) (v := .ref a2) (C := zR_Ro) (T := zT_Ro) (N := 8) hx hb hts zin_Ro hown hK hP 0 rfl rfl 1 (by decide) (hts _ zw_40) (fun _ h9 => h9) rfl zd_Ro_add_15 ?_
  refine lv_iconst (v := 0) hx hb zd_Ro_add_18 (by decide) ?_
  refine z_aald (y := b0) hx hb hK hP 2 3 rfl rfl (z_inC rfl) rfl zd_Ro_add_19 ?_
  refine lv_iload hx hb zd_Ro_add_20 (lv_at hl 0 rfl) ?_
  refine lv_iload_n hx hb zd_Ro_add_22 rfl (lv_at hl 3 rfl) ?_
  refine va_iast hx hb hK hP hD hS 3 0 rfl rfl (vp_in_nI (show k < 120 from by omega) (by decide)) zd_Ro_add_23 (fun H locs hP hD hS => ?_)
  rw [show (nI k).toNatClampNeg = k from nI_clamp (by omega)] at hP hD
  have hP : va_P (dC, dI) zCl [(a0, .inr (6, [.ref a1, .ref a2, .ref a3, .ref a4, .ref a5, .ref a6, .ref a7, .int (nI k)])), (a1, .inl (cI, 120, .inl (upd f1 k p0))), (a2, .inl (cQ, 3, .inr (.inr (.inr (.inr (g3 b0 b1 b2)))))), (b0, .inl (cI, 120, .inl (upd h0 k p1))), (b1, .inl (cI, 120, .inl h1)), (b2, .inl (cI, 120, .inl h2)), (a3, .inl (cI, 120, .inl f3)), (a4, .inl (cI, 120, .inl f4)), (a5, .inl (cI, 120, .inl f5)), (a6, .inl (cZ, 120, .inl f6)), (a7, .inl (cI, 120, .inl f7))] H := hP
  have hD : va_D A [(a0, .inr (6, [.ref a1, .ref a2, .ref a3, .ref a4, .ref a5, .ref a6, .ref a7, .int (nI k)])), (a1, .inl (cI, 120, .inl (upd f1 k p0))), (a2, .inl (cQ, 3, .inr (.inr (.inr (.inr (g3 b0 b1 b2)))))), (b0, .inl (cI, 120, .inl (upd h0 k p1))), (b1, .inl (cI, 120, .inl h1)), (b2, .inl (cI, 120, .inl h2)), (a3, .inl (cI, 120, .inl f3)), (a4, .inl (cI, 120, .inl f4)), (a5, .inl (cI, 120, .inl f5)), (a6, .inl (cZ, 120, .inl f6)), (a7, .inl (cI, 120, .inl f7))] := hD
  refine lv_aload_n hx hb zd_Ro_add_24 rfl (lv_at hl 1 rfl) ?_
  refine va_get (D := (dC, dI)) (ci := 6) (v := .ref a2) (C := zR_Ro) (T := zT_Ro) (N := 8) hx hb hts zin_Ro hown hK hP 0 rfl rfl 1 (by decide) (hts _ zw_40) (fun _ h9 => h9) rfl zd_Ro_add_25 ?_
  refine lv_iconst (v := 1) hx hb zd_Ro_add_28 (by decide) ?_
  refine z_aald (y := b1) hx hb hK hP 2 3 rfl rfl (z_inC rfl) rfl zd_Ro_add_29 ?_
  refine lv_iload hx hb zd_Ro_add_30 (lv_at hl 0 rfl) ?_
  refine lv_iload_n hx hb zd_Ro_add_32 rfl (lv_at hl 4 rfl) ?_
  refine va_iast hx hb hK hP hD hS 4 0 rfl rfl (vp_in_nI (show k < 120 from by omega) (by decide)) zd_Ro_add_33 (fun H locs hP hD hS => ?_)
  rw [show (nI k).toNatClampNeg = k from nI_clamp (by omega)] at hP hD
  have hP : va_P (dC, dI) zCl [(a0, .inr (6, [.ref a1, .ref a2, .ref a3, .ref a4, .ref a5, .ref a6, .ref a7, .int (nI k)])), (a1, .inl (cI, 120, .inl (upd f1 k p0))), (a2, .inl (cQ, 3, .inr (.inr (.inr (.inr (g3 b0 b1 b2)))))), (b0, .inl (cI, 120, .inl (upd h0 k p1))), (b1, .inl (cI, 120, .inl (upd h1 k p2))), (b2, .inl (cI, 120, .inl h2)), (a3, .inl (cI, 120, .inl f3)), (a4, .inl (cI, 120, .inl f4)), (a5, .inl (cI, 120, .inl f5)), (a6, .inl (cZ, 120, .inl f6)), (a7, .inl (cI, 120, .inl f7))] H := hP
  have hD : va_D A [(a0, .inr (6, [.ref a1, .ref a2, .ref a3, .ref a4, .ref a5, .ref a6, .ref a7, .int (nI k)])), (a1, .inl (cI, 120, .inl (upd f1 k p0))), (a2, .inl (cQ, 3, .inr (.inr (.inr (.inr (g3 b0 b1 b2)))))), (b0, .inl (cI, 120, .inl (upd h0 k p1))), (b1, .inl (cI, 120, .inl (upd h1 k p2))), (b2, .inl (cI, 120, .inl h2)), (a3, .inl (cI, 120, .inl f3)), (a4, .inl (cI, 120, .inl f4)), (a5, .inl (cI, 120, .inl f5)), (a6, .inl (cZ, 120, .inl f6)), (a7, .inl (cI, 120, .inl f7))] := hD
  refine lv_aload_n hx hb zd_Ro_add_34 rfl (lv_at hl 1 rfl) ?_
  refine va_get (D := (dC, dI)) (ci := 6) (v := .ref a2) (C := zR_Ro) (T := zT_Ro) (N := 8) hx hb hts zin_Ro hown hK hP 0 rfl rfl 1 (by decide) (hts _ zw_40) (fun _ h9 => h9) rfl zd_Ro_add_35 ?_
  refine lv_iconst (v := 2) hx hb zd_Ro_add_38 (by decide) ?_
  refine z_aald (y := b2) hx hb hK hP 2 3 rfl rfl (z_inC rfl) rfl zd_Ro_add_39 ?_
  refine lv_iload hx hb zd_Ro_add_40 (lv_at hl 0 rfl) ?_
  refine lv_iload hx hb zd_Ro_add_42 (lv_at hl 5 rfl) ?_
  refine va_iast hx hb hK hP hD hS 5 0 rfl rfl (vp_in_nI (show k < 120 from by omega) (by decide)) zd_Ro_add_44 (fun H locs hP hD hS => ?_)
  rw [show (nI k).toNatClampNeg = k from nI_clamp (by omega)] at hP hD
  have hP : va_P (dC, dI) zCl [(a0, .inr (6, [.ref a1, .ref a2, .ref a3, .ref a4, .ref a5, .ref a6, .ref a7, .int (nI k)])), (a1, .inl (cI, 120, .inl (upd f1 k p0))), (a2, .inl (cQ, 3, .inr (.inr (.inr (.inr (g3 b0 b1 b2)))))), (b0, .inl (cI, 120, .inl (upd h0 k p1))), (b1, .inl (cI, 120, .inl (upd h1 k p2))), (b2, .inl (cI, 120, .inl (upd h2 k p3))), (a3, .inl (cI, 120, .inl f3)), (a4, .inl (cI, 120, .inl f4)), (a5, .inl (cI, 120, .inl f5)), (a6, .inl (cZ, 120, .inl f6)), (a7, .inl (cI, 120, .inl f7))] H := hP
  have hD : va_D A [(a0, .inr (6, [.ref a1, .ref a2, .ref a3, .ref a4, .ref a5, .ref a6, .ref a7, .int (nI k)])), (a1, .inl (cI, 120, .inl (upd f1 k p0))), (a2, .inl (cQ, 3, .inr (.inr (.inr (.inr (g3 b0 b1 b2)))))), (b0, .inl (cI, 120, .inl (upd h0 k p1))), (b1, .inl (cI, 120, .inl (upd h1 k p2))), (b2, .inl (cI, 120, .inl (upd h2 k p3))), (a3, .inl (cI, 120, .inl f3)), (a4, .inl (cI, 120, .inl f4)), (a5, .inl (cI, 120, .inl f5)), (a6, .inl (cZ, 120, .inl f6)), (a7, .inl (cI, 120, .inl f7))] := hD
  refine lv_aload_n hx hb zd_Ro_add_45 rfl (lv_at hl 1 rfl) ?_
  refine va_get (D := (dC, dI)) (ci := 6) (v := .ref a3) (C := zR_Ro) (T := zT_Ro) (N := 8) hx hb hts zin_Ro hown hK hP 0 rfl rfl 2 (by decide) (hts _ zw_42) (fun _ h9 => h9) rfl zd_Ro_add_46 ?_
  refine lv_iload hx hb zd_Ro_add_49 (lv_at hl 0 rfl) ?_
  refine lv_iload hx hb zd_Ro_add_51 (lv_at hl 6 rfl) ?_
  refine va_iast hx hb hK hP hD hS 6 0 rfl rfl (vp_in_nI (show k < 120 from by omega) (by decide)) zd_Ro_add_53 (fun H locs hP hD hS => ?_)
  rw [show (nI k).toNatClampNeg = k from nI_clamp (by omega)] at hP hD
  have hP : va_P (dC, dI) zCl [(a0, .inr (6, [.ref a1, .ref a2, .ref a3, .ref a4, .ref a5, .ref a6, .ref a7, .int (nI k)])), (a1, .inl (cI, 120, .inl (upd f1 k p0))), (a2, .inl (cQ, 3, .inr (.inr (.inr (.inr (g3 b0 b1 b2)))))), (b0, .inl (cI, 120, .inl (upd h0 k p1))), (b1, .inl (cI, 120, .inl (upd h1 k p2))), (b2, .inl (cI, 120, .inl (upd h2 k p3))), (a3, .inl (cI, 120, .inl (upd f3 k p4))), (a4, .inl (cI, 120, .inl f4)), (a5, .inl (cI, 120, .inl f5)), (a6, .inl (cZ, 120, .inl f6)), (a7, .inl (cI, 120, .inl f7))] H := hP
  have hD : va_D A [(a0, .inr (6, [.ref a1, .ref a2, .ref a3, .ref a4, .ref a5, .ref a6, .ref a7, .int (nI k)])), (a1, .inl (cI, 120, .inl (upd f1 k p0))), (a2, .inl (cQ, 3, .inr (.inr (.inr (.inr (g3 b0 b1 b2)))))), (b0, .inl (cI, 120, .inl (upd h0 k p1))), (b1, .inl (cI, 120, .inl (upd h1 k p2))), (b2, .inl (cI, 120, .inl (upd h2 k p3))), (a3, .inl (cI, 120, .inl (upd f3 k p4))), (a4, .inl (cI, 120, .inl f4)), (a5, .inl (cI, 120, .inl f5)), (a6, .inl (cZ, 120, .inl f6)), (a7, .inl (cI, 120, .inl f7))] := hD
  refine lv_aload_n hx hb zd_Ro_add_54 rfl (lv_at hl 1 rfl) ?_
  refine va_get (D := (dC, dI)) (ci := 6) (v := .ref a4) (C := zR_Ro) (T := zT_Ro) (N := 8) hx hb hts zin_Ro hown hK hP 0 rfl rfl 3 (by decide) (hts _ zw_45) (fun _ h9 => h9) rfl zd_Ro_add_55 ?_
  refine lv_iload hx hb zd_Ro_add_58 (lv_at hl 0 rfl) ?_
  refine lv_iconst (v := 1) hx hb zd_Ro_add_60 (by decide) ?_
  refine va_iast hx hb hK hP hD hS 7 0 rfl rfl (vp_in_nI (show k < 120 from by omega) (by decide)) zd_Ro_add_61 (fun H locs hP hD hS => ?_)
  rw [show (nI k).toNatClampNeg = k from nI_clamp (by omega)] at hP hD
  have hP : va_P (dC, dI) zCl [(a0, .inr (6, [.ref a1, .ref a2, .ref a3, .ref a4, .ref a5, .ref a6, .ref a7, .int (nI k)])), (a1, .inl (cI, 120, .inl (upd f1 k p0))), (a2, .inl (cQ, 3, .inr (.inr (.inr (.inr (g3 b0 b1 b2)))))), (b0, .inl (cI, 120, .inl (upd h0 k p1))), (b1, .inl (cI, 120, .inl (upd h1 k p2))), (b2, .inl (cI, 120, .inl (upd h2 k p3))), (a3, .inl (cI, 120, .inl (upd f3 k p4))), (a4, .inl (cI, 120, .inl (upd f4 k 1))), (a5, .inl (cI, 120, .inl f5)), (a6, .inl (cZ, 120, .inl f6)), (a7, .inl (cI, 120, .inl f7))] H := hP
  have hD : va_D A [(a0, .inr (6, [.ref a1, .ref a2, .ref a3, .ref a4, .ref a5, .ref a6, .ref a7, .int (nI k)])), (a1, .inl (cI, 120, .inl (upd f1 k p0))), (a2, .inl (cQ, 3, .inr (.inr (.inr (.inr (g3 b0 b1 b2)))))), (b0, .inl (cI, 120, .inl (upd h0 k p1))), (b1, .inl (cI, 120, .inl (upd h1 k p2))), (b2, .inl (cI, 120, .inl (upd h2 k p3))), (a3, .inl (cI, 120, .inl (upd f3 k p4))), (a4, .inl (cI, 120, .inl (upd f4 k 1))), (a5, .inl (cI, 120, .inl f5)), (a6, .inl (cZ, 120, .inl f6)), (a7, .inl (cI, 120, .inl f7))] := hD
  refine lv_aload_n hx hb zd_Ro_add_62 rfl (lv_at hl 1 rfl) ?_
  refine va_get (D := (dC, dI)) (ci := 6) (v := .ref a5) (C := zR_Ro) (T := zT_Ro) (N := 8) hx hb hts zin_Ro hown hK hP 0 rfl rfl 4 (by decide) (hts _ zw_47) (fun _ h9 => h9) rfl zd_Ro_add_63 ?_
  refine lv_iload hx hb zd_Ro_add_66 (lv_at hl 0 rfl) ?_
  refine lv_iconst (v := 1) hx hb zd_Ro_add_68 (by decide) ?_
  refine va_iast hx hb hK hP hD hS 8 0 rfl rfl (vp_in_nI (show k < 120 from by omega) (by decide)) zd_Ro_add_69 (fun H locs hP hD hS => ?_)
  rw [show (nI k).toNatClampNeg = k from nI_clamp (by omega)] at hP hD
  have hP : va_P (dC, dI) zCl [(a0, .inr (6, [.ref a1, .ref a2, .ref a3, .ref a4, .ref a5, .ref a6, .ref a7, .int (nI k)])), (a1, .inl (cI, 120, .inl (upd f1 k p0))), (a2, .inl (cQ, 3, .inr (.inr (.inr (.inr (g3 b0 b1 b2)))))), (b0, .inl (cI, 120, .inl (upd h0 k p1))), (b1, .inl (cI, 120, .inl (upd h1 k p2))), (b2, .inl (cI, 120, .inl (upd h2 k p3))), (a3, .inl (cI, 120, .inl (upd f3 k p4))), (a4, .inl (cI, 120, .inl (upd f4 k 1))), (a5, .inl (cI, 120, .inl (upd f5 k 1))), (a6, .inl (cZ, 120, .inl f6)), (a7, .inl (cI, 120, .inl f7))] H := hP
  have hD : va_D A [(a0, .inr (6, [.ref a1, .ref a2, .ref a3, .ref a4, .ref a5, .ref a6, .ref a7, .int (nI k)])), (a1, .inl (cI, 120, .inl (upd f1 k p0))), (a2, .inl (cQ, 3, .inr (.inr (.inr (.inr (g3 b0 b1 b2)))))), (b0, .inl (cI, 120, .inl (upd h0 k p1))), (b1, .inl (cI, 120, .inl (upd h1 k p2))), (b2, .inl (cI, 120, .inl (upd h2 k p3))), (a3, .inl (cI, 120, .inl (upd f3 k p4))), (a4, .inl (cI, 120, .inl (upd f4 k 1))), (a5, .inl (cI, 120, .inl (upd f5 k 1))), (a6, .inl (cZ, 120, .inl f6)), (a7, .inl (cI, 120, .inl f7))] := hD
  refine lv_aload_n hx hb zd_Ro_add_70 rfl (lv_at hl 1 rfl) ?_
  refine lv_dup hx hb zd_Ro_add_71 rfl ?_
  refine va_get (D := (dC, dI)) (ci := 6) (v := .int (nI k)) (C := zR_Ro) (T := zT_Ro) (N := 8) hx hb hts zin_Ro hown hK hP 0 rfl rfl 7 (by decide) (hts _ zw_53) (fun _ h9 => h9) rfl zd_Ro_add_72 ?_
  refine lv_iconst (v := 1) hx hb zd_Ro_add_75 (by decide) ?_
  refine lv_iadd hx hb zd_Ro_add_76 ?_
  rw [nI_1 k]
  refine va_put (D := (dC, dI)) (ci := 6) (v := .int (nI (k + 1))) (ty := .int) (C := zR_Ro) (T := zT_Ro) (N := 8) hx hb hts zin_Ro zt_Ro zt_Ro_ok zn_Ro hown hK hP hD hS 0 rfl rfl 7 (by decide) (hts _ zw_53) (fun _ h9 => h9) rfl (by decide +kernel) rfl rfl (Nat.le_of_ble_eq_true rfl) zd_Ro_add_77 (fun H locs hP hD hS => ?_)
  have hP : va_P (dC, dI) zCl [(a0, .inr (6, [.ref a1, .ref a2, .ref a3, .ref a4, .ref a5, .ref a6, .ref a7, .int (nI (k + 1))])), (a1, .inl (cI, 120, .inl (upd f1 k p0))), (a2, .inl (cQ, 3, .inr (.inr (.inr (.inr (g3 b0 b1 b2)))))), (b0, .inl (cI, 120, .inl (upd h0 k p1))), (b1, .inl (cI, 120, .inl (upd h1 k p2))), (b2, .inl (cI, 120, .inl (upd h2 k p3))), (a3, .inl (cI, 120, .inl (upd f3 k p4))), (a4, .inl (cI, 120, .inl (upd f4 k 1))), (a5, .inl (cI, 120, .inl (upd f5 k 1))), (a6, .inl (cZ, 120, .inl f6)), (a7, .inl (cI, 120, .inl f7))] H := hP
  have hD : va_D A [(a0, .inr (6, [.ref a1, .ref a2, .ref a3, .ref a4, .ref a5, .ref a6, .ref a7, .int (nI (k + 1))])), (a1, .inl (cI, 120, .inl (upd f1 k p0))), (a2, .inl (cQ, 3, .inr (.inr (.inr (.inr (g3 b0 b1 b2)))))), (b0, .inl (cI, 120, .inl (upd h0 k p1))), (b1, .inl (cI, 120, .inl (upd h1 k p2))), (b2, .inl (cI, 120, .inl (upd h2 k p3))), (a3, .inl (cI, 120, .inl (upd f3 k p4))), (a4, .inl (cI, 120, .inl (upd f4 k 1))), (a5, .inl (cI, 120, .inl (upd f5 k 1))), (a6, .inl (cZ, 120, .inl f6)), (a7, .inl (cI, 120, .inl f7))] := hD
  refine lv_iload hx hb zd_Ro_add_80 (lv_at hl 0 rfl) ?_
  exact z_iret (S := Unit) (w1 := fun (u : Unit) => [(a0, .inr (6, [.ref a1, .ref a2, .ref a3, .ref a4, .ref a5, .ref a6, .ref a7, .int (nI (k + 1))])), (a1, .inl (cI, 120, .inl (upd f1 k p0))), (a2, .inl (cQ, 3, .inr (.inr (.inr (.inr (g3 b0 b1 b2)))))), (b0, .inl (cI, 120, .inl (upd h0 k p1))), (b1, .inl (cI, 120, .inl (upd h1 k p2))), (b2, .inl (cI, 120, .inl (upd h2 k p3))), (a3, .inl (cI, 120, .inl (upd f3 k p4))), (a4, .inl (cI, 120, .inl (upd f4 k 1))), (a5, .inl (cI, 120, .inl (upd f5 k 1))), (a6, .inl (cZ, 120, .inl f6)), (a7, .inl (cI, 120, .inl f7))]) () hx hb hr hlocks rfl hP hD hS (Nat.le_of_ble_eq_true rfl) (Nat.le_of_ble_eq_true rfl) zd_Ro_add_82
set_option maxHeartbeats 4000000 in
set_option maxRecDepth 100000 in
theorem k_Ro_isSealed (l : Launch) (hst : l.stackTraces = false) (dC : Nat → ClassId) (dI : Nat → Nat → Nat) (cI cZ cJ cQ : ClassId) (sz : Nat) (a0 : Nat) (a1 : Nat) (a2 : Nat) (a3 : Nat) (a4 : Nat) (a5 : Nat) (a6 : Nat) (a7 : Nat) (k : Nat) (f7 : Nat → Int32) (p0 : Int32) (p1 : Int32) (hk : k ≤ 120) (hg : gEx p0 (nI k)) : Met l zy_Ro_isSealed zws_Ro_isSealed ({ frames := 0, cells := 0, slots := 0, locals := 0 }) (zPc (dC, dI) zCl (zTy cI cZ cJ cQ) [(a0, .inr (6, [.ref a1, .ref a2, .ref a3, .ref a4, .ref a5, .ref a6, .ref a7, .int (nI k)])), (a7, .inl (cI, 120, .inl f7))] sz [.ref a0, .int p0, .int p1]) (zQi (dC, dI) zCl (fun (r : Int32) (u : Unit) => (r = bI (¬ f7 p0.toNatClampNeg &&& (1 <<< (p1 &&& 31)) = 0))) (fun (u : Unit) => [(a0, .inr (6, [.ref a1, .ref a2, .ref a3, .ref a4, .ref a5, .ref a6, .ref a7, .int (nI k)])), (a7, .inl (cI, 120, .inl f7))]) (va_A [(a0, .inr (6, [.ref a1, .ref a2, .ref a3, .ref a4, .ref a5, .ref a6, .ref a7, .int (nI k)])), (a7, .inl (cI, 120, .inl f7))] sz)) 0 0 (va_A [(a0, .inr (6, [.ref a1, .ref a2, .ref a3, .ref a4, .ref a5, .ref a6, .ref a7, .int (nI k)])), (a7, .inl (cI, 120, .inl f7))] sz) := by
  refine Met.ofW (cc := zc_Ro_isSealed) (maxL := 3) (ret := (some .boolean)) (by decide) rfl ?_
  intro p e s m args below meth c s₁ B hml hv
  obtain ⟨rfl, hsz, hP, hK, hD0, hZ⟩ := hv
  have hx := B.exec
  have hb := B.bytes
  have hr := B.returns
  have hts := fun (w : Cond) (h : w ∈ zW) => atoms_spec (ws := zws_Ro_isSealed) B.pre w (List.mem_cons_of_mem _ h)
  have hown : s.vm.findClass zR_Ro = some m.cls := findClass_of_methodNamed B.named
  have hlocks := B.notSynchronized
  subst hsz
  have hD := hD0.self (sz := s.heap.size)
  generalize hAe : va_A [(a0, .inr (6, [.ref a1, .ref a2, .ref a3, .ref a4, .ref a5, .ref a6, .ref a7, .int (nI k)])), (a7, .inl (cI, 120, .inl f7))] s.heap.size = A at hD hZ ⊢
  have hA : ∀ q : Nat, s.heap.size ≤ q → A q := fun q h => by rw [← hAe]; exact Or.inr h
  have hS : va_S A s.heap s.heap [] := va_S.rf
  have hl := lv_entry ([.ref a0, .int p0, .int p1]) (n := 3) (Nat.le_of_ble_eq_true rfl)
  rw [lg_entry_eq]
  generalize (lg_sl ([.ref a0, .int p0, .int p1]) ++ List.replicate (3 - (lg_sl ([.ref a0, .int p0, .int p1])).length) Slot.unset).toArray = ls at hl ⊢
  have hl : lv_has ls 3 [(0, .ref a0), (1, .int p0), (2, .int p1)] := hl
  refine z_start hP hS (fun H locs hP hS => ?_)
  refine lv_aload_n hx hb zd_Ro_isSealed_0 rfl (lv_at hl 0 rfl) ?_
  refine va_get (D := (dC, dI)) (ci := 6) (v := .ref a7) (C := zR_Ro) (T := zT_Ro) (N := 8) hx hb hts zin_Ro hown hK hP 0 rfl rfl 6 (by decide) (hts _ zw_51) (fun _ h9 => h9) rfl zd_Ro_isSealed_1 ?_
  refine lv_iload_n hx hb zd_Ro_isSealed_4 rfl (lv_at hl 1 rfl) ?_
  refine va_iald hx hb hK hP 1 0 rfl rfl (z_inG hg hk (by decide)) zd_Ro_isSealed_5 ?_
  refine lv_iconst (v := 1) hx hb zd_Ro_isSealed_6 (by decide) ?_
  refine lv_iload_n hx hb zd_Ro_isSealed_7 rfl (lv_at hl 2 rfl) ?_
  refine lv_ishl hx hb zd_Ro_isSealed_8 ?_
  refine lv_iand hx hb zd_Ro_isSealed_9 ?_
  refine lv_if_eq (tgt := 17) hx hb zd_Ro_isSealed_10 (by decide) (fun c_1 => ?_) (fun c_1 => ?_)
  · refine lv_iconst (v := 0) hx hb zd_Ro_isSealed_17 (by decide) ?_
    exact z_zret (S := Unit) (w1 := fun (u : Unit) => [(a0, .inr (6, [.ref a1, .ref a2, .ref a3, .ref a4, .ref a5, .ref a6, .ref a7, .int (nI k)])), (a7, .inl (cI, 120, .inl f7))]) () hx hb hr hlocks (Or.inl rfl) (bI_f (fun h9 => h9 c_1)).symm hP hD hS (Nat.le_of_ble_eq_true rfl) (Nat.le_of_ble_eq_true rfl) zd_Ro_isSealed_18
  · refine lv_iconst (v := 1) hx hb zd_Ro_isSealed_13 (by decide) ?_
    refine lv_goto (tgt := 18) hx hb zd_Ro_isSealed_14 (by decide) ?_
    exact z_zret (S := Unit) (w1 := fun (u : Unit) => [(a0, .inr (6, [.ref a1, .ref a2, .ref a3, .ref a4, .ref a5, .ref a6, .ref a7, .int (nI k)])), (a7, .inl (cI, 120, .inl f7))]) () hx hb hr hlocks (Or.inr rfl) (bI_t c_1).symm hP hD hS (Nat.le_of_ble_eq_true rfl) (Nat.le_of_ble_eq_true rfl) zd_Ro_isSealed_18
set_option maxHeartbeats 4000000 in
set_option maxRecDepth 100000 in
theorem k_Ri_holder (l : Launch) (hst : l.stackTraces = false) (dC : Nat → ClassId) (dI : Nat → Nat → Nat) (cI cZ cJ cQ : ClassId) (sz : Nat) (a0 : Nat) (a1 : Nat) (a2 : Nat) (a3 : Nat) (f1 : Nat → Int32) (f2 : Nat → Int32) (f3 : Nat → Int32) (p0 : Int32) (p1 : Int32) (p2 : Int32) (h0 : vp_in p0 16) (h1 : vp_in p1 4) (hm : f2 p0.toNatClampNeg = -1 ∨ vp_in (f2 p0.toNatClampNeg) 32) : Met l zy_Ri_holder zws_Ri_holder ({ frames := 0, cells := 0, slots := 0, locals := 0 }) (zPc (dC, dI) zCl (zTy cI cZ cJ cQ) [(a0, .inr (5, [.ref a1, .ref a2, .ref a3])), (a1, .inl (cI, 4, .inl f1)), (a2, .inl (cI, 16, .inl f2)), (a3, .inl (cI, 32, .inl f3))] sz [.ref a0, .int p0, .int p1, .int p2]) (zQi (dC, dI) zCl (fun (r : Int32) (u : Unit) => (r = hldF f1 f2 f3 p0 p1 p2)) (fun (u : Unit) => [(a0, .inr (5, [.ref a1, .ref a2, .ref a3])), (a1, .inl (cI, 4, .inl f1)), (a2, .inl (cI, 16, .inl f2)), (a3, .inl (cI, 32, .inl f3))]) (va_A [(a0, .inr (5, [.ref a1, .ref a2, .ref a3])), (a1, .inl (cI, 4, .inl f1)), (a2, .inl (cI, 16, .inl f2)), (a3, .inl (cI, 32, .inl f3))] sz)) 0 0 (va_A [(a0, .inr (5, [.ref a1, .ref a2, .ref a3])), (a1, .inl (cI, 4, .inl f1)), (a2, .inl (cI, 16, .inl f2)), (a3, .inl (cI, 32, .inl f3))] sz) := by
  refine Met.ofW (cc := zc_Ri_holder) (maxL := 6) (ret := (some .int)) (by decide) rfl ?_
  intro p e s m args below meth c s₁ B hml hv
  obtain ⟨rfl, hsz, hP, hK, hD0, hZ⟩ := hv
  have hx := B.exec
  have hb := B.bytes
  have hr := B.returns
  have hts := fun (w : Cond) (h : w ∈ zW) => atoms_spec (ws := zws_Ri_holder) B.pre w (List.mem_cons_of_mem _ h)
  have hown : s.vm.findClass zR_Ri = some m.cls := findClass_of_methodNamed B.named
  have hlocks := B.notSynchronized
  subst hsz
  have hD := hD0.self (sz := s.heap.size)
  generalize hAe : va_A [(a0, .inr (5, [.ref a1, .ref a2, .ref a3])), (a1, .inl (cI, 4, .inl f1)), (a2, .inl (cI, 16, .inl f2)), (a3, .inl (cI, 32, .inl f3))] s.heap.size = A at hD hZ ⊢
  have hA : ∀ q : Nat, s.heap.size ≤ q → A q := fun q h => by rw [← hAe]; exact Or.inr h
  have hS : va_S A s.heap s.heap [] := va_S.rf
  have hl := lv_entry ([.ref a0, .int p0, .int p1, .int p2]) (n := 6) (Nat.le_of_ble_eq_true rfl)
  rw [lg_entry_eq]
  generalize (lg_sl ([.ref a0, .int p0, .int p1, .int p2]) ++ List.replicate (6 - (lg_sl ([.ref a0, .int p0, .int p1, .int p2])).length) Slot.unset).toArray = ls at hl ⊢
  have hl : lv_has ls 6 [(0, .ref a0), (1, .int p0), (2, .int p1), (3, .int p2)] := hl
  refine z_start hP hS (fun H locs hP hS => ?_)
  refine lv_aload_n hx hb zd_Ri_holder_0 rfl (lv_at hl 0 rfl) ?_
  refine va_get (D := (dC, dI)) (ci := 5) (v := .ref a2) (C := zR_Ri) (T := zT_Ri) (N := 3) hx hb hts zin_Ri hown hK hP 0 rfl rfl 1 (by decide) (hts _ zw_212) (fun _ h9 => h9) rfl zd_Ri_holder_1 ?_
  refine lv_iload_n hx hb zd_Ri_holder_4 rfl (lv_at hl 1 rfl) ?_
  refine va_iald hx hb hK hP 2 0 rfl rfl h0 zd_Ri_holder_5 ?_
  refine lv_istore (lv' := [(4, .int (f2 p0.toNatClampNeg)), (0, .ref a0), (1, .int p0), (2, .int p1), (3, .int p2)]) hx hb zd_Ri_holder_6 hl (by decide) rfl (fun ls hl => ?_)
  refine lv_iload hx hb zd_Ri_holder_8 (lv_at hl 0 rfl) ?_
  refine lv_iconst (v := -1) hx hb zd_Ri_holder_10 (by decide) ?_
  refine lv_icmp_ne (tgt := 16) hx hb zd_Ri_holder_11 (by decide) (fun c_1 => ?_) (fun c_1 => ?_)
  · refine lv_aload_n hx hb zd_Ri_holder_16 rfl (lv_at hl 1 rfl) ?_
    refine va_get (D := (dC, dI)) (ci := 5) (v := .ref a3) (C := zR_Ri) (T := zT_Ri) (N := 3) hx hb hts zin_Ri hown hK hP 0 rfl rfl 2 (by decide) (hts _ zw_214) (fun _ h9 => h9) rfl zd_Ri_holder_17 ?_
    refine lv_iload hx hb zd_Ri_holder_20 (lv_at hl 0 rfl) ?_
    refine va_iald hx hb hK hP 3 0 rfl rfl (hm.resolve_left c_1) zd_Ri_holder_22 ?_
    refine lv_iconst (v := -1) hx hb zd_Ri_holder_23 (by decide) ?_
    refine lv_icmp_ne (tgt := 31) hx hb zd_Ri_holder_24 (by decide) (fun c_2 => ?_) (fun c_2 => ?_)
    · refine lv_iconst (v := 0) hx hb zd_Ri_holder_31 (by decide) ?_
      refine lv_istore (lv' := [(5, .int 0), (4, .int (f2 p0.toNatClampNeg)), (0, .ref a0), (1, .int p0), (2, .int p1), (3, .int p2)]) hx hb zd_Ri_holder_32 hl (by decide) rfl (fun ls hl => ?_)
      refine lv_iload hx hb zd_Ri_holder_34 (lv_at hl 0 rfl) ?_
      refine lv_if_ne (tgt := 61) hx hb zd_Ri_holder_36 (by decide) (fun c_3 => absurd (by decide : (0 : Int32) = 0) c_3) (fun _ => ?_)
      refine lv_iload_n hx hb zd_Ri_holder_39 rfl (lv_at hl 5 rfl) ?_
      refine lv_aload_n hx hb zd_Ri_holder_40 rfl (lv_at hl 2 rfl) ?_
      refine va_get (D := (dC, dI)) (ci := 5) (v := .ref a3) (C := zR_Ri) (T := zT_Ri) (N := 3) hx hb hts zin_Ri hown hK hP 0 rfl rfl 2 (by decide) (hts _ zw_214) (fun _ h9 => h9) rfl zd_Ri_holder_41 ?_
      refine lv_iload hx hb zd_Ri_holder_44 (lv_at hl 1 rfl) ?_
      refine va_iald hx hb hK hP 3 0 rfl rfl (hm.resolve_left c_1) zd_Ri_holder_46 ?_
      refine lv_aload_n hx hb zd_Ri_holder_47 rfl (lv_at hl 2 rfl) ?_
      refine va_get (D := (dC, dI)) (ci := 5) (v := .ref a1) (C := zR_Ri) (T := zT_Ri) (N := 3) hx hb hts zin_Ri hown hK hP 0 rfl rfl 0 (by decide) (hts _ zw_210) (fun _ h9 => h9) rfl zd_Ri_holder_48 ?_
      refine lv_iload_n hx hb zd_Ri_holder_51 rfl (lv_at hl 4 rfl) ?_
      refine va_iald hx hb hK hP 1 0 rfl rfl h1 zd_Ri_holder_52 ?_
      refine lv_sipush (v := 365) hx hb zd_Ri_holder_53 (by decide) ?_
      refine lv_imul hx hb zd_Ri_holder_56 ?_
      refine lv_iadd hx hb zd_Ri_holder_57 ?_
      refine lv_icmp_gt (tgt := 66) hx hb zd_Ri_holder_58 (by decide) (fun c_4 => ?_) (fun c_4 => ?_)
      · refine lv_iconst (v := -1) hx hb zd_Ri_holder_66 (by decide) ?_
        exact z_iret (S := Unit) (w1 := fun (u : Unit) => [(a0, .inr (5, [.ref a1, .ref a2, .ref a3])), (a1, .inl (cI, 4, .inl f1)), (a2, .inl (cI, 16, .inl f2)), (a3, .inl (cI, 32, .inl f3))]) () hx hb hr hlocks (by unfold hldF; grind) hP hD hS (Nat.le_of_ble_eq_true rfl) (Nat.le_of_ble_eq_true rfl) zd_Ri_holder_67
      · refine lv_iload hx hb zd_Ri_holder_61 (lv_at hl 1 rfl) ?_
        refine lv_goto (tgt := 67) hx hb zd_Ri_holder_63 (by decide) ?_
        exact z_iret (S := Unit) (w1 := fun (u : Unit) => [(a0, .inr (5, [.ref a1, .ref a2, .ref a3])), (a1, .inl (cI, 4, .inl f1)), (a2, .inl (cI, 16, .inl f2)), (a3, .inl (cI, 32, .inl f3))]) () hx hb hr hlocks (by unfold hldF; grind) hP hD hS (Nat.le_of_ble_eq_true rfl) (Nat.le_of_ble_eq_true rfl) zd_Ri_holder_67
    · refine lv_iconst (v := 1) hx hb zd_Ri_holder_27 (by decide) ?_
      refine lv_goto (tgt := 32) hx hb zd_Ri_holder_28 (by decide) ?_
      refine lv_istore (lv' := [(5, .int 1), (4, .int (f2 p0.toNatClampNeg)), (0, .ref a0), (1, .int p0), (2, .int p1), (3, .int p2)]) hx hb zd_Ri_holder_32 hl (by decide) rfl (fun ls hl => ?_)
      refine lv_iload hx hb zd_Ri_holder_34 (lv_at hl 0 rfl) ?_
      refine lv_if_ne (tgt := 61) hx hb zd_Ri_holder_36 (by decide) (fun _ => ?_) (fun c_5 => absurd c_5 (by decide : ¬ (1 : Int32) = 0))
      refine lv_iload hx hb zd_Ri_holder_61 (lv_at hl 1 rfl) ?_
      refine lv_goto (tgt := 67) hx hb zd_Ri_holder_63 (by decide) ?_
      exact z_iret (S := Unit) (w1 := fun (u : Unit) => [(a0, .inr (5, [.ref a1, .ref a2, .ref a3])), (a1, .inl (cI, 4, .inl f1)), (a2, .inl (cI, 16, .inl f2)), (a3, .inl (cI, 32, .inl f3))]) () hx hb hr hlocks (by unfold hldF; grind) hP hD hS (Nat.le_of_ble_eq_true rfl) (Nat.le_of_ble_eq_true rfl) zd_Ri_holder_67
  · refine lv_iconst (v := -1) hx hb zd_Ri_holder_14 (by decide) ?_
    exact z_iret (S := Unit) (w1 := fun (u : Unit) => [(a0, .inr (5, [.ref a1, .ref a2, .ref a3])), (a1, .inl (cI, 4, .inl f1)), (a2, .inl (cI, 16, .inl f2)), (a3, .inl (cI, 32, .inl f3))]) () hx hb hr hlocks (by unfold hldF; grind) hP hD hS (Nat.le_of_ble_eq_true rfl) (Nat.le_of_ble_eq_true rfl) zd_Ri_holder_15
