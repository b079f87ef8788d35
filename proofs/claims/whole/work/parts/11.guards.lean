abbrev gEx (n h : Int32) : Prop := ¬ n < 0 ∧ n < h
abbrev gPl (k : Int32) : Prop := ¬ k < 0
abbrev gDay (d : Int32) : Prop := ¬ d < 0 ∧ d ≤ 100000
abbrev gSpan (f t : Int32) : Prop := (gDay f ∧ gDay t) ∧ f ≤ t
abbrev gRoom (c m : Int32) : Prop := c < m
theorem z_ldcw {p : Program} {l : Launch} {e : Env} {R : Room} {s : State} {m : MethodId} {args : Array Value} {below : List Frame} {meth : Method} {c : Code} {H : Heap} {locs : List Loc} {cells slots : Nat} {Q : State → Prop} {cc : ByteArray} {pc : Nat} {ls : Array Slot} {rest : List Value} (hx : p.tables.exec = Jvm.exec) (hb : c.code = cc) {own : String} {index : Nat} {v : Int32} (hown : s.vm.findClass own = some m.cls) (hconst : (Cond.constant own index v).before args s = true) (hdg : decode cc pc = .ok (.ldc_w index, 3))
    (k : W p l e R s m args below meth c H locs cells slots Q (F0 m (pc + 3) ls (.int v :: rest))) : W p l e R s m args below meth c H locs cells slots Q (F0 m pc ls rest) := by
  intro T hT X
  obtain ⟨t, a1, b1⟩ := k T hT X
  exact ⟨t, va_ldcwI X hx hown hconst (g := F0 m pc ls rest) rfl (by rw [hb]; exact hdg) t a1, b1⟩
set_option maxHeartbeats 4000000 in
set_option maxRecDepth 100000 in
theorem k_mustExist (l : Launch) (hst : l.stackTraces = false) (dC : Nat → ClassId) (dI : Nat → Nat → Nat) (cI cZ cJ cQ : ClassId) (sz : Nat) (p0 : Int32) (p1 : Int32) : zMet l zy_O_mustExist zws_O_mustExist ({ frames := 6, cells := 1, slots := 6, locals := 82 }) (zPc (dC, dI) zCl (zTy cI cZ cJ cQ) [] sz [.int p0, .int p1]) (zQv (dC, dI) zCl (fun (u : Unit) => (gEx p0 p1)) (fun (u : Unit) => []) (va_A [] sz)) (zX (dC, dI) zCl (fun (E : String) (_ : Unit) => (E = "java/util/NoSuchElementException" ∧ (¬ gEx p0 p1))) (fun (u : Unit) => []) (va_A [] sz)) 1 6 (va_A [] sz) := by
  refine zMet_ofW (cc := zc_O_mustExist) (maxL := 2) (ret := none) (by decide) rfl ?_
  intro p e s m args below meth c s₁ B hml hEx hv
  obtain ⟨rfl, hsz, hP, hK, hD0, hZ⟩ := hv
  have hx := B.exec
  have hb := B.bytes
  have hr := B.returns
  have hts := fun (w : Cond) (h : w ∈ zW) => atoms_spec (ws := zws_O_mustExist) B.pre w (List.mem_cons_of_mem _ h)
  have hown : s.vm.findClass zR_O = some m.cls := findClass_of_methodNamed B.named
  have hlocks := B.notSynchronized
  subst hsz
  have hD := hD0.self (sz := s.heap.size)
  generalize hAe : va_A [] s.heap.size = A at hD hZ ⊢
  have hA : ∀ q : Nat, s.heap.size ≤ q → A q := fun q h => by rw [← hAe]; exact Or.inr h
  have hS : va_S A s.heap s.heap [] := va_S.rf
  have hl := lv_entry ([.int p0, .int p1]) (n := 2) (Nat.le_of_ble_eq_true rfl)
  rw [lg_entry_eq]
  generalize (lg_sl ([.int p0, .int p1]) ++ List.replicate (2 - (lg_sl ([.int p0, .int p1])).length) Slot.unset).toArray = ls at hl ⊢
  have hl : lv_has ls 2 [(0, .int p0), (1, .int p1)] := hl
  refine z_start hP hS (fun H locs hP hS => ?_)
  refine lv_iload_n hx hb zd_O_mustExist_0 rfl (lv_at hl 0 rfl) ?_
  refine lv_if_lt (tgt := 9) hx hb zd_O_mustExist_1 (by decide) (fun c_1 => ?_) (fun c_1 => ?_)
  · exact z_throwW (SX := Unit) (cls := "java/util/NoSuchElementException") (text := "there is none of this number") (wx := fun (u : Unit) => []) () hx hb hst hown hts hZ zcov_NSE zw_394 (by decide +kernel) hS (hl.1.trans hml.symm) zd_O_mustExist_9 zd_O_mustExist_12 zd_O_mustExist_13 zd_O_mustExist_16 zd_O_mustExist_19 (fun x hx => (hEx x hx).elim) (Nat.le_of_ble_eq_true rfl) (Nat.le_of_ble_eq_true rfl) (Nat.le_of_ble_eq_true rfl) (Nat.le_of_ble_eq_true rfl) hlocks (⟨rfl, (by grind)⟩) hP hD (Nat.le_of_ble_eq_true rfl) (Nat.le_of_ble_eq_true rfl)
  · refine lv_iload_n hx hb zd_O_mustExist_4 rfl (lv_at hl 0 rfl) ?_
    refine lv_iload_n hx hb zd_O_mustExist_5 rfl (lv_at hl 1 rfl) ?_
    refine lv_icmp_lt (tgt := 20) hx hb zd_O_mustExist_6 (by decide) (fun c_2 => ?_) (fun c_2 => ?_)
    · exact z_ret (z_vret (S := Unit) (w1 := fun (u : Unit) => []) () hx hb hr hlocks (by grind) hP hD hS (Nat.le_of_ble_eq_true rfl) (Nat.le_of_ble_eq_true rfl) zd_O_mustExist_20)
    · exact z_throwW (SX := Unit) (cls := "java/util/NoSuchElementException") (text := "there is none of this number") (wx := fun (u : Unit) => []) () hx hb hst hown hts hZ zcov_NSE zw_394 (by decide +kernel) hS (hl.1.trans hml.symm) zd_O_mustExist_9 zd_O_mustExist_12 zd_O_mustExist_13 zd_O_mustExist_16 zd_O_mustExist_19 (fun x hx => (hEx x hx).elim) (Nat.le_of_ble_eq_true rfl) (Nat.le_of_ble_eq_true rfl) (Nat.le_of_ble_eq_true rfl) (Nat.le_of_ble_eq_true rfl) hlocks (⟨rfl, (by grind)⟩) hP hD (Nat.le_of_ble_eq_true rfl) (Nat.le_of_ble_eq_true rfl)
set_option maxHeartbeats 4000000 in
set_option maxRecDepth 100000 in
theorem k_mustBePlace (l : Launch) (hst : l.stackTraces = false) (dC : Nat → ClassId) (dI : Nat → Nat → Nat) (cI cZ cJ cQ : ClassId) (sz : Nat) (p0 : Int32) : zMet l zy_O_mustBePlace zws_O_mustBePlace ({ frames := 6, cells := 1, slots := 6, locals := 82 }) (zPc (dC, dI) zCl (zTy cI cZ cJ cQ) [] sz [.int p0]) (zQv (dC, dI) zCl (fun (u : Unit) => (gPl p0)) (fun (u : Unit) => []) (va_A [] sz)) (zX (dC, dI) zCl (fun (E : String) (_ : Unit) => (E = "java/util/NoSuchElementException" ∧ (¬ gPl p0))) (fun (u : Unit) => []) (va_A [] sz)) 1 6 (va_A [] sz) := by
  refine zMet_ofW (cc := zc_O_mustBePlace) (maxL := 1) (ret := none) (by decide) rfl ?_
  intro p e s m args below meth c s₁ B hml hEx hv
  obtain ⟨rfl, hsz, hP, hK, hD0, hZ⟩ := hv
  have hx := B.exec
  have hb := B.bytes
  have hr := B.returns
  have hts := fun (w : Cond) (h : w ∈ zW) => atoms_spec (ws := zws_O_mustBePlace) B.pre w (List.mem_cons_of_mem _ h)
  have hown : s.vm.findClass zR_O = some m.cls := findClass_of_methodNamed B.named
  have hlocks := B.notSynchronized
  subst hsz
  have hD := hD0.self (sz := s.heap.size)
  generalize hAe : va_A [] s.heap.size = A at hD hZ ⊢
  have hA : ∀ q : Nat, s.heap.size ≤ q → A q := fun q h => by rw [← hAe]; exact Or.inr h
  have hS : va_S A s.heap s.heap [] := va_S.rf
  have hl := lv_entry ([.int p0]) (n := 1) (Nat.le_of_ble_eq_true rfl)
  rw [lg_entry_eq]
  generalize (lg_sl ([.int p0]) ++ List.replicate (1 - (lg_sl ([.int p0])).length) Slot.unset).toArray = ls at hl ⊢
  have hl : lv_has ls 1 [(0, .int p0)] := hl
  refine z_start hP hS (fun H locs hP hS => ?_)
  refine lv_iload_n hx hb zd_O_mustBePlace_0 rfl (lv_at hl 0 rfl) ?_
  refine lv_if_ge (tgt := 15) hx hb zd_O_mustBePlace_1 (by decide) (fun c_1 => ?_) (fun c_1 => ?_)
  · exact z_ret (z_vret (S := Unit) (w1 := fun (u : Unit) => []) () hx hb hr hlocks (by grind) hP hD hS (Nat.le_of_ble_eq_true rfl) (Nat.le_of_ble_eq_true rfl) zd_O_mustBePlace_15)
  · exact z_throwW (SX := Unit) (cls := "java/util/NoSuchElementException") (text := "a place below 0") (wx := fun (u : Unit) => []) () hx hb hst hown hts hZ zcov_NSE zw_394 (by decide +kernel) hS (hl.1.trans hml.symm) zd_O_mustBePlace_4 zd_O_mustBePlace_7 zd_O_mustBePlace_8 zd_O_mustBePlace_11 zd_O_mustBePlace_14 (fun x hx => (hEx x hx).elim) (Nat.le_of_ble_eq_true rfl) (Nat.le_of_ble_eq_true rfl) (Nat.le_of_ble_eq_true rfl) (Nat.le_of_ble_eq_true rfl) hlocks (⟨rfl, (by grind)⟩) hP hD (Nat.le_of_ble_eq_true rfl) (Nat.le_of_ble_eq_true rfl)
set_option maxHeartbeats 4000000 in
set_option maxRecDepth 100000 in
theorem k_mustBeDay (l : Launch) (hst : l.stackTraces = false) (dC : Nat → ClassId) (dI : Nat → Nat → Nat) (cI cZ cJ cQ : ClassId) (sz : Nat) (p0 : Int32) : zMet l zy_O_mustBeDay zws_O_mustBeDay ({ frames := 6, cells := 1, slots := 6, locals := 82 }) (zPc (dC, dI) zCl (zTy cI cZ cJ cQ) [] sz [.int p0]) (zQv (dC, dI) zCl (fun (u : Unit) => (gDay p0)) (fun (u : Unit) => []) (va_A [] sz)) (zX (dC, dI) zCl (fun (E : String) (_ : Unit) => (E = "java/lang/IllegalArgumentException" ∧ (¬ gDay p0))) (fun (u : Unit) => []) (va_A [] sz)) 1 6 (va_A [] sz) := by
  refine zMet_ofW (cc := zc_O_mustBeDay) (maxL := 1) (ret := none) (by decide) rfl ?_
  intro p e s m args below meth c s₁ B hml hEx hv
  obtain ⟨rfl, hsz, hP, hK, hD0, hZ⟩ := hv
  have hx := B.exec
  have hb := B.bytes
  have hr := B.returns
  have hts := fun (w : Cond) (h : w ∈ zW) => atoms_spec (ws := zws_O_mustBeDay) B.pre w (List.mem_cons_of_mem _ h)
  have hown : s.vm.findClass zR_O = some m.cls := findClass_of_methodNamed B.named
  have hlocks := B.notSynchronized
  subst hsz
  have hD := hD0.self (sz := s.heap.size)
  generalize hAe : va_A [] s.heap.size = A at hD hZ ⊢
  have hA : ∀ q : Nat, s.heap.size ≤ q → A q := fun q h => by rw [← hAe]; exact Or.inr h
  have hS : va_S A s.heap s.heap [] := va_S.rf
  have hl := lv_entry ([.int p0]) (n := 1) (Nat.le_of_ble_eq_true rfl)
  rw [lg_entry_eq]
  generalize (lg_sl ([.int p0]) ++ List.replicate (1 - (lg_sl ([.int p0])).length) Slot.unset).toArray = ls at hl ⊢
  have hl : lv_has ls 1 [(0, .int p0)] := hl
  refine z_start hP hS (fun H locs hP hS => ?_)
  refine lv_iload_n hx hb zd_O_mustBeDay_0 rfl (lv_at hl 0 rfl) ?_
  refine lv_if_lt (tgt := 11) hx hb zd_O_mustBeDay_1 (by decide) (fun c_1 => ?_) (fun c_1 => ?_)
  · exact z_throwW (SX := Unit) (cls := "java/lang/IllegalArgumentException") (text := "no day") (wx := fun (u : Unit) => []) () hx hb hst hown hts hZ zcov_IAE zw_417 (by decide +kernel) hS (hl.1.trans hml.symm) zd_O_mustBeDay_11 zd_O_mustBeDay_14 zd_O_mustBeDay_15 zd_O_mustBeDay_18 zd_O_mustBeDay_21 (fun x hx => (hEx x hx).elim) (Nat.le_of_ble_eq_true rfl) (Nat.le_of_ble_eq_true rfl) (Nat.le_of_ble_eq_true rfl) (Nat.le_of_ble_eq_true rfl) hlocks (⟨rfl, (by grind)⟩) hP hD (Nat.le_of_ble_eq_true rfl) (Nat.le_of_ble_eq_true rfl)
  · refine lv_iload_n hx hb zd_O_mustBeDay_4 rfl (lv_at hl 0 rfl) ?_
    refine z_ldcw (v := 100000) hx hb hown (hts _ zw_416) zd_O_mustBeDay_5 ?_
    refine lv_icmp_le (tgt := 22) hx hb zd_O_mustBeDay_8 (by decide) (fun c_2 => ?_) (fun c_2 => ?_)
    · exact z_ret (z_vret (S := Unit) (w1 := fun (u : Unit) => []) () hx hb hr hlocks (by grind) hP hD hS (Nat.le_of_ble_eq_true rfl) (Nat.le_of_ble_eq_true rfl) zd_O_mustBeDay_22)
    · exact z_throwW (SX := Unit) (cls := "java/lang/IllegalArgumentException") (text := "no day") (wx := fun (u : Unit) => []) () hx hb hst hown hts hZ zcov_IAE zw_417 (by decide +kernel) hS (hl.1.trans hml.symm) zd_O_mustBeDay_11 zd_O_mustBeDay_14 zd_O_mustBeDay_15 zd_O_mustBeDay_18 zd_O_mustBeDay_21 (fun x hx => (hEx x hx).elim) (Nat.le_of_ble_eq_true rfl) (Nat.le_of_ble_eq_true rfl) (Nat.le_of_ble_eq_true rfl) (Nat.le_of_ble_eq_true rfl) hlocks (⟨rfl, (by grind)⟩) hP hD (Nat.le_of_ble_eq_true rfl) (Nat.le_of_ble_eq_true rfl)
set_option maxHeartbeats 4000000 in
set_option maxRecDepth 100000 in
theorem k_mustHaveRoom (l : Launch) (hst : l.stackTraces = false) (dC : Nat → ClassId) (dI : Nat → Nat → Nat) (cI cZ cJ cQ : ClassId) (sz : Nat) (p0 : Int32) (p1 : Int32) : zMet l zy_O_mustHaveRoom zws_O_mustHaveRoom ({ frames := 6, cells := 1, slots := 6, locals := 82 }) (zPc (dC, dI) zCl (zTy cI cZ cJ cQ) [] sz [.int p0, .int p1]) (zQv (dC, dI) zCl (fun (u : Unit) => (gRoom p0 p1)) (fun (u : Unit) => []) (va_A [] sz)) (zX (dC, dI) zCl (fun (E : String) (_ : Unit) => (E = "java/lang/IllegalStateException" ∧ (¬ gRoom p0 p1))) (fun (u : Unit) => []) (va_A [] sz)) 1 6 (va_A [] sz) := by
  refine zMet_ofW (cc := zc_O_mustHaveRoom) (maxL := 2) (ret := none) (by decide) rfl ?_
  intro p e s m args below meth c s₁ B hml hEx hv
  obtain ⟨rfl, hsz, hP, hK, hD0, hZ⟩ := hv
  have hx := B.exec
  have hb := B.bytes
  have hr := B.returns
  have hts := fun (w : Cond) (h : w ∈ zW) => atoms_spec (ws := zws_O_mustHaveRoom) B.pre w (List.mem_cons_of_mem _ h)
  have hown : s.vm.findClass zR_O = some m.cls := findClass_of_methodNamed B.named
  have hlocks := B.notSynchronized
  subst hsz
  have hD := hD0.self (sz := s.heap.size)
  generalize hAe : va_A [] s.heap.size = A at hD hZ ⊢
  have hA : ∀ q : Nat, s.heap.size ≤ q → A q := fun q h => by rw [← hAe]; exact Or.inr h
  have hS : va_S A s.heap s.heap [] := va_S.rf
  have hl := lv_entry ([.int p0, .int p1]) (n := 2) (Nat.le_of_ble_eq_true rfl)
  rw [lg_entry_eq]
  generalize (lg_sl ([.int p0, .int p1]) ++ List.replicate (2 - (lg_sl ([.int p0, .int p1])).length) Slot.unset).toArray = ls at hl ⊢
  have hl : lv_has ls 2 [(0, .int p0), (1, .int p1)] := hl
  refine z_start hP hS (fun H locs hP hS => ?_)
  refine lv_iload_n hx hb zd_O_mustHaveRoom_0 rfl (lv_at hl 0 rfl) ?_
  refine lv_iload_n hx hb zd_O_mustHaveRoom_1 rfl (lv_at hl 1 rfl) ?_
  refine lv_icmp_lt (tgt := 16) hx hb zd_O_mustHaveRoom_2 (by decide) (fun c_1 => ?_) (fun c_1 => ?_)
  · exact z_ret (z_vret (S := Unit) (w1 := fun (u : Unit) => []) () hx hb hr hlocks (by grind) hP hD hS (Nat.le_of_ble_eq_true rfl) (Nat.le_of_ble_eq_true rfl) zd_O_mustHaveRoom_16)
  · exact z_throwW (SX := Unit) (cls := "java/lang/IllegalStateException") (text := "there are as many as there may be") (wx := fun (u : Unit) => []) () hx hb hst hown hts hZ zcov_ISE zw_314 (by decide +kernel) hS (hl.1.trans hml.symm) zd_O_mustHaveRoom_5 zd_O_mustHaveRoom_8 zd_O_mustHaveRoom_9 zd_O_mustHaveRoom_12 zd_O_mustHaveRoom_15 (fun x hx => (hEx x hx).elim) (Nat.le_of_ble_eq_true rfl) (Nat.le_of_ble_eq_true rfl) (Nat.le_of_ble_eq_true rfl) (Nat.le_of_ble_eq_true rfl) hlocks (⟨rfl, (by grind)⟩) hP hD (Nat.le_of_ble_eq_true rfl) (Nat.le_of_ble_eq_true rfl)
set_option maxHeartbeats 4000000 in
set_option maxRecDepth 100000 in
theorem k_mustBeSpan (l : Launch) (hst : l.stackTraces = false) (dC : Nat → ClassId) (dI : Nat → Nat → Nat) (cI cZ cJ cQ : ClassId) (sz : Nat) (p0 : Int32) (p1 : Int32) : zMet l zy_O_mustBeSpan zws_O_mustBeSpan ({ frames := 7, cells := 3, slots := 18, locals := 102 }) (zPc (dC, dI) zCl (zTy cI cZ cJ cQ) [] sz [.int p0, .int p1]) (zQv (dC, dI) zCl (fun (u : Unit) => (gSpan p0 p1)) (fun (u : Unit) => []) (va_A [] sz)) (zX (dC, dI) zCl (fun (E : String) (_ : Unit) => (E = "java/lang/IllegalArgumentException" ∧ (¬ gSpan p0 p1))) (fun (u : Unit) => []) (va_A [] sz)) 3 18 (va_A [] sz) := by
  refine zMet_ofW (cc := zc_O_mustBeSpan) (maxL := 2) (ret := none) (by decide) rfl ?_
  intro p e s m args below meth c s₁ B hml hEx hv
  obtain ⟨rfl, hsz, hP, hK, hD0, hZ⟩ := hv
  have hx := B.exec
  have hb := B.bytes
  have hr := B.returns
  have hts := fun (w : Cond) (h : w ∈ zW) => atoms_spec (ws := zws_O_mustBeSpan) B.pre w (List.mem_cons_of_mem _ h)
  have hown : s.vm.findClass zR_O = some m.cls := findClass_of_methodNamed B.named
  have hlocks := B.notSynchronized
  subst hsz
  have hD := hD0.self (sz := s.heap.size)
  generalize hAe : va_A [] s.heap.size = A at hD hZ ⊢
  have hA : ∀ q : Nat, s.heap.size ≤ q → A q := fun q h => by rw [← hAe]; exact Or.inr h
  have hS : va_S A s.heap s.heap [] := va_S.rf
  have hl := lv_entry ([.int p0, .int p1]) (n := 2) (Nat.le_of_ble_eq_true rfl)
  rw [lg_entry_eq]
  generalize (lg_sl ([.int p0, .int p1]) ++ List.replicate (2 - (lg_sl ([.int p0, .int p1])).length) Slot.unset).toArray = ls at hl ⊢
  have hl : lv_has ls 2 [(0, .int p0), (1, .int p1)] := hl
  refine z_start hP hS (fun H locs hP hS => ?_)
  refine lv_iload_n hx hb zd_O_mustBeSpan_0 rfl (lv_at hl 0 rfl) ?_
  refine zx_callv (wc := []) (wr := []) [] [] hP hD hS hA rfl rfl (by decide) (by decide) (by decide) (fun hPc hDc hFc => z_goS (As := [.int p0]) (rest := []) ⟨hx, hb, hml, hown, hts⟩ (k_mustBeDay l hst dC dI cI cZ cJ cQ H.size p0) (cwS 1 hts (zgS zw_413 zw_414 zw_1 zw_415) rfl rfl rfl (by decide +kernel) ⟨(Nat.le_of_ble_eq_true rfl), (Nat.le_of_ble_eq_true rfl)⟩) ⟨zPc.blind, zPc.mk hPc hK hDc hZ hS hFc _⟩ rfl rfl hl.1 rfl (lv_room (Nat.le_of_ble_eq_true rfl)) zd_O_mustBeSpan_1 ⟨(Nat.le_of_ble_eq_true rfl), (Nat.le_of_ble_eq_true rfl)⟩) ?_ ?_
  · intro E ce q9 u H locs hpx hP hD hS hce hcv hcl
    have hP : va_P (dC, dI) zCl [] H := hP
    have hD : va_D A [] := hD
    exact z_out (SX := Unit) (wx := fun (u : Unit) => []) () (fun x hx => (hEx x hx).elim) hlocks hce hcv hcl ((by grind)) (z_sub hP [] rfl) (hD.sub [] (by decide) rfl) hS (Nat.le_of_ble_eq_true rfl) (Nat.le_of_ble_eq_true rfl)
  · intro u H locs hw hP hD hS
    have hP : va_P (dC, dI) zCl [] H := hP
    have hD : va_D A [] := hD
    have hv_1 := hw
    refine lv_iload_n hx hb zd_O_mustBeSpan_4 rfl (lv_at hl 1 rfl) ?_
    refine zx_callv (wc := []) (wr := []) [] [] hP hD hS hA rfl rfl (by decide) (by decide) (by decide) (fun hPc hDc hFc => z_goS (As := [.int p1]) (rest := []) ⟨hx, hb, hml, hown, hts⟩ (k_mustBeDay l hst dC dI cI cZ cJ cQ H.size p1) (cwS 1 hts (zgS zw_413 zw_414 zw_1 zw_415) rfl rfl rfl (by decide +kernel) ⟨(Nat.le_of_ble_eq_true rfl), (Nat.le_of_ble_eq_true rfl)⟩) ⟨zPc.blind, zPc.mk hPc hK hDc hZ hS hFc _⟩ rfl rfl hl.1 rfl (lv_room (Nat.le_of_ble_eq_true rfl)) zd_O_mustBeSpan_5 ⟨(Nat.le_of_ble_eq_true rfl), (Nat.le_of_ble_eq_true rfl)⟩) ?_ ?_
    · intro E ce q9 u H locs hpx hP hD hS hce hcv hcl
      have hP : va_P (dC, dI) zCl [] H := hP
      have hD : va_D A [] := hD
      exact z_out (SX := Unit) (wx := fun (u : Unit) => []) () (fun x hx => (hEx x hx).elim) hlocks hce hcv hcl ((by grind)) (z_sub hP [] rfl) (hD.sub [] (by decide) rfl) hS (Nat.le_of_ble_eq_true rfl) (Nat.le_of_ble_eq_true rfl)
    · intro u H locs hw hP hD hS
      have hP : va_P (dC, dI) zCl [] H := hP
      have hD : va_D A [] := hD
      have hv_2 := hw
      refine lv_iload_n hx hb zd_O_mustBeSpan_8 rfl (lv_at hl 0 rfl) ?_
      refine lv_iload_n hx hb zd_O_mustBeSpan_9 rfl (lv_at hl 1 rfl) ?_
      refine lv_icmp_le (tgt := 24) hx hb zd_O_mustBeSpan_10 (by decide) (fun c_3 => ?_) (fun c_3 => ?_)
      · exact z_ret (z_vret (S := Unit) (w1 := fun (u : Unit) => []) () hx hb hr hlocks (by grind) hP hD hS (Nat.le_of_ble_eq_true rfl) (Nat.le_of_ble_eq_true rfl) zd_O_mustBeSpan_24)
      · exact z_throwW (SX := Unit) (cls := "java/lang/IllegalArgumentException") (text := "from is above to") (wx := fun (u : Unit) => []) () hx hb hst hown hts hZ zcov_IAE zw_417 (by decide +kernel) hS (hl.1.trans hml.symm) zd_O_mustBeSpan_13 zd_O_mustBeSpan_16 zd_O_mustBeSpan_17 zd_O_mustBeSpan_20 zd_O_mustBeSpan_23 (fun x hx => (hEx x hx).elim) (Nat.le_of_ble_eq_true rfl) (Nat.le_of_ble_eq_true rfl) (Nat.le_of_ble_eq_true rfl) (Nat.le_of_ble_eq_true rfl) hlocks (⟨rfl, (by grind)⟩) hP hD (Nat.le_of_ble_eq_true rfl) (Nat.le_of_ble_eq_true rfl)
