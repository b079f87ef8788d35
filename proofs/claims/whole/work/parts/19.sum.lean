/-- Euclid's way from (g, l) ends within n steps -/
def euc : Nat → Nat → Nat → Prop
  | 0, _, l => l = 0
  | n + 1, g, l => l = 0 ∨ euc n l (g % l)
theorem euc_0 (n g : Nat) : euc n g 0 := by cases n <;> simp [euc]
theorem euc_bound : ∀ (m g l : Nat), l < 2 ^ m → euc (2 * m) g l
  | 0, g, l, h => by
    have h1 : l = 0 := by simpa using h
    exact h1
  | m + 1, g, l, h => by
    show euc (2 * m + 1 + 1) g l
    by_cases h0 : l = 0
    · exact Or.inl h0
    · refine Or.inr ?_
      have h1 : g % l < l := Nat.mod_lt _ (by omega)
      by_cases h2 : g % l = 0
      · rw [h2]; exact euc_0 _ _
      · refine Or.inr (euc_bound m _ _ ?_)
        have h3 : l % (g % l) * 2 < l := by
          have h4 : l % (g % l) < g % l := Nat.mod_lt _ (by omega)
          have h5 : g % l * (l / (g % l)) + l % (g % l) = l := Nat.div_add_mod l (g % l)
          have h6 : 1 ≤ l / (g % l) := (Nat.one_le_div_iff (by omega)).mpr (by omega)
          have h7 : g % l * 1 ≤ g % l * (l / (g % l)) := Nat.mul_le_mul_left _ h6
          omega
        rw [Nat.pow_succ] at h
        omega
theorem euc_step {n g l : Nat} (h : euc (n + 1) g l) (h0 : ¬ l = 0) : euc n l (g % l) := h.resolve_left h0
theorem gcd_step (g l : Nat) : Nat.gcd l (g % l) = Nat.gcd g l := by rw [Nat.gcd_comm g l, Nat.gcd_rec l g, Nat.gcd_comm]
theorem euc_step' {n g l : Nat} (h : euc n g l) (h0 : ¬ l = 0) : euc (n - 1) l (g % l) ∧ 0 < n := by
  cases n with
  | zero => exact absurd h h0
  | succ n => exact ⟨euc_step h h0, Nat.succ_pos _⟩
theorem lN_0 : lN 0 = 0 := rfl
theorem lN_one : lN 1 = 1 := rfl
theorem z_cmpE {a b : Nat} (ha : a < 2 ^ 63) (hb : b < 2 ^ 63) : lg_cmp (lN a) (lN b) = 0 ↔ a = b := by
  unfold lg_cmp
  by_cases h1 : lN a > lN b
  · have h2 : b < a := (pk_lLT hb ha).mp h1
    rw [if_pos h1]
    exact ⟨fun h => absurd h (by decide), fun h => absurd h (by omega)⟩
  · rw [if_neg h1]
    by_cases h2 : lN a = lN b
    · rw [if_pos h2]; exact ⟨fun _ => (pk_lEQ ha hb).mp h2, fun _ => rfl⟩
    · rw [if_neg h2]
      exact ⟨fun h => absurd h (by decide), fun h => absurd (by rw [h]) h2⟩
theorem z_cmp0 {l : Nat} (h : l < 2 ^ 63) : lg_cmp (lN l) 0 = 0 ↔ l = 0 := z_cmpE (b := 0) h (by decide)
theorem z_max1 {g : Nat} (h : g < 2 ^ 63) : (if lN g < 1 then (1 : Int64) else lN g) = lN (max 1 g) := by
  have h1 : lN g < (1 : Int64) ↔ g < 1 := pk_lLT (b := 1) h (by decide)
  by_cases hg : g < 1
  · rw [if_pos (h1.mpr hg), Nat.max_eq_left (by omega)]; rfl
  · rw [if_neg (fun q => hg (h1.mp q)), Nat.max_eq_right (by omega)]
theorem z_ne0 {d : Nat} (h : d < 2 ^ 63) (h0 : 0 < d) : ¬ lN d = 0 := fun q => by
  have := (pk_lEQ (b := 0) h (by decide)).mp q
  omega
/-- the divisor, and a share added to a fraction -/
def gcd1 (x y : Nat) : Nat := max 1 (Nat.gcd x y)
theorem gcd1_pos (x y : Nat) : 0 < gcd1 x y := by unfold gcd1; omega
theorem gcd1_lt {x y : Nat} (hy : 0 < y) : gcd1 x y ≤ y := by
  have h := Nat.le_of_dvd hy (Nat.gcd_dvd_right x y)
  unfold gcd1
  omega
set_option maxHeartbeats 4000000 in
set_option maxRecDepth 100000 in
theorem k_Su_commonDivisor (l : Launch) (hst : l.stackTraces = false) (dC : Nat → ClassId) (dI : Nat → Nat → Nat) (cI cZ cJ cQ : ClassId) (sz : Nat) (x : Nat) (y : Nat) (hx9 : x < 2 ^ 62) (hy9 : y < 2 ^ 40) : Met l zy_Su_commonDivisor zws_Su_commonDivisor ({ frames := 1, cells := 0, slots := 0, locals := 15 }) (zPc (dC, dI) zCl (zTy cI cZ cJ cQ) [] sz [.long (lN x), .long (lN y)]) (zQl (dC, dI) zCl (fun (r : Int64) (u : Unit) => (r = lN (gcd1 x y))) (fun (u : Unit) => []) (va_A [] sz)) 0 0 (va_A [] sz) := by
  refine Met.ofW (cc := zc_Su_commonDivisor) (maxL := 11) (ret := (some .long)) (by decide) rfl ?_
  intro p e s m args below meth c s₁ B hml hv
  obtain ⟨rfl, hsz, hP, hK, hD0, hZ⟩ := hv
  have hx := B.exec
  have hb := B.bytes
  have hr := B.returns
  have hts := fun (w : Cond) (h : w ∈ zW) => atoms_spec (ws := zws_Su_commonDivisor) B.pre w (List.mem_cons_of_mem _ h)
  have hown : s.vm.findClass zR_Su = some m.cls := findClass_of_methodNamed B.named
  have hlocks := B.notSynchronized
  subst hsz
  have hD := hD0.self (sz := s.heap.size)
  generalize hAe : va_A [] s.heap.size = A at hD hZ ⊢
  have hA : ∀ q : Nat, s.heap.size ≤ q → A q := fun q h => by rw [← hAe]; exact Or.inr h
  have hS : va_S A s.heap s.heap [] := va_S.rf
  have hl := lv_entry ([.long (lN x), .long (lN y)]) (n := 11) (Nat.le_of_ble_eq_true rfl)
  rw [lg_entry_eq]
  generalize (lg_sl ([.long (lN x), .long (lN y)]) ++ List.replicate (11 - (lg_sl ([.long (lN x), .long (lN y)])).length) Slot.unset).toArray = ls at hl ⊢
  have hl : lv_has ls 11 [(0, .long (lN x)), (2, .long (lN y))] := hl
  refine z_start hP hS (fun H locs hP hS => ?_)
  refine lv_lload_n hx hb zd_Su_commonDivisor_0 rfl (lv_at hl 0 rfl) ?_
  refine lv_lstore (lv' := [(4, .long (lN x)), (0, .long (lN x)), (2, .long (lN y))]) hx hb zd_Su_commonDivisor_1 hl (by decide) rfl (fun ls hl => ?_)
  refine lv_lload_n hx hb zd_Su_commonDivisor_3 rfl (lv_at hl 2 rfl) ?_
  refine lv_lstore (lv' := [(6, .long (lN y)), (4, .long (lN x)), (0, .long (lN x)), (2, .long (lN y))]) hx hb zd_Su_commonDivisor_4 hl (by decide) rfl (fun ls hl => ?_)
  refine lv_iconst (v := 0) hx hb zd_Su_commonDivisor_6 (by decide) ?_
  refine lv_istore (lv' := [(8, .int 0), (6, .long (lN y)), (4, .long (lN x)), (0, .long (lN x)), (2, .long (lN y))]) hx hb zd_Su_commonDivisor_7 hl (by decide) rfl (fun ls hl => ?_)
  refine z_loopN (σ := Nat × Nat × Nat × Nat) (fun (fu : Nat) (x9 : Nat × Nat × Nat × Nat) H locs ls => match x9 with | (i, g, q, n) => (i + fu = 100 ∧ (Nat.gcd g q = Nat.gcd x y) ∧ (g < 2 ^ 62) ∧ (q < 2 ^ 62) ∧ (euc n g q) ∧ (i + n < 100)) ∧ va_P (dC, dI) zCl [] H ∧ va_D A [] ∧ va_S A s.heap H locs ∧ lv_has ls 11 [(0, .long (lN x)), (2, .long (lN y)), (4, .long (lN g)), (6, .long (lN q)), (8, .int (nI i))]) (fun x9 H locs ls hI => ?_) (fun fu x9 H locs ls ih_9 hI => ?_) 100 (0, x, y, 80) ⟨⟨(by first | omega | (dsimp only; omega)), rfl, hx9, (by omega), (euc_bound 40 _ _ hy9), (by omega)⟩, z_sub hP [] rfl, hD.sub [] (by decide) rfl, hS, lv_sub hl [3, 4, 2, 1, 0] rfl⟩
  · obtain ⟨i, g, q, n⟩ := x9
    dsimp only at hI
    obtain ⟨⟨hfu, hgc, hg9, hq9, he, hn⟩, hP, hD, hS, hl⟩ := hI
    exact absurd hn (by omega)
  · obtain ⟨i, g, q, n⟩ := x9
    dsimp only at hI
    obtain ⟨⟨hfu, hgc, hg9, hq9, he, hn⟩, hP, hD, hS, hl⟩ := hI
    dsimp only at ih_9
    refine lv_iload hx hb zd_Su_commonDivisor_9 (lv_at hl 4 rfl) ?_
    refine lv_bipush (v := 100) hx hb zd_Su_commonDivisor_11 (by decide) ?_
    refine lv_icmp_ge (tgt := 44) hx hb zd_Su_commonDivisor_13 (by decide) (fun c_1 => absurd c_1 (nI_ge (b := 100) (by omega) (by decide))) (fun _ => ?_)
    refine lv_lload hx hb zd_Su_commonDivisor_16 (lv_at hl 3 rfl) ?_
    refine lv_lconst (v := 0) hx hb zd_Su_commonDivisor_18 (by decide) ?_
    refine W.lcmp hx hb zd_Su_commonDivisor_19 ?_
    refine lv_if_eq (tgt := 44) hx hb zd_Su_commonDivisor_20 (by decide) (fun c_2 => ?_) (fun c_2 => ?_)
    · refine lv_lconst (v := 1) hx hb zd_Su_commonDivisor_44 (by decide) ?_
      refine lv_lload hx hb zd_Su_commonDivisor_45 (lv_at hl 2 rfl) ?_
      refine va_mmax_long hx hb (hml.trans hl.1.symm) hown (hts _ zw_531) (hts _ zw_532) (hts _ zw_21) (hts _ zw_533) (Nat.le_of_ble_eq_true rfl) (Nat.le_of_ble_eq_true rfl) (Nat.le_of_ble_eq_true rfl) (Nat.le_of_ble_eq_true rfl) zd_Su_commonDivisor_47 ?_
      rw [z_max1 (g := g) (by omega)]
      exact z_lret (S := Unit) (w1 := fun (u : Unit) => []) () hx hb hr hlocks (by unfold gcd1; rw [← hgc, (z_cmp0 (by omega)).mp c_2, Nat.gcd_zero_right]) hP hD hS (Nat.le_of_ble_eq_true rfl) (Nat.le_of_ble_eq_true rfl) zd_Su_commonDivisor_50
    · have hq0 : ¬ q = 0 := (fun h9 => c_2 ((z_cmp0 (by omega)).mpr h9))
      have hq1 : 0 < q := by omega
      have hml9 : g % q < 2 ^ 62 := Nat.lt_trans (Nat.mod_lt g hq1) hq9
      refine lv_lload hx hb zd_Su_commonDivisor_23 (lv_at hl 2 rfl) ?_
      refine lv_lload hx hb zd_Su_commonDivisor_25 (lv_at hl 3 rfl) ?_
      refine lv_lrem hx hb zd_Su_commonDivisor_27 (z_ne0 (by omega) hq1) ?_
      rw [pk_lRem (a := g) (b := q) (by omega) (by omega) (by omega)]
      refine lv_lstore (lv' := [(9, .long (lN (g % q))), (0, .long (lN x)), (2, .long (lN y)), (4, .long (lN g)), (6, .long (lN q)), (8, .int (nI i))]) hx hb zd_Su_commonDivisor_28 hl (by decide) rfl (fun ls hl => ?_)
      refine lv_lload hx hb zd_Su_commonDivisor_30 (lv_at hl 4 rfl) ?_
      refine lv_lstore (lv' := [(4, .long (lN q)), (9, .long (lN (g % q))), (0, .long (lN x)), (2, .long (lN y)), (6, .long (lN q)), (8, .int (nI i))]) hx hb zd_Su_commonDivisor_32 hl (by decide) rfl (fun ls hl => ?_)
      refine lv_lload hx hb zd_Su_commonDivisor_34 (lv_at hl 1 rfl) ?_
      refine lv_lstore (lv' := [(6, .long (lN (g % q))), (4, .long (lN q)), (9, .long (lN (g % q))), (0, .long (lN x)), (2, .long (lN y)), (8, .int (nI i))]) hx hb zd_Su_commonDivisor_36 hl (by decide) rfl (fun ls hl => ?_)
      refine lv_iinc (v := nI (i + 1)) (lv' := [(8, .int (nI (i + 1))), (6, .long (lN (g % q))), (4, .long (lN q)), (9, .long (lN (g % q))), (0, .long (lN x)), (2, .long (lN y))]) hx hb zd_Su_commonDivisor_38 hl (k := 5) rfl (nI_1 i) (by decide) rfl (fun ls hl => ?_)
      refine lv_goto (tgt := 9) hx hb zd_Su_commonDivisor_41 (by decide) ?_
      exact ih_9 (i + 1, q, g % q, n - 1) _ _ _ ⟨⟨(by first | omega | (dsimp only; omega)), ((gcd_step g q).trans hgc), hq9, hml9, (euc_step' he hq0).1, (by have h8 := (euc_step' he hq0).2; dsimp only; omega)⟩, z_sub hP [] rfl, hD.sub [] (by decide) rfl, hS, lv_sub hl [4, 5, 2, 1, 0] rfl⟩
set_option maxHeartbeats 4000000 in
set_option maxRecDepth 100000 in
theorem k_Su_clear (l : Launch) (hst : l.stackTraces = false) (dC : Nat → ClassId) (dI : Nat → Nat → Nat) (cI cZ cJ cQ : ClassId) (sz : Nat) (a0 : Nat) (a : Nat) (b : Nat) : Met l zy_Su_clear zws_Su_clear ({ frames := 0, cells := 0, slots := 0, locals := 0 }) (zPc (dC, dI) zCl (zTy cI cZ cJ cQ) [(a0, .inr (8, [.long (lN a), .long (lN b)]))] sz [.ref a0]) (zQv (dC, dI) zCl (fun (u : Unit) => True) (fun (u : Unit) => [(a0, .inr (8, [.long (lN 0), .long (lN 1)]))]) (va_A [(a0, .inr (8, [.long (lN a), .long (lN b)]))] sz)) 0 0 (va_A [(a0, .inr (8, [.long (lN a), .long (lN b)]))] sz) := by
  refine Met.ofW (cc := zc_Su_clear) (maxL := 1) (ret := none) (by decide) rfl ?_
  intro p e s m args below meth c s₁ B hml hv
  obtain ⟨rfl, hsz, hP, hK, hD0, hZ⟩ := hv
  have hx := B.exec
  have hb := B.bytes
  have hr := B.returns
  have hts := fun (w : Cond) (h : w ∈ zW) => atoms_spec (ws := zws_Su_clear) B.pre w (List.mem_cons_of_mem _ h)
  have hown : s.vm.findClass zR_Su = some m.cls := findClass_of_methodNamed B.named
  have hlocks := B.notSynchronized
  subst hsz
  have hD := hD0.self (sz := s.heap.size)
  generalize hAe : va_A [(a0, .inr (8, [.long (lN a), .long (lN b)]))] s.heap.size = A at hD hZ ⊢
  have hA : ∀ q : Nat, s.heap.size ≤ q → A q := fun q h => by rw [← hAe]; exact Or.inr h
  have hS : va_S A s.heap s.heap [] := va_S.rf
  have hl := lv_entry ([.ref a0]) (n := 1) (Nat.le_of_ble_eq_true rfl)
  rw [lg_entry_eq]
  generalize (lg_sl ([.ref a0]) ++ List.replicate (1 - (lg_sl ([.ref a0])).length) Slot.unset).toArray = ls at hl ⊢
  have hl : lv_has ls 1 [(0, .ref a0)] := hl
  refine z_start hP hS (fun H locs hP hS => ?_)
  refine lv_aload_n hx hb zd_Su_clear_0 rfl (lv_at hl 0 rfl) ?_
  refine lv_lconst (v := 0) hx hb zd_Su_clear_1 (by decide) ?_
  refine va_put (D := (dC, dI)) (ci := 8) (v := .long 0) (ty := .long) (C := zR_Su) (T := zT_Su) (N := 2) hx hb hts zin_Su zt_Su zt_Su_ok zn_Su hown hK hP hD hS 0 rfl rfl 0 (by decide) (hts _ zw_132) (fun _ h9 => h9) rfl (by decide +kernel) rfl rfl (Nat.le_of_ble_eq_true rfl) zd_Su_clear_2 (fun H locs hP hD hS => ?_)
  have hP : va_P (dC, dI) zCl [(a0, .inr (8, [.long 0, .long (lN b)]))] H := hP
  have hD : va_D A [(a0, .inr (8, [.long 0, .long (lN b)]))] := hD
  refine lv_aload_n hx hb zd_Su_clear_5 rfl (lv_at hl 0 rfl) ?_
  refine lv_lconst (v := 1) hx hb zd_Su_clear_6 (by decide) ?_
  refine va_put (D := (dC, dI)) (ci := 8) (v := .long 1) (ty := .long) (C := zR_Su) (T := zT_Su) (N := 2) hx hb hts zin_Su zt_Su zt_Su_ok zn_Su hown hK hP hD hS 0 rfl rfl 1 (by decide) (hts _ zw_134) (fun _ h9 => h9) rfl (by decide +kernel) rfl rfl (Nat.le_of_ble_eq_true rfl) zd_Su_clear_7 (fun H locs hP hD hS => ?_)
  have hP : va_P (dC, dI) zCl [(a0, .inr (8, [.long 0, .long 1]))] H := hP
  have hD : va_D A [(a0, .inr (8, [.long 0, .long 1]))] := hD
  exact z_vret (S := Unit) (w1 := fun (u : Unit) => [(a0, .inr (8, [.long (lN 0), .long (lN 1)]))]) () hx hb hr hlocks trivial hP hD hS (Nat.le_of_ble_eq_true rfl) (Nat.le_of_ble_eq_true rfl) zd_Su_clear_10
set_option maxHeartbeats 4000000 in
set_option maxRecDepth 100000 in
theorem k_Su_add (l : Launch) (hst : l.stackTraces = false) (dC : Nat → ClassId) (dI : Nat → Nat → Nat) (cI cZ cJ cQ : ClassId) (sz : Nat) (a0 : Nat) (a : Nat) (b : Nat) (su : Nat) (sw : Nat) (ha9 : a ≤ 1000000000) (hb9 : 1 ≤ b ∧ b ≤ 1000000000) (hu9 : 1 ≤ su ∧ su ≤ 1000) (hv9 : 1 ≤ sw ∧ sw ≤ 1000) : Met l zy_Su_add zws_Su_add ({ frames := 2, cells := 0, slots := 0, locals := 45 }) (zPc (dC, dI) zCl (zTy cI cZ cJ cQ) [(a0, .inr (8, [.long (lN a), .long (lN b)]))] sz [.ref a0, .int (nI su), .int (nI sw)]) (zQv (dC, dI) zCl (fun (u : Unit) => True) (fun (u : Unit) => [(a0, .inr (8, [.long (lN ((a * sw + su * b) / gcd1 (a * sw + su * b) (b * sw))), .long (lN ((b * sw) / gcd1 (a * sw + su * b) (b * sw)))]))]) (va_A [(a0, .inr (8, [.long (lN a), .long (lN b)]))] sz)) 0 0 (va_A [(a0, .inr (8, [.long (lN a), .long (lN b)]))] sz) := by
  refine Met.ofW (cc := zc_Su_add) (maxL := 9) (ret := none) (by decide) rfl ?_
  intro p e s m args below meth c s₁ B hml hv
  obtain ⟨rfl, hsz, hP, hK, hD0, hZ⟩ := hv
  have hx := B.exec
  have hb := B.bytes
  have hr := B.returns
  have hts := fun (w : Cond) (h : w ∈ zW) => atoms_spec (ws := zws_Su_add) B.pre w (List.mem_cons_of_mem _ h)
  have hown : s.vm.findClass zR_Su = some m.cls := findClass_of_methodNamed B.named
  have hlocks := B.notSynchronized
  subst hsz
  have hD := hD0.self (sz := s.heap.size)
  generalize hAe : va_A [(a0, .inr (8, [.long (lN a), .long (lN b)]))] s.heap.size = A at hD hZ ⊢
  have hA : ∀ q : Nat, s.heap.size ≤ q → A q := fun q h => by rw [← hAe]; exact Or.inr h
  have hS : va_S A s.heap s.heap [] := va_S.rf
  have hl := lv_entry ([.ref a0, .int (nI su), .int (nI sw)]) (n := 9) (Nat.le_of_ble_eq_true rfl)
  rw [lg_entry_eq]
  generalize (lg_sl ([.ref a0, .int (nI su), .int (nI sw)]) ++ List.replicate (9 - (lg_sl ([.ref a0, .int (nI su), .int (nI sw)])).length) Slot.unset).toArray = ls at hl ⊢
  have hl : lv_has ls 9 [(0, .ref a0), (1, .int (nI su)), (2, .int (nI sw))] := hl
  refine z_start hP hS (fun H locs hP hS => ?_)
  have m1 : a * sw ≤ 1000000000 * 1000 := Nat.mul_le_mul ha9 hv9.2
  have m2 : su * b ≤ 1000 * 1000000000 := Nat.mul_le_mul hu9.2 hb9.2
  have m3 : b * sw ≤ 1000000000 * 1000 := Nat.mul_le_mul hb9.2 hv9.2
  have m4 : 1 * 1 ≤ b * sw := Nat.mul_le_mul hb9.1 hv9.1
  have m5 := gcd1_pos (a * sw + su * b) (b * sw)
  have m6 : gcd1 (a * sw + su * b) (b * sw) ≤ b * sw := gcd1_lt (by omega)
  refine lv_aload_n hx hb zd_Su_add_0 rfl (lv_at hl 0 rfl) ?_
  refine va_get (D := (dC, dI)) (ci := 8) (v := .long (lN a)) (C := zR_Su) (T := zT_Su) (N := 2) hx hb hts zin_Su hown hK hP 0 rfl rfl 0 (by decide) (hts _ zw_132) (fun _ h9 => h9) rfl zd_Su_add_1 ?_
  refine lv_iload_n hx hb zd_Su_add_4 rfl (lv_at hl 2 rfl) ?_
  refine lv_i2l hx hb zd_Su_add_5 rfl ?_
  rw [nI_l (n := sw) (by omega)]
  refine lv_lmul hx hb zd_Su_add_6 ?_
  rw [lN_mul a sw]
  refine lv_iload_n hx hb zd_Su_add_7 rfl (lv_at hl 1 rfl) ?_
  refine lv_i2l hx hb zd_Su_add_8 rfl ?_
  rw [nI_l (n := su) (by omega)]
  refine lv_aload_n hx hb zd_Su_add_9 rfl (lv_at hl 0 rfl) ?_
  refine va_get (D := (dC, dI)) (ci := 8) (v := .long (lN b)) (C := zR_Su) (T := zT_Su) (N := 2) hx hb hts zin_Su hown hK hP 0 rfl rfl 1 (by decide) (hts _ zw_134) (fun _ h9 => h9) rfl zd_Su_add_10 ?_
  refine lv_lmul hx hb zd_Su_add_13 ?_
  rw [lN_mul su b]
  refine lv_ladd hx hb zd_Su_add_14 ?_
  rw [lN_add (a * sw) (su * b)]
  refine lv_lstore_n (lv' := [(3, .long (lN (a * sw + su * b))), (0, .ref a0), (1, .int (nI su)), (2, .int (nI sw))]) hx hb zd_Su_add_15 rfl hl (by decide) rfl (fun ls hl => ?_)
  refine lv_aload_n hx hb zd_Su_add_16 rfl (lv_at hl 1 rfl) ?_
  refine va_get (D := (dC, dI)) (ci := 8) (v := .long (lN b)) (C := zR_Su) (T := zT_Su) (N := 2) hx hb hts zin_Su hown hK hP 0 rfl rfl 1 (by decide) (hts _ zw_134) (fun _ h9 => h9) rfl zd_Su_add_17 ?_
  refine lv_iload_n hx hb zd_Su_add_20 rfl (lv_at hl 3 rfl) ?_
  refine lv_i2l hx hb zd_Su_add_21 rfl ?_
  rw [nI_l (n := sw) (by omega)]
  refine lv_lmul hx hb zd_Su_add_22 ?_
  rw [lN_mul b sw]
  refine lv_lstore (lv' := [(5, .long (lN (b * sw))), (3, .long (lN (a * sw + su * b))), (0, .ref a0), (1, .int (nI su)), (2, .int (nI sw))]) hx hb zd_Su_add_23 hl (by decide) rfl (fun ls hl => ?_)
  refine lv_lload_n hx hb zd_Su_add_25 rfl (lv_at hl 1 rfl) ?_
  refine lv_lload hx hb zd_Su_add_26 (lv_at hl 0 rfl) ?_
  refine z_calll (wc := []) (wr := [(a0, .inr (8, [.long (lN a), .long (lN b)]))]) [] [0] hP hD hS hA rfl rfl (by decide) (by decide) (by decide) (fun hPc hDc hFc => va_runS (As := [.long (lN (a * sw + su * b)), .long (lN (b * sw))]) (rest := []) ⟨hx, hb, hml, hown, hts⟩ (k_Su_commonDivisor l hst dC dI cI cZ cJ cQ H.size (a * sw + su * b) (b * sw) (by omega) (by omega)) (cwS 2 hts (zgS zw_528 zw_529 zw_5 zw_530) rfl rfl rfl (by decide +kernel) ⟨(Nat.le_of_ble_eq_true rfl), (Nat.le_of_ble_eq_true rfl)⟩) ⟨zPc.blind, zPc.mk hPc hK hDc hZ hS hFc _⟩ rfl rfl hl.1 rfl (lv_room (Nat.le_of_ble_eq_true rfl)) zd_Su_add_28 ⟨(Nat.le_of_ble_eq_true rfl), (Nat.le_of_ble_eq_true rfl)⟩) (fun r_1 u H locs hw hP hD hS => ?_)
  have hP : va_P (dC, dI) zCl [(a0, .inr (8, [.long (lN a), .long (lN b)]))] H := hP
  have hD : va_D A [(a0, .inr (8, [.long (lN a), .long (lN b)]))] := hD
  subst hw
  refine lv_lstore (lv' := [(7, .long (lN (gcd1 (a * sw + su * b) (b * sw)))), (5, .long (lN (b * sw))), (3, .long (lN (a * sw + su * b))), (0, .ref a0), (1, .int (nI su)), (2, .int (nI sw))]) hx hb zd_Su_add_31 hl (by decide) rfl (fun ls hl => ?_)
  refine lv_aload_n hx hb zd_Su_add_33 rfl (lv_at hl 3 rfl) ?_
  refine lv_lload_n hx hb zd_Su_add_34 rfl (lv_at hl 2 rfl) ?_
  refine lv_lload hx hb zd_Su_add_35 (lv_at hl 0 rfl) ?_
  refine lv_ldiv hx hb zd_Su_add_37 (z_ne0 (by omega) m5) ?_
  rw [pk_lDiv (a := (a * sw + su * b)) (b := (gcd1 (a * sw + su * b) (b * sw))) (by omega) (by omega) (by omega)]
  refine va_put (D := (dC, dI)) (ci := 8) (v := .long (lN ((a * sw + su * b) / (gcd1 (a * sw + su * b) (b * sw))))) (ty := .long) (C := zR_Su) (T := zT_Su) (N := 2) hx hb hts zin_Su zt_Su zt_Su_ok zn_Su hown hK hP hD hS 0 rfl rfl 0 (by decide) (hts _ zw_132) (fun _ h9 => h9) rfl (by decide +kernel) rfl rfl (Nat.le_of_ble_eq_true rfl) zd_Su_add_38 (fun H locs hP hD hS => ?_)
  have hP : va_P (dC, dI) zCl [(a0, .inr (8, [.long (lN ((a * sw + su * b) / (gcd1 (a * sw + su * b) (b * sw)))), .long (lN b)]))] H := hP
  have hD : va_D A [(a0, .inr (8, [.long (lN ((a * sw + su * b) / (gcd1 (a * sw + su * b) (b * sw)))), .long (lN b)]))] := hD
  refine lv_aload_n hx hb zd_Su_add_41 rfl (lv_at hl 3 rfl) ?_
  refine lv_lload hx hb zd_Su_add_42 (lv_at hl 1 rfl) ?_
  refine lv_lload hx hb zd_Su_add_44 (lv_at hl 0 rfl) ?_
  refine lv_ldiv hx hb zd_Su_add_46 (z_ne0 (by omega) m5) ?_
  rw [pk_lDiv (a := (b * sw)) (b := (gcd1 (a * sw + su * b) (b * sw))) (by omega) (by omega) (by omega)]
  refine va_put (D := (dC, dI)) (ci := 8) (v := .long (lN ((b * sw) / (gcd1 (a * sw + su * b) (b * sw))))) (ty := .long) (C := zR_Su) (T := zT_Su) (N := 2) hx hb hts zin_Su zt_Su zt_Su_ok zn_Su hown hK hP hD hS 0 rfl rfl 1 (by decide) (hts _ zw_134) (fun _ h9 => h9) rfl (by decide +kernel) rfl rfl (Nat.le_of_ble_eq_true rfl) zd_Su_add_47 (fun H locs hP hD hS => ?_)
  have hP : va_P (dC, dI) zCl [(a0, .inr (8, [.long (lN ((a * sw + su * b) / (gcd1 (a * sw + su * b) (b * sw)))), .long (lN ((b * sw) / (gcd1 (a * sw + su * b) (b * sw))))]))] H := hP
  have hD : va_D A [(a0, .inr (8, [.long (lN ((a * sw + su * b) / (gcd1 (a * sw + su * b) (b * sw)))), .long (lN ((b * sw) / (gcd1 (a * sw + su * b) (b * sw))))]))] := hD
  exact z_vret (S := Unit) (w1 := fun (u : Unit) => [(a0, .inr (8, [.long (lN ((a * sw + su * b) / gcd1 (a * sw + su * b) (b * sw))), .long (lN ((b * sw) / gcd1 (a * sw + su * b) (b * sw)))]))]) () hx hb hr hlocks trivial hP hD hS (Nat.le_of_ble_eq_true rfl) (Nat.le_of_ble_eq_true rfl) zd_Su_add_50
