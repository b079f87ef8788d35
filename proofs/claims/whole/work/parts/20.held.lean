def fad (q : Nat × Nat) (x y : Nat) : Nat × Nat := ((q.1 * y + x * q.2) / gcd1 (q.1 * y + x * q.2) (q.2 * y), (q.2 * y) / gcd1 (q.1 * y + x * q.2) (q.2 * y))
def lieB (N1 N2 : Nat → Int32) (p0 : Int32) (r : Nat) : Bool := decide (¬ p0 < N1 r) && decide (¬ N2 r < p0)
/-- the shares' sum over the list, row by row, or none where it is too long -/
def sumO (B : Nat → Bool) (x y : Nat → Nat) : List Nat → Nat × Nat → Option (Nat × Nat)
  | [], q => some q
  | r :: l, q => if B r = true then (if 1000000000 < (fad q (x r) (y r)).1 ∨ 1000000000 < (fad q (x r) (y r)).2 then none else sumO B x y l (fad q (x r) (y r))) else sumO B x y l q
theorem sumO_skip {B : Nat → Bool} {x y : Nat → Nat} {r : Nat} {l : List Nat} {q : Nat × Nat} (h : B r = false) : sumO B x y (r :: l) q = sumO B x y l q := by
  conv => lhs; unfold sumO
  rw [if_neg (by rw [h]; exact Bool.false_ne_true)]
theorem sumO_long {B : Nat → Bool} {x y : Nat → Nat} {r : Nat} {l : List Nat} {q : Nat × Nat} (h : B r = true) (h2 : 1000000000 < (fad q (x r) (y r)).1 ∨ 1000000000 < (fad q (x r) (y r)).2) : sumO B x y (r :: l) q = none := by
  conv => lhs; unfold sumO
  rw [if_pos h, if_pos h2]
theorem sumO_add {B : Nat → Bool} {x y : Nat → Nat} {r : Nat} {l : List Nat} {q : Nat × Nat} (h : B r = true) (h2 : ¬ (1000000000 < (fad q (x r) (y r)).1 ∨ 1000000000 < (fad q (x r) (y r)).2)) : sumO B x y (r :: l) q = sumO B x y l (fad q (x r) (y r)) := by
  conv => lhs; unfold sumO
  rw [if_pos h, if_neg h2]
theorem lieP {N1 N2 : Nat → Int32} {p0 : Int32} {r : Nat} (h1 : ¬ p0 < N1 r) (h2 : ¬ N2 r < p0) : lieB N1 N2 p0 r = true := by
  simp only [lieB, Bool.and_eq_true, decide_eq_true_eq]
  exact ⟨h1, h2⟩
theorem lieN {N1 N2 : Nat → Int32} {p0 : Int32} {r : Nat} (h : p0 < N1 r ∨ N2 r < p0) : lieB N1 N2 p0 r = false := by
  cases hb : lieB N1 N2 p0 r with
  | false => rfl
  | true =>
    simp only [lieB, Bool.and_eq_true, decide_eq_true_eq] at hb
    rcases h with h | h
    · exact absurd h hb.1
    · exact absurd h hb.2
theorem fad_pos {q : Nat × Nat} {x y : Nat} (hq : 0 < q.2) (hy : 0 < y) : 1 ≤ (fad q x y).2 := by
  unfold fad
  have h1 : 0 < q.2 * y := Nat.mul_pos hq hy
  exact (Nat.one_le_div_iff (gcd1_pos _ _)).mpr (gcd1_lt h1)
theorem z_cmpG {a : Nat} {M : Int64} {n : Nat} (hM : M = lN n) (hn : n < 2 ^ 63) (ha : a < 2 ^ 63) : 0 < lg_cmp (lN a) M ↔ n < a := by
  subst hM
  unfold lg_cmp
  by_cases h1 : lN a > lN n
  · have h2 : n < a := (pk_lLT hn ha).mp h1
    rw [if_pos h1]
    exact ⟨fun _ => h2, fun _ => by decide⟩
  · have h2 : ¬ n < a := fun h => h1 ((pk_lLT hn ha).mpr h)
    rw [if_neg h1]
    by_cases h3 : lN a = lN n
    · rw [if_pos h3]; exact ⟨fun h => absurd h (by decide), fun h => absurd h h2⟩
    · rw [if_neg h3]; exact ⟨fun h => absurd h (by decide), fun h => absurd h h2⟩
/-- what the shares' arrays hold of the list's rows -/
def shrI (vl : List Nat) (f4 f5 : Nat → Int32) (x y : Nat → Nat) : Prop := ∀ (j r : Nat), vl[j]? = some r → r < 120 ∧ f4 r = nI (x r) ∧ f5 r = nI (y r) ∧ (1 ≤ x r ∧ x r ≤ 1000) ∧ (1 ≤ y r ∧ y r ≤ 1000)
set_option maxHeartbeats 4000000 in
set_option maxRecDepth 100000 in
theorem k_O_sumShares (l : Launch) (hst : l.stackTraces = false) (dC : Nat → ClassId) (dI : Nat → Nat → Nat) (cI cZ cJ cQ : ClassId) (sz : Nat) (o : Nat) (oR : Nat) (oC : Nat) (oV : Nat) (oS : Nat) (oP : Nat) (oU : Nat) (oK : Nat) (oM : Nat) (oL : Nat) (oW : Nat) (t : Nat) (vN : Nat) (vS : Nat) (vL : Nat) (n0 : Nat) (n1 : Nat) (n2 : Nat) (N1 : Nat → Int32) (N2 : Nat → Int32) (L : Nat → Int32) (vl : List Nat) (a1 : Nat) (a2 : Nat) (a3 : Nat) (a4 : Nat) (a5 : Nat) (a6 : Nat) (a7 : Nat) (k : Nat) (f4 : Nat → Int32) (f5 : Nat → Int32) (a : Nat) (b : Nat) (sx : Nat → Nat) (sy : Nat → Nat) (p0 : Int32) (hvl : lstI vl L) (hlen : vl.length ≤ 120) (hsh : shrI vl f4 f5 sx sy) : zMet l zy_O_sumShares zws_O_sumShares ({ frames := 6, cells := 1, slots := 6, locals := 82 }) (zPc (dC, dI) zCl (zTy cI cZ cJ cQ) [(o, .inr (0, [.ref oR, .ref oC, .ref oV, .ref oS, .ref oP, .ref oU, .ref oK, .ref oM, .ref oL, .ref oW, .int (nI t)])), (oV, .inr (10, [.ref vN, .ref vS, .ref vL, .int (nI vl.length)])), (vN, .inl (cQ, 3, .inr (.inr (.inr (.inr (g3 n0 n1 n2)))))), (n1, .inl (cI, 120, .inl N1)), (n2, .inl (cI, 120, .inl N2)), (vL, .inl (cI, 120, .inl L)), (oR, .inr (6, [.ref a1, .ref a2, .ref a3, .ref a4, .ref a5, .ref a6, .ref a7, .int (nI k)])), (a4, .inl (cI, 120, .inl f4)), (a5, .inl (cI, 120, .inl f5)), (oS, .inr (8, [.long (lN a), .long (lN b)]))] sz [.ref o, .int p0]) (zQv (dC, dI) zCl (fun (u : Nat × Nat) => (sumO (lieB N1 N2 p0) sx sy vl (0, 1) = some (u.1, u.2)) ∧ (u.1 ≤ 1000000000 ∧ u.2 ≤ 1000000000)) (fun (u : Nat × Nat) => [(o, .inr (0, [.ref oR, .ref oC, .ref oV, .ref oS, .ref oP, .ref oU, .ref oK, .ref oM, .ref oL, .ref oW, .int (nI t)])), (oV, .inr (10, [.ref vN, .ref vS, .ref vL, .int (nI vl.length)])), (vN, .inl (cQ, 3, .inr (.inr (.inr (.inr (g3 n0 n1 n2)))))), (n1, .inl (cI, 120, .inl N1)), (n2, .inl (cI, 120, .inl N2)), (vL, .inl (cI, 120, .inl L)), (oR, .inr (6, [.ref a1, .ref a2, .ref a3, .ref a4, .ref a5, .ref a6, .ref a7, .int (nI k)])), (a4, .inl (cI, 120, .inl f4)), (a5, .inl (cI, 120, .inl f5)), (oS, .inr (8, [.long (lN u.1), .long (lN u.2)]))]) (va_A [(o, .inr (0, [.ref oR, .ref oC, .ref oV, .ref oS, .ref oP, .ref oU, .ref oK, .ref oM, .ref oL, .ref oW, .int (nI t)])), (oV, .inr (10, [.ref vN, .ref vS, .ref vL, .int (nI vl.length)])), (vN, .inl (cQ, 3, .inr (.inr (.inr (.inr (g3 n0 n1 n2)))))), (n1, .inl (cI, 120, .inl N1)), (n2, .inl (cI, 120, .inl N2)), (vL, .inl (cI, 120, .inl L)), (oR, .inr (6, [.ref a1, .ref a2, .ref a3, .ref a4, .ref a5, .ref a6, .ref a7, .int (nI k)])), (a4, .inl (cI, 120, .inl f4)), (a5, .inl (cI, 120, .inl f5)), (oS, .inr (8, [.long (lN a), .long (lN b)]))] sz)) (zX (dC, dI) zCl (fun (E : String) (_ : Nat × Nat) => (E = "java/lang/IllegalStateException" ∧ (sumO (lieB N1 N2 p0) sx sy vl (0, 1) = none))) (fun (u : Nat × Nat) => [(o, .inr (0, [.ref oR, .ref oC, .ref oV, .ref oS, .ref oP, .ref oU, .ref oK, .ref oM, .ref oL, .ref oW, .int (nI t)])), (oV, .inr (10, [.ref vN, .ref vS, .ref vL, .int (nI vl.length)])), (vN, .inl (cQ, 3, .inr (.inr (.inr (.inr (g3 n0 n1 n2)))))), (n1, .inl (cI, 120, .inl N1)), (n2, .inl (cI, 120, .inl N2)), (vL, .inl (cI, 120, .inl L)), (oR, .inr (6, [.ref a1, .ref a2, .ref a3, .ref a4, .ref a5, .ref a6, .ref a7, .int (nI k)])), (a4, .inl (cI, 120, .inl f4)), (a5, .inl (cI, 120, .inl f5)), (oS, .inr (8, [.long (lN u.1), .long (lN u.2)]))]) (va_A [(o, .inr (0, [.ref oR, .ref oC, .ref oV, .ref oS, .ref oP, .ref oU, .ref oK, .ref oM, .ref oL, .ref oW, .int (nI t)])), (oV, .inr (10, [.ref vN, .ref vS, .ref vL, .int (nI vl.length)])), (vN, .inl (cQ, 3, .inr (.inr (.inr (.inr (g3 n0 n1 n2)))))), (n1, .inl (cI, 120, .inl N1)), (n2, .inl (cI, 120, .inl N2)), (vL, .inl (cI, 120, .inl L)), (oR, .inr (6, [.ref a1, .ref a2, .ref a3, .ref a4, .ref a5, .ref a6, .ref a7, .int (nI k)])), (a4, .inl (cI, 120, .inl f4)), (a5, .inl (cI, 120, .inl f5)), (oS, .inr (8, [.long (lN a), .long (lN b)]))] sz)) 1 6 (va_A [(o, .inr (0, [.ref oR, .ref oC, .ref oV, .ref oS, .ref oP, .ref oU, .ref oK, .ref oM, .ref oL, .ref oW, .int (nI t)])), (oV, .inr (10, [.ref vN, .ref vS, .ref vL, .int (nI vl.length)])), (vN, .inl (cQ, 3, .inr (.inr (.inr (.inr (g3 n0 n1 n2)))))), (n1, .inl (cI, 120, .inl N1)), (n2, .inl (cI, 120, .inl N2)), (vL, .inl (cI, 120, .inl L)), (oR, .inr (6, [.ref a1, .ref a2, .ref a3, .ref a4, .ref a5, .ref a6, .ref a7, .int (nI k)])), (a4, .inl (cI, 120, .inl f4)), (a5, .inl (cI, 120, .inl f5)), (oS, .inr (8, [.long (lN a), .long (lN b)]))] sz) := by
  refine zMet_ofW (cc := zc_O_sumShares) (maxL := 4) (ret := none) (by decide) rfl ?_
  intro p e s m args below meth c s₁ B hml hEx hv
  obtain ⟨rfl, hsz, hP, hK, hD0, hZ⟩ := hv
  have hx := B.exec
  have hb := B.bytes
  have hr := B.returns
  have hts := fun (w : Cond) (h : w ∈ zW) => atoms_spec (ws := zws_O_sumShares) B.pre w (List.mem_cons_of_mem _ h)
  have hown : s.vm.findClass zR_O = some m.cls := findClass_of_methodNamed B.named
  have hlocks := B.notSynchronized
  subst hsz
  have hD := hD0.self (sz := s.heap.size)
  generalize hAe : va_A [(o, .inr (0, [.ref oR, .ref oC, .ref oV, .ref oS, .ref oP, .ref oU, .ref oK, .ref oM, .ref oL, .ref oW, .int (nI t)])), (oV, .inr (10, [.ref vN, .ref vS, .ref vL, .int (nI vl.length)])), (vN, .inl (cQ, 3, .inr (.inr (.inr (.inr (g3 n0 n1 n2)))))), (n1, .inl (cI, 120, .inl N1)), (n2, .inl (cI, 120, .inl N2)), (vL, .inl (cI, 120, .inl L)), (oR, .inr (6, [.ref a1, .ref a2, .ref a3, .ref a4, .ref a5, .ref a6, .ref a7, .int (nI k)])), (a4, .inl (cI, 120, .inl f4)), (a5, .inl (cI, 120, .inl f5)), (oS, .inr (8, [.long (lN a), .long (lN b)]))] s.heap.size = A at hD hZ ⊢
  have hA : ∀ q : Nat, s.heap.size ≤ q → A q := fun q h => by rw [← hAe]; exact Or.inr h
  have hS : va_S A s.heap s.heap [] := va_S.rf
  have hl := lv_entry ([.ref o, .int p0]) (n := 4) (Nat.le_of_ble_eq_true rfl)
  rw [lg_entry_eq]
  generalize (lg_sl ([.ref o, .int p0]) ++ List.replicate (4 - (lg_sl ([.ref o, .int p0])).length) Slot.unset).toArray = ls at hl ⊢
  have hl : lv_has ls 4 [(0, .ref o), (1, .int p0)] := hl
  refine z_start hP hS (fun H locs hP hS => ?_)
  refine lv_aload_n hx hb zd_O_sumShares_0 rfl (lv_at hl 0 rfl) ?_
  refine va_get (D := (dC, dI)) (ci := 0) (v := .ref oS) (C := zR_O) (T := zT_O) (N := 11) hx hb hts zin_O hown hK hP 0 rfl rfl 3 (by decide) (hts _ zw_272) (fun _ h9 => h9) rfl zd_O_sumShares_1 ?_
  refine z_callv (wc := [(oS, .inr (8, [.long (lN a), .long (lN b)]))]) (wr := [(o, .inr (0, [.ref oR, .ref oC, .ref oV, .ref oS, .ref oP, .ref oU, .ref oK, .ref oM, .ref oL, .ref oW, .int (nI t)])), (oV, .inr (10, [.ref vN, .ref vS, .ref vL, .int (nI vl.length)])), (vN, .inl (cQ, 3, .inr (.inr (.inr (.inr (g3 n0 n1 n2)))))), (n1, .inl (cI, 120, .inl N1)), (n2, .inl (cI, 120, .inl N2)), (vL, .inl (cI, 120, .inl L)), (oR, .inr (6, [.ref a1, .ref a2, .ref a3, .ref a4, .ref a5, .ref a6, .ref a7, .int (nI k)])), (a4, .inl (cI, 120, .inl f4)), (a5, .inl (cI, 120, .inl f5))]) [9] [0, 1, 2, 3, 4, 5, 6, 7, 8] hP hD hS hA rfl rfl (by decide) (by decide) (by decide) (fun hPc hDc hFc => va_runVN (As := []) (rest := []) ⟨hx, hb, hml, hown, hts⟩ (k_Su_clear l hst dC dI cI cZ cJ cQ H.size oS a b) ⟨va_cnB 0 hts (zgN zw_523) rfl rfl rfl (hZ.2.1 _ zz_520) (hts _ zw_5) (by decide +kernel) ⟨(Nat.le_of_ble_eq_true rfl), (Nat.le_of_ble_eq_true rfl)⟩, hts _ zw_522, hts _ zs_Su_clear⟩ ⟨zPc.blind, va_recv hK hPc (ci := 8) (q0 := 0) rfl rfl, zPc.mk hPc hK hDc hZ hS hFc _⟩ rfl rfl hl.1 rfl (lv_room (Nat.le_of_ble_eq_true rfl)) zd_O_sumShares_4 ⟨(Nat.le_of_ble_eq_true rfl), (Nat.le_of_ble_eq_true rfl)⟩) (fun u H locs hw hP hD hS => ?_)
  have hP : va_P (dC, dI) zCl [(o, .inr (0, [.ref oR, .ref oC, .ref oV, .ref oS, .ref oP, .ref oU, .ref oK, .ref oM, .ref oL, .ref oW, .int (nI t)])), (oV, .inr (10, [.ref vN, .ref vS, .ref vL, .int (nI vl.length)])), (vN, .inl (cQ, 3, .inr (.inr (.inr (.inr (g3 n0 n1 n2)))))), (n1, .inl (cI, 120, .inl N1)), (n2, .inl (cI, 120, .inl N2)), (vL, .inl (cI, 120, .inl L)), (oR, .inr (6, [.ref a1, .ref a2, .ref a3, .ref a4, .ref a5, .ref a6, .ref a7, .int (nI k)])), (a4, .inl (cI, 120, .inl f4)), (a5, .inl (cI, 120, .inl f5)), (oS, .inr (8, [.long (lN 0), .long (lN 1)]))] H := hP
  have hD : va_D A [(o, .inr (0, [.ref oR, .ref oC, .ref oV, .ref oS, .ref oP, .ref oU, .ref oK, .ref oM, .ref oL, .ref oW, .int (nI t)])), (oV, .inr (10, [.ref vN, .ref vS, .ref vL, .int (nI vl.length)])), (vN, .inl (cQ, 3, .inr (.inr (.inr (.inr (g3 n0 n1 n2)))))), (n1, .inl (cI, 120, .inl N1)), (n2, .inl (cI, 120, .inl N2)), (vL, .inl (cI, 120, .inl L)), (oR, .inr (6, [.ref a1, .ref a2, .ref a3, .ref a4, .ref a5, .ref a6, .ref a7, .int (nI k)])), (a4, .inl (cI, 120, .inl f4)), (a5, .inl (cI, 120, .inl f5)), (oS, .inr (8, [.long (lN 0), .long (lN 1)]))] := hD
  refine lv_iconst (v := 0) hx hb zd_O_sumShares_7 (by decide) ?_
  refine lv_istore_n (lv' := [(2, .int 0), (0, .ref o), (1, .int p0)]) hx hb zd_O_sumShares_8 rfl hl (by decide) rfl (fun ls hl => ?_)
  refine z_loopN (σ := Nat × Nat × Nat) (fun (fu : Nat) (x9 : Nat × Nat × Nat) H locs ls => match x9 with | (i, qa, qb) => (i + fu = vl.length ∧ (sumO (lieB N1 N2 p0) sx sy (vl.drop i) (qa, qb) = sumO (lieB N1 N2 p0) sx sy vl (0, 1)) ∧ (qa ≤ 1000000000) ∧ (1 ≤ qb ∧ qb ≤ 1000000000)) ∧ va_P (dC, dI) zCl [(o, .inr (0, [.ref oR, .ref oC, .ref oV, .ref oS, .ref oP, .ref oU, .ref oK, .ref oM, .ref oL, .ref oW, .int (nI t)])), (oV, .inr (10, [.ref vN, .ref vS, .ref vL, .int (nI vl.length)])), (vN, .inl (cQ, 3, .inr (.inr (.inr (.inr (g3 n0 n1 n2)))))), (n1, .inl (cI, 120, .inl N1)), (n2, .inl (cI, 120, .inl N2)), (vL, .inl (cI, 120, .inl L)), (oR, .inr (6, [.ref a1, .ref a2, .ref a3, .ref a4, .ref a5, .ref a6, .ref a7, .int (nI k)])), (a4, .inl (cI, 120, .inl f4)), (a5, .inl (cI, 120, .inl f5)), (oS, .inr (8, [.long (lN qa), .long (lN qb)]))] H ∧ va_D A [(o, .inr (0, [.ref oR, .ref oC, .ref oV, .ref oS, .ref oP, .ref oU, .ref oK, .ref oM, .ref oL, .ref oW, .int (nI t)])), (oV, .inr (10, [.ref vN, .ref vS, .ref vL, .int (nI vl.length)])), (vN, .inl (cQ, 3, .inr (.inr (.inr (.inr (g3 n0 n1 n2)))))), (n1, .inl (cI, 120, .inl N1)), (n2, .inl (cI, 120, .inl N2)), (vL, .inl (cI, 120, .inl L)), (oR, .inr (6, [.ref a1, .ref a2, .ref a3, .ref a4, .ref a5, .ref a6, .ref a7, .int (nI k)])), (a4, .inl (cI, 120, .inl f4)), (a5, .inl (cI, 120, .inl f5)), (oS, .inr (8, [.long (lN qa), .long (lN qb)]))] ∧ va_S A s.heap H locs ∧ lv_has ls 4 [(0, .ref o), (1, .int p0), (2, .int (nI i))]) (fun x9 H locs ls hI => ?_) (fun fu x9 H locs ls ih_9 hI => ?_) vl.length (0, 0, 1) ⟨⟨(by first | omega | (dsimp only; omega)), rfl, (by omega), (by omega)⟩, z_sub hP [0, 1, 2, 3, 4, 5, 6, 7, 8, 9] rfl, hD.sub [0, 1, 2, 3, 4, 5, 6, 7, 8, 9] (by decide) rfl, hS, lv_sub hl [1, 2, 0] rfl⟩
  · obtain ⟨i, qa, qb⟩ := x9
    dsimp only at hI
    obtain ⟨⟨hfu, hrem, hqa, hqb⟩, hP, hD, hS, hl⟩ := hI
    refine lv_iload_n hx hb zd_O_sumShares_9 rfl (lv_at hl 2 rfl) ?_
    refine lv_aload_n hx hb zd_O_sumShares_10 rfl (lv_at hl 0 rfl) ?_
    refine va_get (D := (dC, dI)) (ci := 0) (v := .ref oV) (C := zR_O) (T := zT_O) (N := 11) hx hb hts zin_O hown hK hP 0 rfl rfl 2 (by decide) (hts _ zw_271) (fun _ h9 => h9) rfl zd_O_sumShares_11 ?_
    refine va_getN (D := (dC, dI)) (ci := 10) (v := .int (nI vl.length)) (C := zR_Vi) (T := zT_Vi) (N := 4) hx hb hts zin_Vi hown hK hP 1 rfl rfl 3 (by decide) (hZ.nw zz_116) (fun _ h9 => h9) rfl zd_O_sumShares_14 ?_
    refine lv_icmp_ge (tgt := 129) hx hb zd_O_sumShares_17 (by decide) (fun _ => ?_) (fun c_2 => absurd (nI_le (by omega) (by omega)) c_2)
    exact z_ret (z_vret (S := Nat × Nat) (w1 := fun (u : Nat × Nat) => [(o, .inr (0, [.ref oR, .ref oC, .ref oV, .ref oS, .ref oP, .ref oU, .ref oK, .ref oM, .ref oL, .ref oW, .int (nI t)])), (oV, .inr (10, [.ref vN, .ref vS, .ref vL, .int (nI vl.length)])), (vN, .inl (cQ, 3, .inr (.inr (.inr (.inr (g3 n0 n1 n2)))))), (n1, .inl (cI, 120, .inl N1)), (n2, .inl (cI, 120, .inl N2)), (vL, .inl (cI, 120, .inl L)), (oR, .inr (6, [.ref a1, .ref a2, .ref a3, .ref a4, .ref a5, .ref a6, .ref a7, .int (nI k)])), (a4, .inl (cI, 120, .inl f4)), (a5, .inl (cI, 120, .inl f5)), (oS, .inr (8, [.long (lN u.1), .long (lN u.2)]))]) (qa, qb) hx hb hr hlocks ⟨by rw [← hrem, z_dropE (by omega)]; rfl, hqa, hqb.2⟩ hP hD hS (Nat.le_of_ble_eq_true rfl) (Nat.le_of_ble_eq_true rfl) zd_O_sumShares_129)
  · obtain ⟨i, qa, qb⟩ := x9
    dsimp only at hI
    obtain ⟨⟨hfu, hrem, hqa, hqb⟩, hP, hD, hS, hl⟩ := hI
    dsimp only at ih_9
    refine lv_iload_n hx hb zd_O_sumShares_9 rfl (lv_at hl 2 rfl) ?_
    refine lv_aload_n hx hb zd_O_sumShares_10 rfl (lv_at hl 0 rfl) ?_
    refine va_get (D := (dC, dI)) (ci := 0) (v := .ref oV) (C := zR_O) (T := zT_O) (N := 11) hx hb hts zin_O hown hK hP 0 rfl rfl 2 (by decide) (hts _ zw_271) (fun _ h9 => h9) rfl zd_O_sumShares_11 ?_
    refine va_getN (D := (dC, dI)) (ci := 10) (v := .int (nI vl.length)) (C := zR_Vi) (T := zT_Vi) (N := 4) hx hb hts zin_Vi hown hK hP 1 rfl rfl 3 (by decide) (hZ.nw zz_116) (fun _ h9 => h9) rfl zd_O_sumShares_14 ?_
    refine lv_icmp_ge (tgt := 129) hx hb zd_O_sumShares_17 (by decide) (fun c_3 => absurd c_3 (nI_ge (by omega) (by omega))) (fun _ => ?_)
    refine lv_aload_n hx hb zd_O_sumShares_20 rfl (lv_at hl 0 rfl) ?_
    refine va_get (D := (dC, dI)) (ci := 0) (v := .ref oV) (C := zR_O) (T := zT_O) (N := 11) hx hb hts zin_O hown hK hP 0 rfl rfl 2 (by decide) (hts _ zw_271) (fun _ h9 => h9) rfl zd_O_sumShares_21 ?_
    refine va_getN (D := (dC, dI)) (ci := 10) (v := .ref vL) (C := zR_Vi) (T := zT_Vi) (N := 4) hx hb hts zin_Vi hown hK hP 1 rfl rfl 2 (by decide) (hZ.nw zz_114) (fun _ h9 => h9) rfl zd_O_sumShares_24 ?_
    refine lv_iload_n hx hb zd_O_sumShares_27 rfl (lv_at hl 2 rfl) ?_
    refine va_iald hx hb hK hP 5 0 rfl rfl (vp_in_nI (show i < 120 from by omega) (by decide)) zd_O_sumShares_28 ?_
    rw [show (nI i).toNatClampNeg = i from nI_clamp (by omega)]
    obtain ⟨r, hr9⟩ := z_some (l := vl) (i := i) (by omega)
    obtain ⟨hrk, hs4, hs5, hx9, hy9⟩ := hsh i r hr9
    rw [hvl i r hr9]
    rw [z_drop hr9] at hrem
    refine lv_istore_n (lv' := [(3, .int (nI r)), (0, .ref o), (1, .int p0), (2, .int (nI i))]) hx hb zd_O_sumShares_29 rfl hl (by decide) rfl (fun ls hl => ?_)
    refine lv_aload_n hx hb zd_O_sumShares_30 rfl (lv_at hl 1 rfl) ?_
    refine va_get (D := (dC, dI)) (ci := 0) (v := .ref oV) (C := zR_O) (T := zT_O) (N := 11) hx hb hts zin_O hown hK hP 0 rfl rfl 2 (by decide) (hts _ zw_271) (fun _ h9 => h9) rfl zd_O_sumShares_31 ?_
    refine va_getN (D := (dC, dI)) (ci := 10) (v := .ref vN) (C := zR_Vi) (T := zT_Vi) (N := 4) hx hb hts zin_Vi hown hK hP 1 rfl rfl 0 (by decide) (hZ.nw zz_111) (fun _ h9 => h9) rfl zd_O_sumShares_34 ?_
    refine lv_iconst (v := 1) hx hb zd_O_sumShares_37 (by decide) ?_
    refine z_aald (y := n1) hx hb hK hP 2 3 rfl rfl (z_inC rfl) rfl zd_O_sumShares_38 ?_
    refine lv_iload_n hx hb zd_O_sumShares_39 rfl (lv_at hl 0 rfl) ?_
    refine va_iald hx hb hK hP 3 0 rfl rfl (vp_in_nI (show r < 120 from by omega) (by decide)) zd_O_sumShares_40 ?_
    rw [show (nI r).toNatClampNeg = r from nI_clamp (by omega)]
    refine lv_iload_n hx hb zd_O_sumShares_41 rfl (lv_at hl 2 rfl) ?_
    refine lv_icmp_gt (tgt := 123) hx hb zd_O_sumShares_42 (by decide) (fun c_4 => ?_) (fun c_4 => ?_)
    · refine lv_iinc (v := nI (i + 1)) (lv' := [(2, .int (nI (i + 1))), (3, .int (nI r)), (0, .ref o), (1, .int p0)]) hx hb zd_O_sumShares_123 hl (k := 3) rfl (nI_1 i) (by decide) rfl (fun ls hl => ?_)
      refine lv_goto (tgt := 9) hx hb zd_O_sumShares_126 (by decide) ?_
      exact ih_9 (i + 1, qa, qb) _ _ _ ⟨⟨(by first | omega | (dsimp only; omega)), ((sumO_skip (lieN (Or.inl c_4))).symm.trans hrem), hqa, hqb⟩, z_sub hP [0, 1, 2, 3, 4, 5, 6, 7, 8, 9] rfl, hD.sub [0, 1, 2, 3, 4, 5, 6, 7, 8, 9] (by decide) rfl, hS, lv_sub hl [2, 3, 0] rfl⟩
    · refine lv_iload_n hx hb zd_O_sumShares_45 rfl (lv_at hl 2 rfl) ?_
      refine lv_aload_n hx hb zd_O_sumShares_46 rfl (lv_at hl 1 rfl) ?_
      refine va_get (D := (dC, dI)) (ci := 0) (v := .ref oV) (C := zR_O) (T := zT_O) (N := 11) hx hb hts zin_O hown hK hP 0 rfl rfl 2 (by decide) (hts _ zw_271) (fun _ h9 => h9) rfl zd_O_sumShares_47 ?_
      refine va_getN (D := (dC, dI)) (ci := 10) (v := .ref vN) (C := zR_Vi) (T := zT_Vi) (N := 4) hx hb hts zin_Vi hown hK hP 1 rfl rfl 0 (by decide) (hZ.nw zz_111) (fun _ h9 => h9) rfl zd_O_sumShares_50 ?_
      refine lv_iconst (v := 2) hx hb zd_O_sumShares_53 (by decide) ?_
      refine z_aald (y := n2) hx hb hK hP 2 3 rfl rfl (z_inC rfl) rfl zd_O_sumShares_54 ?_
      refine lv_iload_n hx hb zd_O_sumShares_55 rfl (lv_at hl 0 rfl) ?_
      refine va_iald hx hb hK hP 4 0 rfl rfl (vp_in_nI (show r < 120 from by omega) (by decide)) zd_O_sumShares_56 ?_
      rw [show (nI r).toNatClampNeg = r from nI_clamp (by omega)]
      refine lv_icmp_gt (tgt := 123) hx hb zd_O_sumShares_57 (by decide) (fun c_5 => ?_) (fun c_5 => ?_)
      · refine lv_iinc (v := nI (i + 1)) (lv' := [(2, .int (nI (i + 1))), (3, .int (nI r)), (0, .ref o), (1, .int p0)]) hx hb zd_O_sumShares_123 hl (k := 3) rfl (nI_1 i) (by decide) rfl (fun ls hl => ?_)
        refine lv_goto (tgt := 9) hx hb zd_O_sumShares_126 (by decide) ?_
        exact ih_9 (i + 1, qa, qb) _ _ _ ⟨⟨(by first | omega | (dsimp only; omega)), ((sumO_skip (lieN (Or.inr c_5))).symm.trans hrem), hqa, hqb⟩, z_sub hP [0, 1, 2, 3, 4, 5, 6, 7, 8, 9] rfl, hD.sub [0, 1, 2, 3, 4, 5, 6, 7, 8, 9] (by decide) rfl, hS, lv_sub hl [2, 3, 0] rfl⟩
      · refine lv_aload_n hx hb zd_O_sumShares_60 rfl (lv_at hl 1 rfl) ?_
        refine va_get (D := (dC, dI)) (ci := 0) (v := .ref oS) (C := zR_O) (T := zT_O) (N := 11) hx hb hts zin_O hown hK hP 0 rfl rfl 3 (by decide) (hts _ zw_272) (fun _ h9 => h9) rfl zd_O_sumShares_61 ?_
        refine lv_aload_n hx hb zd_O_sumShares_64 rfl (lv_at hl 1 rfl) ?_
        refine va_get (D := (dC, dI)) (ci := 0) (v := .ref oR) (C := zR_O) (T := zT_O) (N := 11) hx hb hts zin_O hown hK hP 0 rfl rfl 0 (by decide) (hts _ zw_269) (fun _ h9 => h9) rfl zd_O_sumShares_65 ?_
        refine va_getN (D := (dC, dI)) (ci := 6) (v := .ref a4) (C := zR_Ro) (T := zT_Ro) (N := 8) hx hb hts zin_Ro hown hK hP 6 rfl rfl 3 (by decide) (hZ.nw zz_46) (fun _ h9 => h9) rfl zd_O_sumShares_68 ?_
        refine lv_iload_n hx hb zd_O_sumShares_71 rfl (lv_at hl 0 rfl) ?_
        refine va_iald hx hb hK hP 7 0 rfl rfl (vp_in_nI (show r < 120 from by omega) (by decide)) zd_O_sumShares_72 ?_
        rw [show (nI r).toNatClampNeg = r from nI_clamp (by omega)]
        rw [hs4]
        refine lv_aload_n hx hb zd_O_sumShares_73 rfl (lv_at hl 1 rfl) ?_
        refine va_get (D := (dC, dI)) (ci := 0) (v := .ref oR) (C := zR_O) (T := zT_O) (N := 11) hx hb hts zin_O hown hK hP 0 rfl rfl 0 (by decide) (hts _ zw_269) (fun _ h9 => h9) rfl zd_O_sumShares_74 ?_
        refine va_getN (D := (dC, dI)) (ci := 6) (v := .ref a5) (C := zR_Ro) (T := zT_Ro) (N := 8) hx hb hts zin_Ro hown hK hP 6 rfl rfl 4 (by decide) (hZ.nw zz_48) (fun _ h9 => h9) rfl zd_O_sumShares_77 ?_
        refine lv_iload_n hx hb zd_O_sumShares_80 rfl (lv_at hl 0 rfl) ?_
        refine va_iald hx hb hK hP 8 0 rfl rfl (vp_in_nI (show r < 120 from by omega) (by decide)) zd_O_sumShares_81 ?_
        rw [show (nI r).toNatClampNeg = r from nI_clamp (by omega)]
        rw [hs5]
        refine z_callv (wc := [(oS, .inr (8, [.long (lN qa), .long (lN qb)]))]) (wr := [(o, .inr (0, [.ref oR, .ref oC, .ref oV, .ref oS, .ref oP, .ref oU, .ref oK, .ref oM, .ref oL, .ref oW, .int (nI t)])), (oV, .inr (10, [.ref vN, .ref vS, .ref vL, .int (nI vl.length)])), (vN, .inl (cQ, 3, .inr (.inr (.inr (.inr (g3 n0 n1 n2)))))), (n1, .inl (cI, 120, .inl N1)), (n2, .inl (cI, 120, .inl N2)), (vL, .inl (cI, 120, .inl L)), (oR, .inr (6, [.ref a1, .ref a2, .ref a3, .ref a4, .ref a5, .ref a6, .ref a7, .int (nI k)])), (a4, .inl (cI, 120, .inl f4)), (a5, .inl (cI, 120, .inl f5))]) [9] [0, 1, 2, 3, 4, 5, 6, 7, 8] hP hD hS hA rfl rfl (by decide) (by decide) (by decide) (fun hPc hDc hFc => va_runVN (As := [.int (nI (sx r)), .int (nI (sy r))]) (rest := []) ⟨hx, hb, hml, hown, hts⟩ (k_Su_add l hst dC dI cI cZ cJ cQ H.size oS qa qb (sx r) (sy r) hqa hqb hx9 hy9) ⟨va_cnB 2 hts (zgN zw_527) rfl rfl rfl (hZ.2.1 _ zz_524) (hts _ zw_5) (by decide +kernel) ⟨(Nat.le_of_ble_eq_true rfl), (Nat.le_of_ble_eq_true rfl)⟩, hts _ zw_526, hts _ zs_Su_add⟩ ⟨zPc.blind, va_recv hK hPc (ci := 8) (q0 := 0) rfl rfl, zPc.mk hPc hK hDc hZ hS hFc _⟩ rfl rfl hl.1 rfl (lv_room (Nat.le_of_ble_eq_true rfl)) zd_O_sumShares_82 ⟨(Nat.le_of_ble_eq_true rfl), (Nat.le_of_ble_eq_true rfl)⟩) (fun u H locs hw hP hD hS => ?_)
        have hP : va_P (dC, dI) zCl [(o, .inr (0, [.ref oR, .ref oC, .ref oV, .ref oS, .ref oP, .ref oU, .ref oK, .ref oM, .ref oL, .ref oW, .int (nI t)])), (oV, .inr (10, [.ref vN, .ref vS, .ref vL, .int (nI vl.length)])), (vN, .inl (cQ, 3, .inr (.inr (.inr (.inr (g3 n0 n1 n2)))))), (n1, .inl (cI, 120, .inl N1)), (n2, .inl (cI, 120, .inl N2)), (vL, .inl (cI, 120, .inl L)), (oR, .inr (6, [.ref a1, .ref a2, .ref a3, .ref a4, .ref a5, .ref a6, .ref a7, .int (nI k)])), (a4, .inl (cI, 120, .inl f4)), (a5, .inl (cI, 120, .inl f5)), (oS, .inr (8, [.long (lN ((qa * (sy r) + (sx r) * qb) / gcd1 (qa * (sy r) + (sx r) * qb) (qb * (sy r)))), .long (lN ((qb * (sy r)) / gcd1 (qa * (sy r) + (sx r) * qb) (qb * (sy r))))]))] H := hP
        have hD : va_D A [(o, .inr (0, [.ref oR, .ref oC, .ref oV, .ref oS, .ref oP, .ref oU, .ref oK, .ref oM, .ref oL, .ref oW, .int (nI t)])), (oV, .inr (10, [.ref vN, .ref vS, .ref vL, .int (nI vl.length)])), (vN, .inl (cQ, 3, .inr (.inr (.inr (.inr (g3 n0 n1 n2)))))), (n1, .inl (cI, 120, .inl N1)), (n2, .inl (cI, 120, .inl N2)), (vL, .inl (cI, 120, .inl L)), (oR, .inr (6, [.ref a1, .ref a2, .ref a3, .ref a4, .ref a5, .ref a6, .ref a7, .int (nI k)])), (a4, .inl (cI, 120, .inl f4)), (a5, .inl (cI, 120, .inl f5)), (oS, .inr (8, [.long (lN ((qa * (sy r) + (sx r) * qb) / gcd1 (qa * (sy r) + (sx r) * qb) (qb * (sy r)))), .long (lN ((qb * (sy r)) / gcd1 (qa * (sy r) + (sx r) * qb) (qb * (sy r))))]))] := hD
        have hP : va_P (dC, dI) zCl [(o, .inr (0, [.ref oR, .ref oC, .ref oV, .ref oS, .ref oP, .ref oU, .ref oK, .ref oM, .ref oL, .ref oW, .int (nI t)])), (oV, .inr (10, [.ref vN, .ref vS, .ref vL, .int (nI vl.length)])), (vN, .inl (cQ, 3, .inr (.inr (.inr (.inr (g3 n0 n1 n2)))))), (n1, .inl (cI, 120, .inl N1)), (n2, .inl (cI, 120, .inl N2)), (vL, .inl (cI, 120, .inl L)), (oR, .inr (6, [.ref a1, .ref a2, .ref a3, .ref a4, .ref a5, .ref a6, .ref a7, .int (nI k)])), (a4, .inl (cI, 120, .inl f4)), (a5, .inl (cI, 120, .inl f5)), (oS, .inr (8, [.long (lN ((fad (qa, qb) (sx r) (sy r)).1)), .long (lN ((fad (qa, qb) (sx r) (sy r)).2))]))] H := hP
        have hD : va_D A [(o, .inr (0, [.ref oR, .ref oC, .ref oV, .ref oS, .ref oP, .ref oU, .ref oK, .ref oM, .ref oL, .ref oW, .int (nI t)])), (oV, .inr (10, [.ref vN, .ref vS, .ref vL, .int (nI vl.length)])), (vN, .inl (cQ, 3, .inr (.inr (.inr (.inr (g3 n0 n1 n2)))))), (n1, .inl (cI, 120, .inl N1)), (n2, .inl (cI, 120, .inl N2)), (vL, .inl (cI, 120, .inl L)), (oR, .inr (6, [.ref a1, .ref a2, .ref a3, .ref a4, .ref a5, .ref a6, .ref a7, .int (nI k)])), (a4, .inl (cI, 120, .inl f4)), (a5, .inl (cI, 120, .inl f5)), (oS, .inr (8, [.long (lN ((fad (qa, qb) (sx r) (sy r)).1)), .long (lN ((fad (qa, qb) (sx r) (sy r)).2))]))] := hD
        have m1 : qa * sy r ≤ 1000000000 * 1000 := Nat.mul_le_mul hqa hy9.2
        have m2 : sx r * qb ≤ 1000 * 1000000000 := Nat.mul_le_mul hx9.2 hqb.2
        have m3 : qb * sy r ≤ 1000000000 * 1000 := Nat.mul_le_mul hqb.2 hy9.2
        have hf1 : (fad (qa, qb) (sx r) (sy r)).1 < 2 ^ 63 := Nat.lt_of_le_of_lt (Nat.div_le_self _ _) (by dsimp only; omega)
        have hf2 : (fad (qa, qb) (sx r) (sy r)).2 < 2 ^ 63 := Nat.lt_of_le_of_lt (Nat.div_le_self _ _) (by dsimp only; omega)
        refine lv_aload_n hx hb zd_O_sumShares_85 rfl (lv_at hl 1 rfl) ?_
        refine va_get (D := (dC, dI)) (ci := 0) (v := .ref oS) (C := zR_O) (T := zT_O) (N := 11) hx hb hts zin_O hown hK hP 0 rfl rfl 3 (by decide) (hts _ zw_272) (fun _ h9 => h9) rfl zd_O_sumShares_86 ?_
        refine va_getN (D := (dC, dI)) (ci := 8) (v := .long (lN ((fad (qa, qb) (sx r) (sy r)).1))) (C := zR_Su) (T := zT_Su) (N := 2) hx hb hts zin_Su hown hK hP 9 rfl rfl 0 (by decide) (hZ.nw zz_133) (fun _ h9 => h9) rfl zd_O_sumShares_89 ?_
        refine lv_ldc2 (v := 1000000000) hx hb hown (hts _ zw_534) zd_O_sumShares_92 ?_
        refine W.lcmp hx hb zd_O_sumShares_95 ?_
        refine lv_if_gt (tgt := 113) hx hb zd_O_sumShares_96 (by decide) (fun c_7 => ?_) (fun c_7 => ?_)
        · exact z_throwS (SX := Nat × Nat) (cls := "java/lang/IllegalStateException") (text := "the shares\' sum is too long") (wx := fun (u : Nat × Nat) => [(o, .inr (0, [.ref oR, .ref oC, .ref oV, .ref oS, .ref oP, .ref oU, .ref oK, .ref oM, .ref oL, .ref oW, .int (nI t)])), (oV, .inr (10, [.ref vN, .ref vS, .ref vL, .int (nI vl.length)])), (vN, .inl (cQ, 3, .inr (.inr (.inr (.inr (g3 n0 n1 n2)))))), (n1, .inl (cI, 120, .inl N1)), (n2, .inl (cI, 120, .inl N2)), (vL, .inl (cI, 120, .inl L)), (oR, .inr (6, [.ref a1, .ref a2, .ref a3, .ref a4, .ref a5, .ref a6, .ref a7, .int (nI k)])), (a4, .inl (cI, 120, .inl f4)), (a5, .inl (cI, 120, .inl f5)), (oS, .inr (8, [.long (lN u.1), .long (lN u.2)]))]) ((fad (qa, qb) (sx r) (sy r)).1, (fad (qa, qb) (sx r) (sy r)).2) hx hb hst hown hts hZ zcov_ISE zw_314 (by decide +kernel) hS (hl.1.trans hml.symm) zd_O_sumShares_113 zd_O_sumShares_116 zd_O_sumShares_117 zd_O_sumShares_119 zd_O_sumShares_122 (fun x hx => (hEx x hx).elim) (Nat.le_of_ble_eq_true rfl) (Nat.le_of_ble_eq_true rfl) (Nat.le_of_ble_eq_true rfl) (Nat.le_of_ble_eq_true rfl) hlocks (⟨rfl, (hrem.symm.trans (sumO_long (lieP c_4 c_5) (Or.inl ((z_cmpG (n := 1000000000) rfl (by decide) hf1).mp c_7))))⟩) hP hD (Nat.le_of_ble_eq_true rfl) (Nat.le_of_ble_eq_true rfl)
        · refine lv_aload_n hx hb zd_O_sumShares_99 rfl (lv_at hl 1 rfl) ?_
          refine va_get (D := (dC, dI)) (ci := 0) (v := .ref oS) (C := zR_O) (T := zT_O) (N := 11) hx hb hts zin_O hown hK hP 0 rfl rfl 3 (by decide) (hts _ zw_272) (fun _ h9 => h9) rfl zd_O_sumShares_100 ?_
          refine va_getN (D := (dC, dI)) (ci := 8) (v := .long (lN ((fad (qa, qb) (sx r) (sy r)).2))) (C := zR_Su) (T := zT_Su) (N := 2) hx hb hts zin_Su hown hK hP 9 rfl rfl 1 (by decide) (hZ.nw zz_135) (fun _ h9 => h9) rfl zd_O_sumShares_103 ?_
          refine lv_ldc2 (v := 1000000000) hx hb hown (hts _ zw_534) zd_O_sumShares_106 ?_
          refine W.lcmp hx hb zd_O_sumShares_109 ?_
          refine lv_if_le (tgt := 123) hx hb zd_O_sumShares_110 (by decide) (fun c_8 => ?_) (fun c_8 => ?_)
          · refine lv_iinc (v := nI (i + 1)) (lv' := [(2, .int (nI (i + 1))), (3, .int (nI r)), (0, .ref o), (1, .int p0)]) hx hb zd_O_sumShares_123 hl (k := 3) rfl (nI_1 i) (by decide) rfl (fun ls hl => ?_)
            refine lv_goto (tgt := 9) hx hb zd_O_sumShares_126 (by decide) ?_
            exact ih_9 (i + 1, (fad (qa, qb) (sx r) (sy r)).1, (fad (qa, qb) (sx r) (sy r)).2) _ _ _ ⟨⟨(by first | omega | (dsimp only; omega)), ((sumO_add (lieP c_4 c_5) (fun h9 => h9.elim (fun h9 => c_7 ((z_cmpG (n := 1000000000) rfl (by decide) hf1).mpr h9)) (fun h9 => Int32.not_lt.mpr c_8 ((z_cmpG (n := 1000000000) rfl (by decide) hf2).mpr h9)))).symm.trans hrem), (Nat.not_lt.mp (fun h9 => c_7 ((z_cmpG (n := 1000000000) rfl (by decide) hf1).mpr h9))), ⟨fad_pos (by dsimp only; omega) (by omega), Nat.not_lt.mp (fun h9 => Int32.not_lt.mpr c_8 ((z_cmpG (n := 1000000000) rfl (by decide) hf2).mpr h9))⟩⟩, z_sub hP [0, 1, 2, 3, 4, 5, 6, 7, 8, 9] rfl, hD.sub [0, 1, 2, 3, 4, 5, 6, 7, 8, 9] (by decide) rfl, hS, lv_sub hl [2, 3, 0] rfl⟩
          · exact z_throwS (SX := Nat × Nat) (cls := "java/lang/IllegalStateException") (text := "the shares\' sum is too long") (wx := fun (u : Nat × Nat) => [(o, .inr (0, [.ref oR, .ref oC, .ref oV, .ref oS, .ref oP, .ref oU, .ref oK, .ref oM, .ref oL, .ref oW, .int (nI t)])), (oV, .inr (10, [.ref vN, .ref vS, .ref vL, .int (nI vl.length)])), (vN, .inl (cQ, 3, .inr (.inr (.inr (.inr (g3 n0 n1 n2)))))), (n1, .inl (cI, 120, .inl N1)), (n2, .inl (cI, 120, .inl N2)), (vL, .inl (cI, 120, .inl L)), (oR, .inr (6, [.ref a1, .ref a2, .ref a3, .ref a4, .ref a5, .ref a6, .ref a7, .int (nI k)])), (a4, .inl (cI, 120, .inl f4)), (a5, .inl (cI, 120, .inl f5)), (oS, .inr (8, [.long (lN u.1), .long (lN u.2)]))]) ((fad (qa, qb) (sx r) (sy r)).1, (fad (qa, qb) (sx r) (sy r)).2) hx hb hst hown hts hZ zcov_ISE zw_314 (by decide +kernel) hS (hl.1.trans hml.symm) zd_O_sumShares_113 zd_O_sumShares_116 zd_O_sumShares_117 zd_O_sumShares_119 zd_O_sumShares_122 (fun x hx => (hEx x hx).elim) (Nat.le_of_ble_eq_true rfl) (Nat.le_of_ble_eq_true rfl) (Nat.le_of_ble_eq_true rfl) (Nat.le_of_ble_eq_true rfl) hlocks (⟨rfl, (hrem.symm.trans (sumO_long (lieP c_4 c_5) (Or.inr ((z_cmpG (n := 1000000000) rfl (by decide) hf2).mp (Int32.not_le.mp c_8)))))⟩) hP hD (Nat.le_of_ble_eq_true rfl) (Nat.le_of_ble_eq_true rfl)
