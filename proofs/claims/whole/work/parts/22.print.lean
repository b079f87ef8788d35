/-- one sign more: how many there are, and the wanted one -/
def prS (w : Int32) (q : Nat × Int32) (s : Int32) : Nat × Int32 := (q.1 + 1, if nI q.1 = w then s else q.2)
def prT (w : Int32) (q : Nat × Int32) (l : List Int32) : Nat × Int32 := l.foldl (prS w) q
theorem prT_app (w : Int32) (q : Nat × Int32) (a b : List Int32) : prT w q (a ++ b) = prT w (prT w q a) b := List.foldl_append
theorem prT_cons (w : Int32) (q : Nat × Int32) (a : Int32) (b : List Int32) : prT w q (a :: b) = prT w (prT w q [a]) b := rfl
def digI (v u : Int32) : Int32 := 48 + (v / u - v / u / 10 * 10)
def uns : Nat → Int32
  | 0 => 0 | 1 => 1 | 2 => 10 | 3 => 100 | 4 => 1000 | 5 => 10000 | 6 => 100000 | _ => 0
def numK (v : Int32) : Nat → List Int32
  | 0 => []
  | k + 1 => if uns (k + 1) ≤ v ∨ uns (k + 1) = 1 then digI v (uns (k + 1)) :: numK v k else numK v k
theorem num_s {v : Int32} {k : Nat} (h : uns (k + 1) ≤ v ∨ uns (k + 1) = 1) : numK v (k + 1) = digI v (uns (k + 1)) :: numK v k := by rw [numK, if_pos h]
theorem num_n {v : Int32} {k : Nat} (h : ¬ (uns (k + 1) ≤ v ∨ uns (k + 1) = 1)) : numK v (k + 1) = numK v k := by rw [numK, if_neg h]
theorem uns_lt : ∀ k : Fin 6, ¬ uns (k.val + 1) ≤ 0 ∧ ¬ uns (k.val + 1) = 0 ∧ uns (k.val + 1) / 10 = uns k.val := by decide
theorem uns_pos {k : Nat} (h : k + 1 ≤ 6) : ¬ uns (k + 1) ≤ 0 := (uns_lt ⟨k, by omega⟩).1
theorem uns_ne {k : Nat} (h : k + 1 ≤ 6) : ¬ uns (k + 1) = 0 := (uns_lt ⟨k, by omega⟩).2.1
theorem uns_div {k : Nat} (h : k + 1 ≤ 6) : uns (k + 1) / 10 = uns k := (uns_lt ⟨k, by omega⟩).2.2
/-- what is printed of a row -/
def rowT (a b c d : Nat → Int32) (r : Nat) : List Int32 := numK (a r) 6 ++ (64 :: (numK (b r) 6 ++ (45 :: (numK (c r) 6 ++ (if d r = 0 then [59] else [63, 59])))))
def chT (a b c d : Nat → Int32) (l : List Nat) : List Int32 := l.flatMap (rowT a b c d)
theorem row_q0 {w : Int32} {q0 q1 q2 q3 q4 q5 q6 : Nat × Int32} {a b c d : Nat → Int32} {r : Nat} {l : List Nat} (hd : d r = 0) (e1 : q1 = prT w q0 (numK (a r) 6)) (e2 : q2 = prT w q1 [64]) (e3 : q3 = prT w q2 (numK (b r) 6)) (e4 : q4 = prT w q3 [45]) (e5 : q5 = prT w q4 (numK (c r) 6)) (e6 : q6 = prT w q5 [59]) : prT w q6 (chT a b c d l) = prT w q0 (chT a b c d (r :: l)) := by
  subst e1 e2 e3 e4 e5 e6
  unfold chT
  rw [List.flatMap_cons, rowT, if_pos hd]
  simp only [prT_app, prT_cons w _ 64 (_ ++ _), prT_cons w _ 45 (_ ++ _)]
theorem row_q1 {w : Int32} {q0 q1 q2 q3 q4 q5 q6 q7 : Nat × Int32} {a b c d : Nat → Int32} {r : Nat} {l : List Nat} (hd : ¬ d r = 0) (e1 : q1 = prT w q0 (numK (a r) 6)) (e2 : q2 = prT w q1 [64]) (e3 : q3 = prT w q2 (numK (b r) 6)) (e4 : q4 = prT w q3 [45]) (e5 : q5 = prT w q4 (numK (c r) 6)) (e6 : q6 = prT w q5 [63]) (e7 : q7 = prT w q6 [59]) : prT w q7 (chT a b c d l) = prT w q0 (chT a b c d (r :: l)) := by
  subst e1 e2 e3 e4 e5 e6 e7
  unfold chT
  rw [List.flatMap_cons, rowT, if_neg hd]
  simp only [prT_app, prT_cons w _ 64 (_ ++ _), prT_cons w _ 45 (_ ++ _), prT_cons w _ 63 [59]]
/-- a stands ahead of b -/
def ahB (G : Nat → Int32) (a b : Nat) : Prop := (G a).toInt < (G b).toInt ∨ ((G a).toInt = (G b).toInt ∧ a < b)
def swp (f : Nat → Nat) (a : Nat) : Nat → Nat := fun j => if j = a then f (a - 1) else if j = a - 1 then f a else f j
def sO (vl : List Nat) (G : Nat → Int32) (i : Nat) (Q : Nat → Int32) (f : Nat → Nat) : Prop :=
  (∀ j, j < vl.length → Q j = nI (f j)) ∧ (∀ j, j < vl.length → f j < 120) ∧ (∀ p q, p < q → q < i → q < vl.length → ahB G (f p) (f q)) ∧ (∀ p q, p < q → i ≤ q → q < vl.length → f p < f q) ∧ (∀ r, (∃ j, j < vl.length ∧ f j = r) ↔ r ∈ vl)
def sI (vl : List Nat) (G : Nat → Int32) (i x a : Nat) (Q : Nat → Int32) (f : Nat → Nat) : Prop :=
  (∀ j, j < vl.length → j ≠ a → Q j = nI (f j)) ∧ (∀ j, j < vl.length → f j < 120) ∧ f a = x ∧ (∀ p q, p < q → q ≤ i → p ≠ a → q ≠ a → ahB G (f p) (f q)) ∧ (∀ q, a < q → q ≤ i → (G x).toInt < (G (f q)).toInt) ∧ (∀ p, p ≤ i → p ≠ a → f p < x) ∧ (∀ p q, p < q → i < q → q < vl.length → f p < f q) ∧ (∀ r, (∃ j, j < vl.length ∧ f j = r) ↔ r ∈ vl)
theorem sO_0 {vl : List Nat} {G Q : Nat → Int32} (h1 : lstI vl Q) (h2 : ∀ r, r ∈ vl → r < 120) (h3 : vl.Pairwise (· < ·)) : sO vl G 1 Q (fun j => (vl[j]?).getD 0) := by
  have hs : ∀ j, j < vl.length → ∃ r, vl[j]? = some r ∧ (vl[j]?).getD 0 = r ∧ r ∈ vl := fun j hj => by
    obtain ⟨r, hr⟩ := z_some hj
    exact ⟨r, hr, by rw [hr]; rfl, List.mem_of_getElem? hr⟩
  have hp : ∀ p q, p < q → q < vl.length → (vl[p]?).getD 0 < (vl[q]?).getD 0 := fun p q hpq hq => by
    have h := List.pairwise_iff_getElem.mp h3 p q (by omega) hq hpq
    rw [List.getElem?_eq_getElem hq, List.getElem?_eq_getElem (by omega)]
    exact h
  refine ⟨fun j hj => ?_, fun j hj => ?_, fun p q h h' _ => by omega, fun p q h _ hq => hp p q h hq, fun r => ⟨fun ⟨j, hj, he⟩ => ?_, fun hr => ?_⟩⟩
  · obtain ⟨r, e1, e2, e3⟩ := hs j hj
    dsimp only
    rw [e2]; exact h1 j r e1
  · obtain ⟨r, e1, e2, e3⟩ := hs j hj
    dsimp only
    rw [e2]; exact h2 r e3
  · obtain ⟨r', e1, e2, e3⟩ := hs j hj
    dsimp only at he
    rw [e2] at he; subst he; exact e3
  · obtain ⟨j, hj, he⟩ := List.getElem_of_mem hr
    exact ⟨j, hj, by dsimp only; rw [List.getElem?_eq_getElem hj]; exact he⟩
theorem sO_in {vl : List Nat} {G Q : Nat → Int32} {i x : Nat} {f : Nat → Nat} (h : sO vl G i Q f) (hi : i < vl.length) (hx : x = f i) : sI vl G i x i Q f := by
  obtain ⟨h1, h2, h3, h4, h5⟩ := h
  subst hx
  exact ⟨fun j hj _ => h1 j hj, h2, rfl, fun p q hpq hq _ hqa => h3 p q hpq (by omega) (by omega), fun q hq hq' => by omega, fun p hp hpa => h4 p i (by omega) (Nat.le_refl _) hi, fun p q hpq hq hl => h4 p q hpq (by omega) hl, h5⟩
theorem swp_a (f : Nat → Nat) (a : Nat) : swp f a a = f (a - 1) := by unfold swp; rw [if_pos rfl]
theorem swp_p (f : Nat → Nat) {a : Nat} (h : 0 < a) : swp f a (a - 1) = f a := by unfold swp; rw [if_neg (by omega), if_pos rfl]
theorem swp_o (f : Nat → Nat) {a j : Nat} (h : j ≠ a) (h' : j ≠ a - 1) : swp f a j = f j := by unfold swp; rw [if_neg h, if_neg h']
theorem sI_sh {vl : List Nat} {G Q : Nat → Int32} {i x a : Nat} {f : Nat → Nat} (h : sI vl G i x a Q f) (ha : 0 < a) (hai : a ≤ i) (hi : i < vl.length) (hg : (G x).toInt < (G (f (a - 1))).toInt) : sI vl G i x (a - 1) (upd Q a (Q (a - 1))) (swp f a) := by
  obtain ⟨h1, h2, h3, h4, h5, h6, h7, h8⟩ := h
  refine ⟨fun j hj hja => ?_, fun j hj => ?_, ?_, fun p q hpq hq hp1 hq1 => ?_, fun q hq hqi => ?_, fun p hp hpa => ?_, fun p q hpq hq hl => ?_, fun r => ?_⟩
  · by_cases e : j = a
    · subst e; rw [pk_us, swp_a]; exact h1 _ (by omega) (by omega)
    · rw [pk_un e, swp_o f e hja]; exact h1 j hj e
  · by_cases e : j = a
    · subst e; rw [swp_a]; exact h2 _ (by omega)
    · by_cases e' : j = a - 1
      · subst e'; rw [swp_p f ha]; exact h2 _ (by omega)
      · rw [swp_o f e e']; exact h2 j hj
  · rw [swp_p f ha]; exact h3
  · by_cases e : p = a
    · subst e
      rw [swp_a, swp_o f (by omega) (by omega)]
      exact h4 (p - 1) q (by omega) hq (by omega) (by omega)
    · by_cases e' : q = a
      · subst e'
        rw [swp_a, swp_o f e hp1]
        exact h4 p (q - 1) (by omega) (by omega) e (by omega)
      · rw [swp_o f e hp1, swp_o f e' hq1]
        exact h4 p q hpq hq e e'
  · by_cases e : q = a
    · subst e; rw [swp_a]; exact hg
    · rw [swp_o f e (by omega)]; exact h5 q (by omega) hqi
  · by_cases e : p = a
    · subst e; rw [swp_a]; exact h6 _ (by omega) (by omega)
    · rw [swp_o f e hpa]; exact h6 p hp e
  · rw [swp_o f (j := q) (by omega) (by omega)]
    by_cases e : p = a
    · subst e; rw [swp_a]; exact h7 _ _ (by omega) hq hl
    · by_cases e' : p = a - 1
      · subst e'; rw [swp_p f ha]; exact h7 _ _ (by omega) hq hl
      · rw [swp_o f e e']; exact h7 p q hpq hq hl
  · rw [← h8 r]
    constructor
    · rintro ⟨j, hj, he⟩
      by_cases e : j = a
      · subst e; rw [swp_a] at he; exact ⟨j - 1, by omega, he⟩
      · by_cases e' : j = a - 1
        · subst e'; rw [swp_p f ha] at he; exact ⟨a, by omega, he⟩
        · rw [swp_o f e e'] at he; exact ⟨j, hj, he⟩
    · rintro ⟨j, hj, he⟩
      by_cases e : j = a
      · subst e; exact ⟨j - 1, by omega, by rw [swp_p f ha]; exact he⟩
      · by_cases e' : j = a - 1
        · subst e'; exact ⟨a, by omega, by rw [swp_a]; exact he⟩
        · exact ⟨j, hj, by rw [swp_o f e e']; exact he⟩
theorem sI_out {vl : List Nat} {G Q : Nat → Int32} {i x a : Nat} {f : Nat → Nat} (h : sI vl G i x a Q f) (hai : a ≤ i) (hi : i < vl.length) (hg : a = 0 ∨ (G (f (a - 1))).toInt ≤ (G x).toInt) : sO vl G (i + 1) (upd Q a (nI x)) f := by
  obtain ⟨h1, h2, h3, h4, h5, h6, h7, h8⟩ := h
  refine ⟨fun j hj => ?_, h2, fun p q hpq hq hl => ?_, fun p q hpq hq hl => h7 p q hpq (by omega) hl, h8⟩
  · by_cases e : j = a
    · subst e; rw [pk_us, h3]
    · rw [pk_un e]; exact h1 j hj e
  · by_cases e : p = a
    · subst e; rw [h3]; exact Or.inl (h5 q hpq (by omega))
    · by_cases e' : q = a
      · subst e'
        rw [h3]
        have hlt := h6 p (by omega) e
        have hge : (G (f p)).toInt ≤ (G x).toInt := by
          rcases hg with hg | hg
          · omega
          · by_cases e2 : p = q - 1
            · subst e2; exact hg
            · have h9 := h4 p (q - 1) (by omega) (by omega) e (by omega)
              unfold ahB at h9
              omega
        unfold ahB
        omega
      · exact h4 p q hpq (by omega) e e'
/-- the list in the order of from and number -/
def srtO (vl : List Nat) (G : Nat → Int32) (l : List Nat) : Prop := l.length = vl.length ∧ l.Pairwise (ahB G) ∧ ∀ r, r ∈ l ↔ r ∈ vl
theorem sO_end {vl : List Nat} {G Q : Nat → Int32} {i : Nat} {f : Nat → Nat} (h : sO vl G i Q f) (hi : vl.length ≤ i) : srtO vl G ((List.range vl.length).map f) ∧ lstI ((List.range vl.length).map f) Q := by
  obtain ⟨h1, h2, h3, h4, h5⟩ := h
  refine ⟨⟨by simp, ?_, fun r => ?_⟩, fun j r hj => ?_⟩
  · rw [List.pairwise_iff_getElem]
    intro p q hp hq hpq
    simp only [List.length_map, List.length_range] at hp hq
    simp only [List.getElem_map, List.getElem_range]
    exact h3 p q hpq (by omega) hq
  · rw [← h5 r]; simp
  · obtain ⟨hl, he⟩ := List.getElem?_eq_some_iff.mp hj
    simp only [List.length_map, List.length_range] at hl
    simp only [List.getElem_map, List.getElem_range] at he
    rw [h1 j hl, he]
theorem z_dec1 {a : Nat} (h : 0 < a) : nI a + (-1) = nI (a - 1) := by
  obtain ⟨b, rfl⟩ : ∃ b, a = b + 1 := ⟨a - 1, by omega⟩
  rw [← Int32.sub_eq_add_neg]
  exact nI_pred b
theorem z_sub1 {a : Nat} (h : 0 < a) : nI a - 1 = nI (a - 1) := by
  obtain ⟨b, rfl⟩ : ∃ b, a = b + 1 := ⟨a - 1, by omega⟩
  exact nI_pred b
/-- the k-th gap's edge -/
def egF (N1 N2 : Nat → Int32) (en : Int32) : List Nat → Int32 → Int32 → Int32
  | [], _, _ => -1
  | r :: l, x, y => if x + 1 < N1 r then (if y = 0 then (if en = 0 then x + 1 else N1 r - 1) else egF N1 N2 en l (if x < N2 r then N2 r else x) (y + (-1))) else egF N1 N2 en l (if x < N2 r then N2 r else x) y
def edgF (N1 N2 : Nat → Int32) (en : Int32) : List Nat → Int32 → Int32
  | [], _ => -1
  | r :: l, y => egF N1 N2 en l (N2 r) y
set_option maxHeartbeats 4000000 in
set_option maxRecDepth 100000 in
theorem k_Pr_start (l : Launch) (hst : l.stackTraces = false) (dC : Nat → ClassId) (dI : Nat → Nat → Nat) (cI cZ cJ cQ : ClassId) (sz : Nat) (oP : Nat) (wd : Int32) (n : Nat) (ct : Int32) (p0 : Int32) : Met l zy_Pr_start zws_Pr_start ({ frames := 0, cells := 0, slots := 0, locals := 0 }) (zPc (dC, dI) zCl (zTy cI cZ cJ cQ) [(oP, .inr (4, [.int wd, .int (nI n), .int ct]))] sz [.ref oP, .int p0]) (zQv (dC, dI) zCl (fun (u : Unit) => True) (fun (u : Unit) => [(oP, .inr (4, [.int p0, .int 0, .int (-1)]))]) (va_A [(oP, .inr (4, [.int wd, .int (nI n), .int ct]))] sz)) 0 0 (va_A [(oP, .inr (4, [.int wd, .int (nI n), .int ct]))] sz) := by
  refine Met.ofW (cc := zc_Pr_start) (maxL := 2) (ret := none) (by decide) rfl ?_
  intro p e s m args below meth c s₁ B hml hv
  obtain ⟨rfl, hsz, hP, hK, hD0, hZ⟩ := hv
  have hx := B.exec
  have hb := B.bytes
  have hr := B.returns
  have hts := fun (w : Cond) (h : w ∈ zW) => atoms_spec (ws := zws_Pr_start) B.pre w (List.mem_cons_of_mem _ h)
  have hown : s.vm.findClass zR_Pr = some m.cls := findClass_of_methodNamed B.named
  have hlocks := B.notSynchronized
  subst hsz
  have hD := hD0.self (sz := s.heap.size)
  generalize hAe : va_A [(oP, .inr (4, [.int wd, .int (nI n), .int ct]))] s.heap.size = A at hD hZ ⊢
  have hA : ∀ q : Nat, s.heap.size ≤ q → A q := fun q h => by rw [← hAe]; exact Or.inr h
  have hS : va_S A s.heap s.heap [] := va_S.rf
  have hl := lv_entry ([.ref oP, .int p0]) (n := 2) (Nat.le_of_ble_eq_true rfl)
  rw [lg_entry_eq]
  generalize (lg_sl ([.ref oP, .int p0]) ++ List.replicate (2 - (lg_sl ([.ref oP, .int p0])).length) Slot.unset).toArray = ls at hl ⊢
  have hl : lv_has ls 2 [(0, .ref oP), (1, .int p0)] := hl
  refine z_start hP hS (fun H locs hP hS => ?_)
  refine lv_aload_n hx hb zd_Pr_start_0 rfl (lv_at hl 0 rfl) ?_
  refine lv_iload_n hx hb zd_Pr_start_1 rfl (lv_at hl 1 rfl) ?_
  refine va_put (D := (dC, dI)) (ci := 4) (v := .int p0) (ty := .int) (C := zR_Pr) (T := zT_Pr) (N := 3) hx hb hts zin_Pr zt_Pr zt_Pr_ok zn_Pr hown hK hP hD hS 0 rfl rfl 0 (by decide) (hts _ zw_147) (fun _ h9 => h9) rfl (by decide +kernel) rfl rfl (Nat.le_of_ble_eq_true rfl) zd_Pr_start_2 (fun H locs hP hD hS => ?_)
  have hP : va_P (dC, dI) zCl [(oP, .inr (4, [.int p0, .int (nI n), .int ct]))] H := hP
  have hD : va_D A [(oP, .inr (4, [.int p0, .int (nI n), .int ct]))] := hD
  refine lv_aload_n hx hb zd_Pr_start_5 rfl (lv_at hl 0 rfl) ?_
  refine lv_iconst (v := 0) hx hb zd_Pr_start_6 (by decide) ?_
  refine va_put (D := (dC, dI)) (ci := 4) (v := .int 0) (ty := .int) (C := zR_Pr) (T := zT_Pr) (N := 3) hx hb hts zin_Pr zt_Pr zt_Pr_ok zn_Pr hown hK hP hD hS 0 rfl rfl 1 (by decide) (hts _ zw_148) (fun _ h9 => h9) rfl (by decide +kernel) rfl rfl (Nat.le_of_ble_eq_true rfl) zd_Pr_start_7 (fun H locs hP hD hS => ?_)
  have hP : va_P (dC, dI) zCl [(oP, .inr (4, [.int p0, .int 0, .int ct]))] H := hP
  have hD : va_D A [(oP, .inr (4, [.int p0, .int 0, .int ct]))] := hD
  refine lv_aload_n hx hb zd_Pr_start_10 rfl (lv_at hl 0 rfl) ?_
  refine lv_iconst (v := -1) hx hb zd_Pr_start_11 (by decide) ?_
  refine va_put (D := (dC, dI)) (ci := 4) (v := .int (-1)) (ty := .int) (C := zR_Pr) (T := zT_Pr) (N := 3) hx hb hts zin_Pr zt_Pr zt_Pr_ok zn_Pr hown hK hP hD hS 0 rfl rfl 2 (by decide) (hts _ zw_150) (fun _ h9 => h9) rfl (by decide +kernel) rfl rfl (Nat.le_of_ble_eq_true rfl) zd_Pr_start_12 (fun H locs hP hD hS => ?_)
  have hP : va_P (dC, dI) zCl [(oP, .inr (4, [.int p0, .int 0, .int (-1)]))] H := hP
  have hD : va_D A [(oP, .inr (4, [.int p0, .int 0, .int (-1)]))] := hD
  exact z_vret (S := Unit) (w1 := fun (u : Unit) => [(oP, .inr (4, [.int p0, .int 0, .int (-1)]))]) () hx hb hr hlocks trivial hP hD hS (Nat.le_of_ble_eq_true rfl) (Nat.le_of_ble_eq_true rfl) zd_Pr_start_15
set_option maxHeartbeats 4000000 in
set_option maxRecDepth 100000 in
theorem k_Pr_sign (l : Launch) (hst : l.stackTraces = false) (dC : Nat → ClassId) (dI : Nat → Nat → Nat) (cI cZ cJ cQ : ClassId) (sz : Nat) (oP : Nat) (wd : Int32) (n : Nat) (ct : Int32) (p0 : Int32) : Met l zy_Pr_sign zws_Pr_sign ({ frames := 0, cells := 0, slots := 0, locals := 0 }) (zPc (dC, dI) zCl (zTy cI cZ cJ cQ) [(oP, .inr (4, [.int wd, .int (nI n), .int ct]))] sz [.ref oP, .int p0]) (zQv (dC, dI) zCl (fun (u : Nat × Int32) => ((u.1, u.2) = prT wd (n, ct) [p0])) (fun (u : Nat × Int32) => [(oP, .inr (4, [.int wd, .int (nI u.1), .int u.2]))]) (va_A [(oP, .inr (4, [.int wd, .int (nI n), .int ct]))] sz)) 0 0 (va_A [(oP, .inr (4, [.int wd, .int (nI n), .int ct]))] sz) := by
  refine Met.ofW (cc := zc_Pr_sign) (maxL := 2) (ret := none) (by decide) rfl ?_
  intro p e s m args below meth c s₁ B hml hv
  obtain ⟨rfl, hsz, hP, hK, hD0, hZ⟩ := hv
  have hx := B.exec
  have hb := B.bytes
  have hr := B.returns
  have hts := fun (w : Cond) (h : w ∈ zW) => atoms_spec (ws := zws_Pr_sign) B.pre w (List.mem_cons_of_mem _ h)
  have hown : s.vm.findClass zR_Pr = some m.cls := findClass_of_methodNamed B.named
  have hlocks := B.notSynchronized
  subst hsz
  have hD := hD0.self (sz := s.heap.size)
  generalize hAe : va_A [(oP, .inr (4, [.int wd, .int (nI n), .int ct]))] s.heap.size = A at hD hZ ⊢
  have hA : ∀ q : Nat, s.heap.size ≤ q → A q := fun q h => by rw [← hAe]; exact Or.inr h
  have hS : va_S A s.heap s.heap [] := va_S.rf
  have hl := lv_entry ([.ref oP, .int p0]) (n := 2) (Nat.le_of_ble_eq_true rfl)
  rw [lg_entry_eq]
  generalize (lg_sl ([.ref oP, .int p0]) ++ List.replicate (2 - (lg_sl ([.ref oP, .int p0])).length) Slot.unset).toArray = ls at hl ⊢
  have hl : lv_has ls 2 [(0, .ref oP), (1, .int p0)] := hl
  refine z_start hP hS (fun H locs hP hS => ?_)
  refine lv_aload_n hx hb zd_Pr_sign_0 rfl (lv_at hl 0 rfl) ?_
  refine va_get (D := (dC, dI)) (ci := 4) (v := .int (nI n)) (C := zR_Pr) (T := zT_Pr) (N := 3) hx hb hts zin_Pr hown hK hP 0 rfl rfl 1 (by decide) (hts _ zw_148) (fun _ h9 => h9) rfl zd_Pr_sign_1 ?_
  refine lv_aload_n hx hb zd_Pr_sign_4 rfl (lv_at hl 0 rfl) ?_
  refine va_get (D := (dC, dI)) (ci := 4) (v := .int wd) (C := zR_Pr) (T := zT_Pr) (N := 3) hx hb hts zin_Pr hown hK hP 0 rfl rfl 0 (by decide) (hts _ zw_147) (fun _ h9 => h9) rfl zd_Pr_sign_5 ?_
  refine lv_icmp_ne (tgt := 16) hx hb zd_Pr_sign_8 (by decide) (fun c_1 => ?_) (fun c_1 => ?_)
  · refine lv_aload_n hx hb zd_Pr_sign_16 rfl (lv_at hl 0 rfl) ?_
    refine lv_dup hx hb zd_Pr_sign_17 rfl ?_
    refine va_get (D := (dC, dI)) (ci := 4) (v := .int (nI n)) (C := zR_Pr) (T := zT_Pr) (N := 3) hx hb hts zin_Pr hown hK hP 0 rfl rfl 1 (by decide) (hts _ zw_148) (fun _ h9 => h9) rfl zd_Pr_sign_18 ?_
    refine lv_iconst (v := 1) hx hb zd_Pr_sign_21 (by decide) ?_
    refine lv_iadd hx hb zd_Pr_sign_22 ?_
    rw [nI_1 n]
    refine va_put (D := (dC, dI)) (ci := 4) (v := .int (nI (n + 1))) (ty := .int) (C := zR_Pr) (T := zT_Pr) (N := 3) hx hb hts zin_Pr zt_Pr zt_Pr_ok zn_Pr hown hK hP hD hS 0 rfl rfl 1 (by decide) (hts _ zw_148) (fun _ h9 => h9) rfl (by decide +kernel) rfl rfl (Nat.le_of_ble_eq_true rfl) zd_Pr_sign_23 (fun H locs hP hD hS => ?_)
    have hP : va_P (dC, dI) zCl [(oP, .inr (4, [.int wd, .int (nI (n + 1)), .int ct]))] H := hP
    have hD : va_D A [(oP, .inr (4, [.int wd, .int (nI (n + 1)), .int ct]))] := hD
    exact z_vret (S := Nat × Int32) (w1 := fun (u : Nat × Int32) => [(oP, .inr (4, [.int wd, .int (nI u.1), .int u.2]))]) (n + 1, ct) hx hb hr hlocks (by show _ = prS wd (n, ct) p0; unfold prS; rw [if_neg c_1]) hP hD hS (Nat.le_of_ble_eq_true rfl) (Nat.le_of_ble_eq_true rfl) zd_Pr_sign_26
  · refine lv_aload_n hx hb zd_Pr_sign_11 rfl (lv_at hl 0 rfl) ?_
    refine lv_iload_n hx hb zd_Pr_sign_12 rfl (lv_at hl 1 rfl) ?_
    refine va_put (D := (dC, dI)) (ci := 4) (v := .int p0) (ty := .int) (C := zR_Pr) (T := zT_Pr) (N := 3) hx hb hts zin_Pr zt_Pr zt_Pr_ok zn_Pr hown hK hP hD hS 0 rfl rfl 2 (by decide) (hts _ zw_150) (fun _ h9 => h9) rfl (by decide +kernel) rfl rfl (Nat.le_of_ble_eq_true rfl) zd_Pr_sign_13 (fun H locs hP hD hS => ?_)
    have hP : va_P (dC, dI) zCl [(oP, .inr (4, [.int wd, .int (nI n), .int p0]))] H := hP
    have hD : va_D A [(oP, .inr (4, [.int wd, .int (nI n), .int p0]))] := hD
    refine lv_aload_n hx hb zd_Pr_sign_16 rfl (lv_at hl 0 rfl) ?_
    refine lv_dup hx hb zd_Pr_sign_17 rfl ?_
    refine va_get (D := (dC, dI)) (ci := 4) (v := .int (nI n)) (C := zR_Pr) (T := zT_Pr) (N := 3) hx hb hts zin_Pr hown hK hP 0 rfl rfl 1 (by decide) (hts _ zw_148) (fun _ h9 => h9) rfl zd_Pr_sign_18 ?_
    refine lv_iconst (v := 1) hx hb zd_Pr_sign_21 (by decide) ?_
    refine lv_iadd hx hb zd_Pr_sign_22 ?_
    rw [nI_1 n]
    refine va_put (D := (dC, dI)) (ci := 4) (v := .int (nI (n + 1))) (ty := .int) (C := zR_Pr) (T := zT_Pr) (N := 3) hx hb hts zin_Pr zt_Pr zt_Pr_ok zn_Pr hown hK hP hD hS 0 rfl rfl 1 (by decide) (hts _ zw_148) (fun _ h9 => h9) rfl (by decide +kernel) rfl rfl (Nat.le_of_ble_eq_true rfl) zd_Pr_sign_23 (fun H locs hP hD hS => ?_)
    have hP : va_P (dC, dI) zCl [(oP, .inr (4, [.int wd, .int (nI (n + 1)), .int p0]))] H := hP
    have hD : va_D A [(oP, .inr (4, [.int wd, .int (nI (n + 1)), .int p0]))] := hD
    exact z_vret (S := Nat × Int32) (w1 := fun (u : Nat × Int32) => [(oP, .inr (4, [.int wd, .int (nI u.1), .int u.2]))]) (n + 1, p0) hx hb hr hlocks (by show _ = prS wd (n, ct) p0; unfold prS; rw [if_pos c_1]) hP hD hS (Nat.le_of_ble_eq_true rfl) (Nat.le_of_ble_eq_true rfl) zd_Pr_sign_26
set_option maxHeartbeats 4000000 in
set_option maxRecDepth 100000 in
theorem k_Pr_number (l : Launch) (hst : l.stackTraces = false) (dC : Nat → ClassId) (dI : Nat → Nat → Nat) (cI cZ cJ cQ : ClassId) (sz : Nat) (oP : Nat) (wd : Int32) (n : Nat) (ct : Int32) (p0 : Int32) : Met l zy_Pr_number zws_Pr_number ({ frames := 1, cells := 0, slots := 0, locals := 21 }) (zPc (dC, dI) zCl (zTy cI cZ cJ cQ) [(oP, .inr (4, [.int wd, .int (nI n), .int ct]))] sz [.ref oP, .int p0]) (zQv (dC, dI) zCl (fun (u : Nat × Int32) => ((u.1, u.2) = prT wd (n, ct) (numK p0 6))) (fun (u : Nat × Int32) => [(oP, .inr (4, [.int wd, .int (nI u.1), .int u.2]))]) (va_A [(oP, .inr (4, [.int wd, .int (nI n), .int ct]))] sz)) 0 0 (va_A [(oP, .inr (4, [.int wd, .int (nI n), .int ct]))] sz) := by
  refine Met.ofW (cc := zc_Pr_number) (maxL := 3) (ret := none) (by decide) rfl ?_
  intro p e s m args below meth c s₁ B hml hv
  obtain ⟨rfl, hsz, hP, hK, hD0, hZ⟩ := hv
  have hx := B.exec
  have hb := B.bytes
  have hr := B.returns
  have hts := fun (w : Cond) (h : w ∈ zW) => atoms_spec (ws := zws_Pr_number) B.pre w (List.mem_cons_of_mem _ h)
  have hown : s.vm.findClass zR_Pr = some m.cls := findClass_of_methodNamed B.named
  have hlocks := B.notSynchronized
  subst hsz
  have hD := hD0.self (sz := s.heap.size)
  generalize hAe : va_A [(oP, .inr (4, [.int wd, .int (nI n), .int ct]))] s.heap.size = A at hD hZ ⊢
  have hA : ∀ q : Nat, s.heap.size ≤ q → A q := fun q h => by rw [← hAe]; exact Or.inr h
  have hS : va_S A s.heap s.heap [] := va_S.rf
  have hl := lv_entry ([.ref oP, .int p0]) (n := 3) (Nat.le_of_ble_eq_true rfl)
  rw [lg_entry_eq]
  generalize (lg_sl ([.ref oP, .int p0]) ++ List.replicate (3 - (lg_sl ([.ref oP, .int p0])).length) Slot.unset).toArray = ls at hl ⊢
  have hl : lv_has ls 3 [(0, .ref oP), (1, .int p0)] := hl
  refine z_start hP hS (fun H locs hP hS => ?_)
  refine lv_ldc (v := 100000) hx hb hown (hts _ zw_703) zd_Pr_number_0 ?_
  refine lv_istore_n (lv' := [(2, .int 100000), (0, .ref oP), (1, .int p0)]) hx hb zd_Pr_number_2 rfl hl (by decide) rfl (fun ls hl => ?_)
  refine z_loopN (σ := Int32 × Nat × Int32) (fun (fu : Nat) (x9 : Int32 × Nat × Int32) H locs ls => match x9 with | (u, nn, kk) => (fu ≤ 6 ∧ (u = uns fu) ∧ (prT wd (nn, kk) (numK p0 fu) = prT wd (n, ct) (numK p0 6))) ∧ va_P (dC, dI) zCl [(oP, .inr (4, [.int wd, .int (nI nn), .int kk]))] H ∧ va_D A [(oP, .inr (4, [.int wd, .int (nI nn), .int kk]))] ∧ va_S A s.heap H locs ∧ lv_has ls 3 [(0, .ref oP), (1, .int p0), (2, .int u)]) (fun x9 H locs ls hI => ?_) (fun fu x9 H locs ls ih_3 hI => ?_) 6 (100000, n, ct) ⟨⟨(by first | omega | (dsimp only; omega)), rfl, rfl⟩, z_sub hP [0] rfl, hD.sub [0] (by decide) rfl, hS, lv_sub hl [1, 2, 0] rfl⟩
  · obtain ⟨u, nn, kk⟩ := x9
    dsimp only at hI
    obtain ⟨⟨hfu, hu, hrem⟩, hP, hD, hS, hl⟩ := hI
    refine lv_iload_n hx hb zd_Pr_number_3 rfl (lv_at hl 2 rfl) ?_
    refine lv_if_le (tgt := 38) hx hb zd_Pr_number_4 (by decide) (fun _ => ?_) (fun c_1 => absurd (by rw [hu]; decide) c_1)
    exact z_vret (S := Nat × Int32) (w1 := fun (u : Nat × Int32) => [(oP, .inr (4, [.int wd, .int (nI u.1), .int u.2]))]) (nn, kk) hx hb hr hlocks hrem hP hD hS (Nat.le_of_ble_eq_true rfl) (Nat.le_of_ble_eq_true rfl) zd_Pr_number_38
  · obtain ⟨u, nn, kk⟩ := x9
    dsimp only at hI
    obtain ⟨⟨hfu, hu, hrem⟩, hP, hD, hS, hl⟩ := hI
    dsimp only at ih_3
    refine lv_iload_n hx hb zd_Pr_number_3 rfl (lv_at hl 2 rfl) ?_
    refine lv_if_le (tgt := 38) hx hb zd_Pr_number_4 (by decide) (fun c_2 => absurd c_2 (by rw [hu]; exact uns_pos hfu)) (fun _ => ?_)
    refine lv_iload_n hx hb zd_Pr_number_7 rfl (lv_at hl 1 rfl) ?_
    refine lv_iload_n hx hb zd_Pr_number_8 rfl (lv_at hl 2 rfl) ?_
    refine lv_icmp_ge (tgt := 17) hx hb zd_Pr_number_9 (by decide) (fun c_3 => ?_) (fun c_3 => ?_)
    · refine lv_aload_n hx hb zd_Pr_number_17 rfl (lv_at hl 0 rfl) ?_
      refine lv_bipush (v := 48) hx hb zd_Pr_number_18 (by decide) ?_
      refine lv_iload_n hx hb zd_Pr_number_20 rfl (lv_at hl 1 rfl) ?_
      refine lv_iload_n hx hb zd_Pr_number_21 rfl (lv_at hl 2 rfl) ?_
      refine lv_idiv hx hb zd_Pr_number_22 (by rw [hu]; exact uns_ne hfu) ?_
      refine lv_bipush (v := 10) hx hb zd_Pr_number_23 (by decide) ?_
      refine lv_irem hx hb zd_Pr_number_25 (by decide) ?_
      refine lv_iadd hx hb zd_Pr_number_26 ?_
      refine z_callv (wc := [(oP, .inr (4, [.int wd, .int (nI nn), .int kk]))]) (wr := []) [0] [] hP hD hS hA rfl rfl (by decide) (by decide) (by decide) (fun hPc hDc hFc => va_runV (As := [.int (48 + ((p0 / u) - (p0 / u) / 10 * 10))]) (rest := []) ⟨hx, hb, hml, hown, hts⟩ (k_Pr_sign l hst dC dI cI cZ cJ cQ H.size oP wd nn kk (48 + ((p0 / u) - (p0 / u) / 10 * 10))) (cwV 1 hts (zgV zw_704 zw_706 zs_Pr_sign zw_6 zw_707) rfl rfl rfl (by decide +kernel) ⟨(Nat.le_of_ble_eq_true rfl), (Nat.le_of_ble_eq_true rfl)⟩) ⟨zPc.blind, va_recv hK hPc (ci := 4) (q0 := 0) rfl rfl, zPc.mk hPc hK hDc hZ hS hFc _⟩ rfl rfl hl.1 rfl (lv_room (Nat.le_of_ble_eq_true rfl)) zd_Pr_number_27 ⟨(Nat.le_of_ble_eq_true rfl), (Nat.le_of_ble_eq_true rfl)⟩) (fun u H locs hw hP hD hS => ?_)
      obtain ⟨n9_4, c9_4⟩ := u
      try dsimp only at hw hP hD
      have hP : va_P (dC, dI) zCl [(oP, .inr (4, [.int wd, .int (nI n9_4), .int c9_4]))] H := hP
      have hD : va_D A [(oP, .inr (4, [.int wd, .int (nI n9_4), .int c9_4]))] := hD
      have hv_4 := hw
      refine lv_iload_n hx hb zd_Pr_number_30 rfl (lv_at hl 2 rfl) ?_
      refine lv_bipush (v := 10) hx hb zd_Pr_number_31 (by decide) ?_
      refine lv_idiv hx hb zd_Pr_number_33 (by decide) ?_
      refine lv_istore_n (lv' := [(2, .int (u / 10)), (0, .ref oP), (1, .int p0)]) hx hb zd_Pr_number_34 rfl hl (by decide) rfl (fun ls hl => ?_)
      refine lv_goto (tgt := 3) hx hb zd_Pr_number_35 (by decide) ?_
      exact ih_3 (u / 10, n9_4, c9_4) _ _ _ ⟨⟨(by first | omega | (dsimp only; omega)), (by rw [hu]; exact uns_div hfu), (by rw [hv_4]; subst hu; rw [num_s (Or.inl c_3)] at hrem; exact hrem)⟩, z_sub hP [0] rfl, hD.sub [0] (by decide) rfl, hS, lv_sub hl [1, 2, 0] rfl⟩
    · refine lv_iload_n hx hb zd_Pr_number_12 rfl (lv_at hl 2 rfl) ?_
      refine lv_iconst (v := 1) hx hb zd_Pr_number_13 (by decide) ?_
      refine lv_icmp_ne (tgt := 30) hx hb zd_Pr_number_14 (by decide) (fun c_5 => ?_) (fun c_5 => ?_)
      · refine lv_iload_n hx hb zd_Pr_number_30 rfl (lv_at hl 2 rfl) ?_
        refine lv_bipush (v := 10) hx hb zd_Pr_number_31 (by decide) ?_
        refine lv_idiv hx hb zd_Pr_number_33 (by decide) ?_
        refine lv_istore_n (lv' := [(2, .int (u / 10)), (0, .ref oP), (1, .int p0)]) hx hb zd_Pr_number_34 rfl hl (by decide) rfl (fun ls hl => ?_)
        refine lv_goto (tgt := 3) hx hb zd_Pr_number_35 (by decide) ?_
        exact ih_3 (u / 10, nn, kk) _ _ _ ⟨⟨(by first | omega | (dsimp only; omega)), (by rw [hu]; exact uns_div hfu), (by subst hu; rw [num_n (fun h9 => h9.elim c_3 c_5)] at hrem; exact hrem)⟩, z_sub hP [0] rfl, hD.sub [0] (by decide) rfl, hS, lv_sub hl [1, 2, 0] rfl⟩
      · refine lv_aload_n hx hb zd_Pr_number_17 rfl (lv_at hl 0 rfl) ?_
        refine lv_bipush (v := 48) hx hb zd_Pr_number_18 (by decide) ?_
        refine lv_iload_n hx hb zd_Pr_number_20 rfl (lv_at hl 1 rfl) ?_
        refine lv_iload_n hx hb zd_Pr_number_21 rfl (lv_at hl 2 rfl) ?_
        refine lv_idiv hx hb zd_Pr_number_22 (by rw [hu]; exact uns_ne hfu) ?_
        refine lv_bipush (v := 10) hx hb zd_Pr_number_23 (by decide) ?_
        refine lv_irem hx hb zd_Pr_number_25 (by decide) ?_
        refine lv_iadd hx hb zd_Pr_number_26 ?_
        refine z_callv (wc := [(oP, .inr (4, [.int wd, .int (nI nn), .int kk]))]) (wr := []) [0] [] hP hD hS hA rfl rfl (by decide) (by decide) (by decide) (fun hPc hDc hFc => va_runV (As := [.int (48 + ((p0 / u) - (p0 / u) / 10 * 10))]) (rest := []) ⟨hx, hb, hml, hown, hts⟩ (k_Pr_sign l hst dC dI cI cZ cJ cQ H.size oP wd nn kk (48 + ((p0 / u) - (p0 / u) / 10 * 10))) (cwV 1 hts (zgV zw_704 zw_706 zs_Pr_sign zw_6 zw_707) rfl rfl rfl (by decide +kernel) ⟨(Nat.le_of_ble_eq_true rfl), (Nat.le_of_ble_eq_true rfl)⟩) ⟨zPc.blind, va_recv hK hPc (ci := 4) (q0 := 0) rfl rfl, zPc.mk hPc hK hDc hZ hS hFc _⟩ rfl rfl hl.1 rfl (lv_room (Nat.le_of_ble_eq_true rfl)) zd_Pr_number_27 ⟨(Nat.le_of_ble_eq_true rfl), (Nat.le_of_ble_eq_true rfl)⟩) (fun u H locs hw hP hD hS => ?_)
        obtain ⟨n9_6, c9_6⟩ := u
        try dsimp only at hw hP hD
        have hP : va_P (dC, dI) zCl [(oP, .inr (4, [.int wd, .int (nI n9_6), .int c9_6]))] H := hP
        have hD : va_D A [(oP, .inr (4, [.int wd, .int (nI n9_6), .int c9_6]))] := hD
        have hv_6 := hw
        refine lv_iload_n hx hb zd_Pr_number_30 rfl (lv_at hl 2 rfl) ?_
        refine lv_bipush (v := 10) hx hb zd_Pr_number_31 (by decide) ?_
        refine lv_idiv hx hb zd_Pr_number_33 (by decide) ?_
        refine lv_istore_n (lv' := [(2, .int (u / 10)), (0, .ref oP), (1, .int p0)]) hx hb zd_Pr_number_34 rfl hl (by decide) rfl (fun ls hl => ?_)
        refine lv_goto (tgt := 3) hx hb zd_Pr_number_35 (by decide) ?_
        exact ih_3 (u / 10, n9_6, c9_6) _ _ _ ⟨⟨(by first | omega | (dsimp only; omega)), (by rw [hu]; exact uns_div hfu), (by rw [hv_6]; subst hu; rw [num_s (Or.inr c_5)] at hrem; exact hrem)⟩, z_sub hP [0] rfl, hD.sub [0] (by decide) rfl, hS, lv_sub hl [1, 2, 0] rfl⟩
set_option maxHeartbeats 4000000 in
set_option maxRecDepth 100000 in
theorem k_O_printRows (l : Launch) (hst : l.stackTraces = false) (dC : Nat → ClassId) (dI : Nat → Nat → Nat) (cI cZ cJ cQ : ClassId) (sz : Nat) (o : Nat) (oR : Nat) (oC : Nat) (oV : Nat) (oS : Nat) (oP : Nat) (oU : Nat) (oK : Nat) (oM : Nat) (oL : Nat) (oW : Nat) (t : Nat) (vN : Nat) (vS : Nat) (vL : Nat) (n0 : Nat) (n1 : Nat) (n2 : Nat) (N0 : Nat → Int32) (N1 : Nat → Int32) (N2 : Nat → Int32) (L : Nat → Int32) (vl : List Nat) (a1 : Nat) (a2 : Nat) (a3 : Nat) (a4 : Nat) (a5 : Nat) (a6 : Nat) (a7 : Nat) (k : Nat) (f6 : Nat → Int32) (wd : Int32) (n : Nat) (ct : Int32) (p0 : Int32) (hvl : lstI vl L) (hlen : vl.length ≤ 120) (hvk : ∀ r, r ∈ vl → r < 120) : Met l zy_O_printRows zws_O_printRows ({ frames := 2, cells := 0, slots := 0, locals := 43 }) (zPc (dC, dI) zCl (zTy cI cZ cJ cQ) [(o, .inr (0, [.ref oR, .ref oC, .ref oV, .ref oS, .ref oP, .ref oU, .ref oK, .ref oM, .ref oL, .ref oW, .int (nI t)])), (oV, .inr (10, [.ref vN, .ref vS, .ref vL, .int (nI vl.length)])), (vN, .inl (cQ, 3, .inr (.inr (.inr (.inr (g3 n0 n1 n2)))))), (n0, .inl (cI, 120, .inl N0)), (n1, .inl (cI, 120, .inl N1)), (n2, .inl (cI, 120, .inl N2)), (vL, .inl (cI, 120, .inl L)), (oR, .inr (6, [.ref a1, .ref a2, .ref a3, .ref a4, .ref a5, .ref a6, .ref a7, .int (nI k)])), (a6, .inl (cZ, 120, .inl f6)), (oP, .inr (4, [.int wd, .int (nI n), .int ct]))] sz [.ref o, .int p0]) (zQv (dC, dI) zCl (fun (u : Nat × Int32) => ((u.1, u.2) = prT p0 (0, -1) (chT N0 N1 N2 f6 vl))) (fun (u : Nat × Int32) => [(o, .inr (0, [.ref oR, .ref oC, .ref oV, .ref oS, .ref oP, .ref oU, .ref oK, .ref oM, .ref oL, .ref oW, .int (nI t)])), (oV, .inr (10, [.ref vN, .ref vS, .ref vL, .int (nI vl.length)])), (vN, .inl (cQ, 3, .inr (.inr (.inr (.inr (g3 n0 n1 n2)))))), (n0, .inl (cI, 120, .inl N0)), (n1, .inl (cI, 120, .inl N1)), (n2, .inl (cI, 120, .inl N2)), (vL, .inl (cI, 120, .inl L)), (oR, .inr (6, [.ref a1, .ref a2, .ref a3, .ref a4, .ref a5, .ref a6, .ref a7, .int (nI k)])), (a6, .inl (cZ, 120, .inl f6)), (oP, .inr (4, [.int p0, .int (nI u.1), .int u.2]))]) (va_A [(o, .inr (0, [.ref oR, .ref oC, .ref oV, .ref oS, .ref oP, .ref oU, .ref oK, .ref oM, .ref oL, .ref oW, .int (nI t)])), (oV, .inr (10, [.ref vN, .ref vS, .ref vL, .int (nI vl.length)])), (vN, .inl (cQ, 3, .inr (.inr (.inr (.inr (g3 n0 n1 n2)))))), (n0, .inl (cI, 120, .inl N0)), (n1, .inl (cI, 120, .inl N1)), (n2, .inl (cI, 120, .inl N2)), (vL, .inl (cI, 120, .inl L)), (oR, .inr (6, [.ref a1, .ref a2, .ref a3, .ref a4, .ref a5, .ref a6, .ref a7, .int (nI k)])), (a6, .inl (cZ, 120, .inl f6)), (oP, .inr (4, [.int wd, .int (nI n), .int ct]))] sz)) 0 0 (va_A [(o, .inr (0, [.ref oR, .ref oC, .ref oV, .ref oS, .ref oP, .ref oU, .ref oK, .ref oM, .ref oL, .ref oW, .int (nI t)])), (oV, .inr (10, [.ref vN, .ref vS, .ref vL, .int (nI vl.length)])), (vN, .inl (cQ, 3, .inr (.inr (.inr (.inr (g3 n0 n1 n2)))))), (n0, .inl (cI, 120, .inl N0)), (n1, .inl (cI, 120, .inl N1)), (n2, .inl (cI, 120, .inl N2)), (vL, .inl (cI, 120, .inl L)), (oR, .inr (6, [.ref a1, .ref a2, .ref a3, .ref a4, .ref a5, .ref a6, .ref a7, .int (nI k)])), (a6, .inl (cZ, 120, .inl f6)), (oP, .inr (4, [.int wd, .int (nI n), .int ct]))] sz) := by
  refine Met.ofW (cc := zc_O_printRows) (maxL := 4) (ret := none) (by decide) rfl ?_
  intro p e s m args below meth c s₁ B hml hv
  obtain ⟨rfl, hsz, hP, hK, hD0, hZ⟩ := hv
  have hx := B.exec
  have hb := B.bytes
  have hr := B.returns
  have hts := fun (w : Cond) (h : w ∈ zW) => atoms_spec (ws := zws_O_printRows) B.pre w (List.mem_cons_of_mem _ h)
  have hown : s.vm.findClass zR_O = some m.cls := findClass_of_methodNamed B.named
  have hlocks := B.notSynchronized
  subst hsz
  have hD := hD0.self (sz := s.heap.size)
  generalize hAe : va_A [(o, .inr (0, [.ref oR, .ref oC, .ref oV, .ref oS, .ref oP, .ref oU, .ref oK, .ref oM, .ref oL, .ref oW, .int (nI t)])), (oV, .inr (10, [.ref vN, .ref vS, .ref vL, .int (nI vl.length)])), (vN, .inl (cQ, 3, .inr (.inr (.inr (.inr (g3 n0 n1 n2)))))), (n0, .inl (cI, 120, .inl N0)), (n1, .inl (cI, 120, .inl N1)), (n2, .inl (cI, 120, .inl N2)), (vL, .inl (cI, 120, .inl L)), (oR, .inr (6, [.ref a1, .ref a2, .ref a3, .ref a4, .ref a5, .ref a6, .ref a7, .int (nI k)])), (a6, .inl (cZ, 120, .inl f6)), (oP, .inr (4, [.int wd, .int (nI n), .int ct]))] s.heap.size = A at hD hZ ⊢
  have hA : ∀ q : Nat, s.heap.size ≤ q → A q := fun q h => by rw [← hAe]; exact Or.inr h
  have hS : va_S A s.heap s.heap [] := va_S.rf
  have hl := lv_entry ([.ref o, .int p0]) (n := 4) (Nat.le_of_ble_eq_true rfl)
  rw [lg_entry_eq]
  generalize (lg_sl ([.ref o, .int p0]) ++ List.replicate (4 - (lg_sl ([.ref o, .int p0])).length) Slot.unset).toArray = ls at hl ⊢
  have hl : lv_has ls 4 [(0, .ref o), (1, .int p0)] := hl
  refine z_start hP hS (fun H locs hP hS => ?_)
  refine lv_aload_n hx hb zd_O_printRows_0 rfl (lv_at hl 0 rfl) ?_
  refine va_get (D := (dC, dI)) (ci := 0) (v := .ref oP) (C := zR_O) (T := zT_O) (N := 11) hx hb hts zin_O hown hK hP 0 rfl rfl 4 (by decide) (hts _ zw_273) (fun _ h9 => h9) rfl zd_O_printRows_1 ?_
  refine lv_iload_n hx hb zd_O_printRows_4 rfl (lv_at hl 1 rfl) ?_
  refine z_callv (wc := [(oP, .inr (4, [.int wd, .int (nI n), .int ct]))]) (wr := [(o, .inr (0, [.ref oR, .ref oC, .ref oV, .ref oS, .ref oP, .ref oU, .ref oK, .ref oM, .ref oL, .ref oW, .int (nI t)])), (oV, .inr (10, [.ref vN, .ref vS, .ref vL, .int (nI vl.length)])), (vN, .inl (cQ, 3, .inr (.inr (.inr (.inr (g3 n0 n1 n2)))))), (n0, .inl (cI, 120, .inl N0)), (n1, .inl (cI, 120, .inl N1)), (n2, .inl (cI, 120, .inl N2)), (vL, .inl (cI, 120, .inl L)), (oR, .inr (6, [.ref a1, .ref a2, .ref a3, .ref a4, .ref a5, .ref a6, .ref a7, .int (nI k)])), (a6, .inl (cZ, 120, .inl f6))]) [9] [0, 1, 2, 3, 4, 5, 6, 7, 8] hP hD hS hA rfl rfl (by decide) (by decide) (by decide) (fun hPc hDc hFc => va_runVN (As := [.int p0]) (rest := []) ⟨hx, hb, hml, hown, hts⟩ (k_Pr_start l hst dC dI cI cZ cJ cQ H.size oP wd n ct p0) ⟨va_cnB 1 hts (zgN zw_698) rfl rfl rfl (hZ.2.1 _ zz_695) (hts _ zw_6) (by decide +kernel) ⟨(Nat.le_of_ble_eq_true rfl), (Nat.le_of_ble_eq_true rfl)⟩, hts _ zw_697, hts _ zs_Pr_start⟩ ⟨zPc.blind, va_recv hK hPc (ci := 4) (q0 := 0) rfl rfl, zPc.mk hPc hK hDc hZ hS hFc _⟩ rfl rfl hl.1 rfl (lv_room (Nat.le_of_ble_eq_true rfl)) zd_O_printRows_5 ⟨(Nat.le_of_ble_eq_true rfl), (Nat.le_of_ble_eq_true rfl)⟩) (fun u H locs hw hP hD hS => ?_)
  have hP : va_P (dC, dI) zCl [(o, .inr (0, [.ref oR, .ref oC, .ref oV, .ref oS, .ref oP, .ref oU, .ref oK, .ref oM, .ref oL, .ref oW, .int (nI t)])), (oV, .inr (10, [.ref vN, .ref vS, .ref vL, .int (nI vl.length)])), (vN, .inl (cQ, 3, .inr (.inr (.inr (.inr (g3 n0 n1 n2)))))), (n0, .inl (cI, 120, .inl N0)), (n1, .inl (cI, 120, .inl N1)), (n2, .inl (cI, 120, .inl N2)), (vL, .inl (cI, 120, .inl L)), (oR, .inr (6, [.ref a1, .ref a2, .ref a3, .ref a4, .ref a5, .ref a6, .ref a7, .int (nI k)])), (a6, .inl (cZ, 120, .inl f6)), (oP, .inr (4, [.int p0, .int 0, .int (-1)]))] H := hP
  have hD : va_D A [(o, .inr (0, [.ref oR, .ref oC, .ref oV, .ref oS, .ref oP, .ref oU, .ref oK, .ref oM, .ref oL, .ref oW, .int (nI t)])), (oV, .inr (10, [.ref vN, .ref vS, .ref vL, .int (nI vl.length)])), (vN, .inl (cQ, 3, .inr (.inr (.inr (.inr (g3 n0 n1 n2)))))), (n0, .inl (cI, 120, .inl N0)), (n1, .inl (cI, 120, .inl N1)), (n2, .inl (cI, 120, .inl N2)), (vL, .inl (cI, 120, .inl L)), (oR, .inr (6, [.ref a1, .ref a2, .ref a3, .ref a4, .ref a5, .ref a6, .ref a7, .int (nI k)])), (a6, .inl (cZ, 120, .inl f6)), (oP, .inr (4, [.int p0, .int 0, .int (-1)]))] := hD
  refine lv_iconst (v := 0) hx hb zd_O_printRows_8 (by decide) ?_
  refine lv_istore_n (lv' := [(2, .int 0), (0, .ref o), (1, .int p0)]) hx hb zd_O_printRows_9 rfl hl (by decide) rfl (fun ls hl => ?_)
  refine z_loopN (σ := Nat × Nat × Int32) (fun (fu : Nat) (x9 : Nat × Nat × Int32) H locs ls => match x9 with | (i, nn, kk) => (i + fu = vl.length ∧ (prT p0 (nn, kk) (chT N0 N1 N2 f6 (vl.drop i)) = prT p0 (0, -1) (chT N0 N1 N2 f6 vl))) ∧ va_P (dC, dI) zCl [(o, .inr (0, [.ref oR, .ref oC, .ref oV, .ref oS, .ref oP, .ref oU, .ref oK, .ref oM, .ref oL, .ref oW, .int (nI t)])), (oV, .inr (10, [.ref vN, .ref vS, .ref vL, .int (nI vl.length)])), (vN, .inl (cQ, 3, .inr (.inr (.inr (.inr (g3 n0 n1 n2)))))), (n0, .inl (cI, 120, .inl N0)), (n1, .inl (cI, 120, .inl N1)), (n2, .inl (cI, 120, .inl N2)), (vL, .inl (cI, 120, .inl L)), (oR, .inr (6, [.ref a1, .ref a2, .ref a3, .ref a4, .ref a5, .ref a6, .ref a7, .int (nI k)])), (a6, .inl (cZ, 120, .inl f6)), (oP, .inr (4, [.int p0, .int (nI nn), .int kk]))] H ∧ va_D A [(o, .inr (0, [.ref oR, .ref oC, .ref oV, .ref oS, .ref oP, .ref oU, .ref oK, .ref oM, .ref oL, .ref oW, .int (nI t)])), (oV, .inr (10, [.ref vN, .ref vS, .ref vL, .int (nI vl.length)])), (vN, .inl (cQ, 3, .inr (.inr (.inr (.inr (g3 n0 n1 n2)))))), (n0, .inl (cI, 120, .inl N0)), (n1, .inl (cI, 120, .inl N1)), (n2, .inl (cI, 120, .inl N2)), (vL, .inl (cI, 120, .inl L)), (oR, .inr (6, [.ref a1, .ref a2, .ref a3, .ref a4, .ref a5, .ref a6, .ref a7, .int (nI k)])), (a6, .inl (cZ, 120, .inl f6)), (oP, .inr (4, [.int p0, .int (nI nn), .int kk]))] ∧ va_S A s.heap H locs ∧ lv_has ls 4 [(0, .ref o), (1, .int p0), (2, .int (nI i))]) (fun x9 H locs ls hI => ?_) (fun fu x9 H locs ls ih_10 hI => ?_) vl.length (0, 0, -1) ⟨⟨(by first | omega | (dsimp only; omega)), rfl⟩, z_sub hP [0, 1, 2, 3, 4, 5, 6, 7, 8, 9] rfl, hD.sub [0, 1, 2, 3, 4, 5, 6, 7, 8, 9] (by decide) rfl, hS, lv_sub hl [1, 2, 0] rfl⟩
  · obtain ⟨i, nn, kk⟩ := x9
    dsimp only at hI
    obtain ⟨⟨hfu, hrem⟩, hP, hD, hS, hl⟩ := hI
    refine lv_iload_n hx hb zd_O_printRows_10 rfl (lv_at hl 2 rfl) ?_
    refine lv_aload_n hx hb zd_O_printRows_11 rfl (lv_at hl 0 rfl) ?_
    refine va_get (D := (dC, dI)) (ci := 0) (v := .ref oV) (C := zR_O) (T := zT_O) (N := 11) hx hb hts zin_O hown hK hP 0 rfl rfl 2 (by decide) (hts _ zw_271) (fun _ h9 => h9) rfl zd_O_printRows_12 ?_
    refine va_getN (D := (dC, dI)) (ci := 10) (v := .int (nI vl.length)) (C := zR_Vi) (T := zT_Vi) (N := 4) hx hb hts zin_Vi hown hK hP 1 rfl rfl 3 (by decide) (hZ.nw zz_116) (fun _ h9 => h9) rfl zd_O_printRows_15 ?_
    refine lv_icmp_ge (tgt := 139) hx hb zd_O_printRows_18 (by decide) (fun _ => ?_) (fun c_2 => absurd (nI_le (by omega) (by omega)) c_2)
    exact z_vret (S := Nat × Int32) (w1 := fun (u : Nat × Int32) => [(o, .inr (0, [.ref oR, .ref oC, .ref oV, .ref oS, .ref oP, .ref oU, .ref oK, .ref oM, .ref oL, .ref oW, .int (nI t)])), (oV, .inr (10, [.ref vN, .ref vS, .ref vL, .int (nI vl.length)])), (vN, .inl (cQ, 3, .inr (.inr (.inr (.inr (g3 n0 n1 n2)))))), (n0, .inl (cI, 120, .inl N0)), (n1, .inl (cI, 120, .inl N1)), (n2, .inl (cI, 120, .inl N2)), (vL, .inl (cI, 120, .inl L)), (oR, .inr (6, [.ref a1, .ref a2, .ref a3, .ref a4, .ref a5, .ref a6, .ref a7, .int (nI k)])), (a6, .inl (cZ, 120, .inl f6)), (oP, .inr (4, [.int p0, .int (nI u.1), .int u.2]))]) (nn, kk) hx hb hr hlocks (by rw [← hrem, z_dropE (by omega)]; rfl) hP hD hS (Nat.le_of_ble_eq_true rfl) (Nat.le_of_ble_eq_true rfl) zd_O_printRows_139
  · obtain ⟨i, nn, kk⟩ := x9
    dsimp only at hI
    obtain ⟨⟨hfu, hrem⟩, hP, hD, hS, hl⟩ := hI
    dsimp only at ih_10
    refine lv_iload_n hx hb zd_O_printRows_10 rfl (lv_at hl 2 rfl) ?_
    refine lv_aload_n hx hb zd_O_printRows_11 rfl (lv_at hl 0 rfl) ?_
    refine va_get (D := (dC, dI)) (ci := 0) (v := .ref oV) (C := zR_O) (T := zT_O) (N := 11) hx hb hts zin_O hown hK hP 0 rfl rfl 2 (by decide) (hts _ zw_271) (fun _ h9 => h9) rfl zd_O_printRows_12 ?_
    refine va_getN (D := (dC, dI)) (ci := 10) (v := .int (nI vl.length)) (C := zR_Vi) (T := zT_Vi) (N := 4) hx hb hts zin_Vi hown hK hP 1 rfl rfl 3 (by decide) (hZ.nw zz_116) (fun _ h9 => h9) rfl zd_O_printRows_15 ?_
    refine lv_icmp_ge (tgt := 139) hx hb zd_O_printRows_18 (by decide) (fun c_3 => absurd c_3 (nI_ge (by omega) (by omega))) (fun _ => ?_)
    refine lv_aload_n hx hb zd_O_printRows_21 rfl (lv_at hl 0 rfl) ?_
    refine va_get (D := (dC, dI)) (ci := 0) (v := .ref oV) (C := zR_O) (T := zT_O) (N := 11) hx hb hts zin_O hown hK hP 0 rfl rfl 2 (by decide) (hts _ zw_271) (fun _ h9 => h9) rfl zd_O_printRows_22 ?_
    refine va_getN (D := (dC, dI)) (ci := 10) (v := .ref vL) (C := zR_Vi) (T := zT_Vi) (N := 4) hx hb hts zin_Vi hown hK hP 1 rfl rfl 2 (by decide) (hZ.nw zz_114) (fun _ h9 => h9) rfl zd_O_printRows_25 ?_
    refine lv_iload_n hx hb zd_O_printRows_28 rfl (lv_at hl 2 rfl) ?_
    refine va_iald hx hb hK hP 6 0 rfl rfl (vp_in_nI (show i < 120 from by omega) (by decide)) zd_O_printRows_29 ?_
    rw [show (nI i).toNatClampNeg = i from nI_clamp (by omega)]
    obtain ⟨r, hr9⟩ := z_some (l := vl) (i := i) (by omega)
    have hrk := hvk r (List.mem_of_getElem? hr9)
    rw [hvl i r hr9]
    rw [z_drop hr9] at hrem
    refine lv_istore_n (lv' := [(3, .int (nI r)), (0, .ref o), (1, .int p0), (2, .int (nI i))]) hx hb zd_O_printRows_30 rfl hl (by decide) rfl (fun ls hl => ?_)
    refine lv_aload_n hx hb zd_O_printRows_31 rfl (lv_at hl 1 rfl) ?_
    refine va_get (D := (dC, dI)) (ci := 0) (v := .ref oP) (C := zR_O) (T := zT_O) (N := 11) hx hb hts zin_O hown hK hP 0 rfl rfl 4 (by decide) (hts _ zw_273) (fun _ h9 => h9) rfl zd_O_printRows_32 ?_
    refine lv_aload_n hx hb zd_O_printRows_35 rfl (lv_at hl 1 rfl) ?_
    refine va_get (D := (dC, dI)) (ci := 0) (v := .ref oV) (C := zR_O) (T := zT_O) (N := 11) hx hb hts zin_O hown hK hP 0 rfl rfl 2 (by decide) (hts _ zw_271) (fun _ h9 => h9) rfl zd_O_printRows_36 ?_
    refine va_getN (D := (dC, dI)) (ci := 10) (v := .ref vN) (C := zR_Vi) (T := zT_Vi) (N := 4) hx hb hts zin_Vi hown hK hP 1 rfl rfl 0 (by decide) (hZ.nw zz_111) (fun _ h9 => h9) rfl zd_O_printRows_39 ?_
    refine lv_iconst (v := 0) hx hb zd_O_printRows_42 (by decide) ?_
    refine z_aald (y := n0) hx hb hK hP 2 3 rfl rfl (z_inC rfl) rfl zd_O_printRows_43 ?_
    refine lv_iload_n hx hb zd_O_printRows_44 rfl (lv_at hl 0 rfl) ?_
    refine va_iald hx hb hK hP 3 0 rfl rfl (vp_in_nI (show r < 120 from by omega) (by decide)) zd_O_printRows_45 ?_
    rw [show (nI r).toNatClampNeg = r from nI_clamp (by omega)]
    refine z_callv (wc := [(oP, .inr (4, [.int p0, .int (nI nn), .int kk]))]) (wr := [(o, .inr (0, [.ref oR, .ref oC, .ref oV, .ref oS, .ref oP, .ref oU, .ref oK, .ref oM, .ref oL, .ref oW, .int (nI t)])), (oV, .inr (10, [.ref vN, .ref vS, .ref vL, .int (nI vl.length)])), (vN, .inl (cQ, 3, .inr (.inr (.inr (.inr (g3 n0 n1 n2)))))), (n0, .inl (cI, 120, .inl N0)), (n1, .inl (cI, 120, .inl N1)), (n2, .inl (cI, 120, .inl N2)), (vL, .inl (cI, 120, .inl L)), (oR, .inr (6, [.ref a1, .ref a2, .ref a3, .ref a4, .ref a5, .ref a6, .ref a7, .int (nI k)])), (a6, .inl (cZ, 120, .inl f6))]) [9] [0, 1, 2, 3, 4, 5, 6, 7, 8] hP hD hS hA rfl rfl (by decide) (by decide) (by decide) (fun hPc hDc hFc => va_runVN (As := [.int (N0 r)]) (rest := []) ⟨hx, hb, hml, hown, hts⟩ (k_Pr_number l hst dC dI cI cZ cJ cQ H.size oP p0 nn kk (N0 r)) ⟨va_cnB 1 hts (zgN zw_702) rfl rfl rfl (hZ.2.1 _ zz_699) (hts _ zw_6) (by decide +kernel) ⟨(Nat.le_of_ble_eq_true rfl), (Nat.le_of_ble_eq_true rfl)⟩, hts _ zw_701, hts _ zs_Pr_number⟩ ⟨zPc.blind, va_recv hK hPc (ci := 4) (q0 := 0) rfl rfl, zPc.mk hPc hK hDc hZ hS hFc _⟩ rfl rfl hl.1 rfl (lv_room (Nat.le_of_ble_eq_true rfl)) zd_O_printRows_46 ⟨(Nat.le_of_ble_eq_true rfl), (Nat.le_of_ble_eq_true rfl)⟩) (fun u H locs hw hP hD hS => ?_)
    obtain ⟨n9_4, c9_4⟩ := u
    try dsimp only at hw hP hD
    have hP : va_P (dC, dI) zCl [(o, .inr (0, [.ref oR, .ref oC, .ref oV, .ref oS, .ref oP, .ref oU, .ref oK, .ref oM, .ref oL, .ref oW, .int (nI t)])), (oV, .inr (10, [.ref vN, .ref vS, .ref vL, .int (nI vl.length)])), (vN, .inl (cQ, 3, .inr (.inr (.inr (.inr (g3 n0 n1 n2)))))), (n0, .inl (cI, 120, .inl N0)), (n1, .inl (cI, 120, .inl N1)), (n2, .inl (cI, 120, .inl N2)), (vL, .inl (cI, 120, .inl L)), (oR, .inr (6, [.ref a1, .ref a2, .ref a3, .ref a4, .ref a5, .ref a6, .ref a7, .int (nI k)])), (a6, .inl (cZ, 120, .inl f6)), (oP, .inr (4, [.int p0, .int (nI n9_4), .int c9_4]))] H := hP
    have hD : va_D A [(o, .inr (0, [.ref oR, .ref oC, .ref oV, .ref oS, .ref oP, .ref oU, .ref oK, .ref oM, .ref oL, .ref oW, .int (nI t)])), (oV, .inr (10, [.ref vN, .ref vS, .ref vL, .int (nI vl.length)])), (vN, .inl (cQ, 3, .inr (.inr (.inr (.inr (g3 n0 n1 n2)))))), (n0, .inl (cI, 120, .inl N0)), (n1, .inl (cI, 120, .inl N1)), (n2, .inl (cI, 120, .inl N2)), (vL, .inl (cI, 120, .inl L)), (oR, .inr (6, [.ref a1, .ref a2, .ref a3, .ref a4, .ref a5, .ref a6, .ref a7, .int (nI k)])), (a6, .inl (cZ, 120, .inl f6)), (oP, .inr (4, [.int p0, .int (nI n9_4), .int c9_4]))] := hD
    have hv_4 := hw
    refine lv_aload_n hx hb zd_O_printRows_49 rfl (lv_at hl 1 rfl) ?_
    refine va_get (D := (dC, dI)) (ci := 0) (v := .ref oP) (C := zR_O) (T := zT_O) (N := 11) hx hb hts zin_O hown hK hP 0 rfl rfl 4 (by decide) (hts _ zw_273) (fun _ h9 => h9) rfl zd_O_printRows_50 ?_
    refine lv_bipush (v := 64) hx hb zd_O_printRows_53 (by decide) ?_
    refine z_callv (wc := [(oP, .inr (4, [.int p0, .int (nI n9_4), .int c9_4]))]) (wr := [(o, .inr (0, [.ref oR, .ref oC, .ref oV, .ref oS, .ref oP, .ref oU, .ref oK, .ref oM, .ref oL, .ref oW, .int (nI t)])), (oV, .inr (10, [.ref vN, .ref vS, .ref vL, .int (nI vl.length)])), (vN, .inl (cQ, 3, .inr (.inr (.inr (.inr (g3 n0 n1 n2)))))), (n0, .inl (cI, 120, .inl N0)), (n1, .inl (cI, 120, .inl N1)), (n2, .inl (cI, 120, .inl N2)), (vL, .inl (cI, 120, .inl L)), (oR, .inr (6, [.ref a1, .ref a2, .ref a3, .ref a4, .ref a5, .ref a6, .ref a7, .int (nI k)])), (a6, .inl (cZ, 120, .inl f6))]) [9] [0, 1, 2, 3, 4, 5, 6, 7, 8] hP hD hS hA rfl rfl (by decide) (by decide) (by decide) (fun hPc hDc hFc => va_runVN (As := [.int 64]) (rest := []) ⟨hx, hb, hml, hown, hts⟩ (k_Pr_sign l hst dC dI cI cZ cJ cQ H.size oP p0 n9_4 c9_4 64) ⟨va_cnB 1 hts (zgN zw_707) rfl rfl rfl (hZ.2.1 _ zz_708) (hts _ zw_6) (by decide +kernel) ⟨(Nat.le_of_ble_eq_true rfl), (Nat.le_of_ble_eq_true rfl)⟩, hts _ zw_706, hts _ zs_Pr_sign⟩ ⟨zPc.blind, va_recv hK hPc (ci := 4) (q0 := 0) rfl rfl, zPc.mk hPc hK hDc hZ hS hFc _⟩ rfl rfl hl.1 rfl (lv_room (Nat.le_of_ble_eq_true rfl)) zd_O_printRows_55 ⟨(Nat.le_of_ble_eq_true rfl), (Nat.le_of_ble_eq_true rfl)⟩) (fun u H locs hw hP hD hS => ?_)
    obtain ⟨n9_5, c9_5⟩ := u
    try dsimp only at hw hP hD
    have hP : va_P (dC, dI) zCl [(o, .inr (0, [.ref oR, .ref oC, .ref oV, .ref oS, .ref oP, .ref oU, .ref oK, .ref oM, .ref oL, .ref oW, .int (nI t)])), (oV, .inr (10, [.ref vN, .ref vS, .ref vL, .int (nI vl.length)])), (vN, .inl (cQ, 3, .inr (.inr (.inr (.inr (g3 n0 n1 n2)))))), (n0, .inl (cI, 120, .inl N0)), (n1, .inl (cI, 120, .inl N1)), (n2, .inl (cI, 120, .inl N2)), (vL, .inl (cI, 120, .inl L)), (oR, .inr (6, [.ref a1, .ref a2, .ref a3, .ref a4, .ref a5, .ref a6, .ref a7, .int (nI k)])), (a6, .inl (cZ, 120, .inl f6)), (oP, .inr (4, [.int p0, .int (nI n9_5), .int c9_5]))] H := hP
    have hD : va_D A [(o, .inr (0, [.ref oR, .ref oC, .ref oV, .ref oS, .ref oP, .ref oU, .ref oK, .ref oM, .ref oL, .ref oW, .int (nI t)])), (oV, .inr (10, [.ref vN, .ref vS, .ref vL, .int (nI vl.length)])), (vN, .inl (cQ, 3, .inr (.inr (.inr (.inr (g3 n0 n1 n2)))))), (n0, .inl (cI, 120, .inl N0)), (n1, .inl (cI, 120, .inl N1)), (n2, .inl (cI, 120, .inl N2)), (vL, .inl (cI, 120, .inl L)), (oR, .inr (6, [.ref a1, .ref a2, .ref a3, .ref a4, .ref a5, .ref a6, .ref a7, .int (nI k)])), (a6, .inl (cZ, 120, .inl f6)), (oP, .inr (4, [.int p0, .int (nI n9_5), .int c9_5]))] := hD
    have hv_5 := hw
    refine lv_aload_n hx hb zd_O_printRows_58 rfl (lv_at hl 1 rfl) ?_
    refine va_get (D := (dC, dI)) (ci := 0) (v := .ref oP) (C := zR_O) (T := zT_O) (N := 11) hx hb hts zin_O hown hK hP 0 rfl rfl 4 (by decide) (hts _ zw_273) (fun _ h9 => h9) rfl zd_O_printRows_59 ?_
    refine lv_aload_n hx hb zd_O_printRows_62 rfl (lv_at hl 1 rfl) ?_
    refine va_get (D := (dC, dI)) (ci := 0) (v := .ref oV) (C := zR_O) (T := zT_O) (N := 11) hx hb hts zin_O hown hK hP 0 rfl rfl 2 (by decide) (hts _ zw_271) (fun _ h9 => h9) rfl zd_O_printRows_63 ?_
    refine va_getN (D := (dC, dI)) (ci := 10) (v := .ref vN) (C := zR_Vi) (T := zT_Vi) (N := 4) hx hb hts zin_Vi hown hK hP 1 rfl rfl 0 (by decide) (hZ.nw zz_111) (fun _ h9 => h9) rfl zd_O_printRows_66 ?_
    refine lv_iconst (v := 1) hx hb zd_O_printRows_69 (by decide) ?_
    refine z_aald (y := n1) hx hb hK hP 2 3 rfl rfl (z_inC rfl) rfl zd_O_printRows_70 ?_
    refine lv_iload_n hx hb zd_O_printRows_71 rfl (lv_at hl 0 rfl) ?_
    refine va_iald hx hb hK hP 4 0 rfl rfl (vp_in_nI (show r < 120 from by omega) (by decide)) zd_O_printRows_72 ?_
    rw [show (nI r).toNatClampNeg = r from nI_clamp (by omega)]
    refine z_callv (wc := [(oP, .inr (4, [.int p0, .int (nI n9_5), .int c9_5]))]) (wr := [(o, .inr (0, [.ref oR, .ref oC, .ref oV, .ref oS, .ref oP, .ref oU, .ref oK, .ref oM, .ref oL, .ref oW, .int (nI t)])), (oV, .inr (10, [.ref vN, .ref vS, .ref vL, .int (nI vl.length)])), (vN, .inl (cQ, 3, .inr (.inr (.inr (.inr (g3 n0 n1 n2)))))), (n0, .inl (cI, 120, .inl N0)), (n1, .inl (cI, 120, .inl N1)), (n2, .inl (cI, 120, .inl N2)), (vL, .inl (cI, 120, .inl L)), (oR, .inr (6, [.ref a1, .ref a2, .ref a3, .ref a4, .ref a5, .ref a6, .ref a7, .int (nI k)])), (a6, .inl (cZ, 120, .inl f6))]) [9] [0, 1, 2, 3, 4, 5, 6, 7, 8] hP hD hS hA rfl rfl (by decide) (by decide) (by decide) (fun hPc hDc hFc => va_runVN (As := [.int (N1 r)]) (rest := []) ⟨hx, hb, hml, hown, hts⟩ (k_Pr_number l hst dC dI cI cZ cJ cQ H.size oP p0 n9_5 c9_5 (N1 r)) ⟨va_cnB 1 hts (zgN zw_702) rfl rfl rfl (hZ.2.1 _ zz_699) (hts _ zw_6) (by decide +kernel) ⟨(Nat.le_of_ble_eq_true rfl), (Nat.le_of_ble_eq_true rfl)⟩, hts _ zw_701, hts _ zs_Pr_number⟩ ⟨zPc.blind, va_recv hK hPc (ci := 4) (q0 := 0) rfl rfl, zPc.mk hPc hK hDc hZ hS hFc _⟩ rfl rfl hl.1 rfl (lv_room (Nat.le_of_ble_eq_true rfl)) zd_O_printRows_73 ⟨(Nat.le_of_ble_eq_true rfl), (Nat.le_of_ble_eq_true rfl)⟩) (fun u H locs hw hP hD hS => ?_)
    obtain ⟨n9_6, c9_6⟩ := u
    try dsimp only at hw hP hD
    have hP : va_P (dC, dI) zCl [(o, .inr (0, [.ref oR, .ref oC, .ref oV, .ref oS, .ref oP, .ref oU, .ref oK, .ref oM, .ref oL, .ref oW, .int (nI t)])), (oV, .inr (10, [.ref vN, .ref vS, .ref vL, .int (nI vl.length)])), (vN, .inl (cQ, 3, .inr (.inr (.inr (.inr (g3 n0 n1 n2)))))), (n0, .inl (cI, 120, .inl N0)), (n1, .inl (cI, 120, .inl N1)), (n2, .inl (cI, 120, .inl N2)), (vL, .inl (cI, 120, .inl L)), (oR, .inr (6, [.ref a1, .ref a2, .ref a3, .ref a4, .ref a5, .ref a6, .ref a7, .int (nI k)])), (a6, .inl (cZ, 120, .inl f6)), (oP, .inr (4, [.int p0, .int (nI n9_6), .int c9_6]))] H := hP
    have hD : va_D A [(o, .inr (0, [.ref oR, .ref oC, .ref oV, .ref oS, .ref oP, .ref oU, .ref oK, .ref oM, .ref oL, .ref oW, .int (nI t)])), (oV, .inr (10, [.ref vN, .ref vS, .ref vL, .int (nI vl.length)])), (vN, .inl (cQ, 3, .inr (.inr (.inr (.inr (g3 n0 n1 n2)))))), (n0, .inl (cI, 120, .inl N0)), (n1, .inl (cI, 120, .inl N1)), (n2, .inl (cI, 120, .inl N2)), (vL, .inl (cI, 120, .inl L)), (oR, .inr (6, [.ref a1, .ref a2, .ref a3, .ref a4, .ref a5, .ref a6, .ref a7, .int (nI k)])), (a6, .inl (cZ, 120, .inl f6)), (oP, .inr (4, [.int p0, .int (nI n9_6), .int c9_6]))] := hD
    have hv_6 := hw
    refine lv_aload_n hx hb zd_O_printRows_76 rfl (lv_at hl 1 rfl) ?_
    refine va_get (D := (dC, dI)) (ci := 0) (v := .ref oP) (C := zR_O) (T := zT_O) (N := 11) hx hb hts zin_O hown hK hP 0 rfl rfl 4 (by decide) (hts _ zw_273) (fun _ h9 => h9) rfl zd_O_printRows_77 ?_
    refine lv_bipush (v := 45) hx hb zd_O_printRows_80 (by decide) ?_
    refine z_callv (wc := [(oP, .inr (4, [.int p0, .int (nI n9_6), .int c9_6]))]) (wr := [(o, .inr (0, [.ref oR, .ref oC, .ref oV, .ref oS, .ref oP, .ref oU, .ref oK, .ref oM, .ref oL, .ref oW, .int (nI t)])), (oV, .inr (10, [.ref vN, .ref vS, .ref vL, .int (nI vl.length)])), (vN, .inl (cQ, 3, .inr (.inr (.inr (.inr (g3 n0 n1 n2)))))), (n0, .inl (cI, 120, .inl N0)), (n1, .inl (cI, 120, .inl N1)), (n2, .inl (cI, 120, .inl N2)), (vL, .inl (cI, 120, .inl L)), (oR, .inr (6, [.ref a1, .ref a2, .ref a3, .ref a4, .ref a5, .ref a6, .ref a7, .int (nI k)])), (a6, .inl (cZ, 120, .inl f6))]) [9] [0, 1, 2, 3, 4, 5, 6, 7, 8] hP hD hS hA rfl rfl (by decide) (by decide) (by decide) (fun hPc hDc hFc => va_runVN (As := [.int 45]) (rest := []) ⟨hx, hb, hml, hown, hts⟩ (k_Pr_sign l hst dC dI cI cZ cJ cQ H.size oP p0 n9_6 c9_6 45) ⟨va_cnB 1 hts (zgN zw_707) rfl rfl rfl (hZ.2.1 _ zz_708) (hts _ zw_6) (by decide +kernel) ⟨(Nat.le_of_ble_eq_true rfl), (Nat.le_of_ble_eq_true rfl)⟩, hts _ zw_706, hts _ zs_Pr_sign⟩ ⟨zPc.blind, va_recv hK hPc (ci := 4) (q0 := 0) rfl rfl, zPc.mk hPc hK hDc hZ hS hFc _⟩ rfl rfl hl.1 rfl (lv_room (Nat.le_of_ble_eq_true rfl)) zd_O_printRows_82 ⟨(Nat.le_of_ble_eq_true rfl), (Nat.le_of_ble_eq_true rfl)⟩) (fun u H locs hw hP hD hS => ?_)
    obtain ⟨n9_7, c9_7⟩ := u
    try dsimp only at hw hP hD
    have hP : va_P (dC, dI) zCl [(o, .inr (0, [.ref oR, .ref oC, .ref oV, .ref oS, .ref oP, .ref oU, .ref oK, .ref oM, .ref oL, .ref oW, .int (nI t)])), (oV, .inr (10, [.ref vN, .ref vS, .ref vL, .int (nI vl.length)])), (vN, .inl (cQ, 3, .inr (.inr (.inr (.inr (g3 n0 n1 n2)))))), (n0, .inl (cI, 120, .inl N0)), (n1, .inl (cI, 120, .inl N1)), (n2, .inl (cI, 120, .inl N2)), (vL, .inl (cI, 120, .inl L)), (oR, .inr (6, [.ref a1, .ref a2, .ref a3, .ref a4, .ref a5, .ref a6, .ref a7, .int (nI k)])), (a6, .inl (cZ, 120, .inl f6)), (oP, .inr (4, [.int p0, .int (nI n9_7), .int c9_7]))] H := hP
    have hD : va_D A [(o, .inr (0, [.ref oR, .ref oC, .ref oV, .ref oS, .ref oP, .ref oU, .ref oK, .ref oM, .ref oL, .ref oW, .int (nI t)])), (oV, .inr (10, [.ref vN, .ref vS, .ref vL, .int (nI vl.length)])), (vN, .inl (cQ, 3, .inr (.inr (.inr (.inr (g3 n0 n1 n2)))))), (n0, .inl (cI, 120, .inl N0)), (n1, .inl (cI, 120, .inl N1)), (n2, .inl (cI, 120, .inl N2)), (vL, .inl (cI, 120, .inl L)), (oR, .inr (6, [.ref a1, .ref a2, .ref a3, .ref a4, .ref a5, .ref a6, .ref a7, .int (nI k)])), (a6, .inl (cZ, 120, .inl f6)), (oP, .inr (4, [.int p0, .int (nI n9_7), .int c9_7]))] := hD
    have hv_7 := hw
    refine lv_aload_n hx hb zd_O_printRows_85 rfl (lv_at hl 1 rfl) ?_
    refine va_get (D := (dC, dI)) (ci := 0) (v := .ref oP) (C := zR_O) (T := zT_O) (N := 11) hx hb hts zin_O hown hK hP 0 rfl rfl 4 (by decide) (hts _ zw_273) (fun _ h9 => h9) rfl zd_O_printRows_86 ?_
    refine lv_aload_n hx hb zd_O_printRows_89 rfl (lv_at hl 1 rfl) ?_
    refine va_get (D := (dC, dI)) (ci := 0) (v := .ref oV) (C := zR_O) (T := zT_O) (N := 11) hx hb hts zin_O hown hK hP 0 rfl rfl 2 (by decide) (hts _ zw_271) (fun _ h9 => h9) rfl zd_O_printRows_90 ?_
    refine va_getN (D := (dC, dI)) (ci := 10) (v := .ref vN) (C := zR_Vi) (T := zT_Vi) (N := 4) hx hb hts zin_Vi hown hK hP 1 rfl rfl 0 (by decide) (hZ.nw zz_111) (fun _ h9 => h9) rfl zd_O_printRows_93 ?_
    refine lv_iconst (v := 2) hx hb zd_O_printRows_96 (by decide) ?_
    refine z_aald (y := n2) hx hb hK hP 2 3 rfl rfl (z_inC rfl) rfl zd_O_printRows_97 ?_
    refine lv_iload_n hx hb zd_O_printRows_98 rfl (lv_at hl 0 rfl) ?_
    refine va_iald hx hb hK hP 5 0 rfl rfl (vp_in_nI (show r < 120 from by omega) (by decide)) zd_O_printRows_99 ?_
    rw [show (nI r).toNatClampNeg = r from nI_clamp (by omega)]
    refine z_callv (wc := [(oP, .inr (4, [.int p0, .int (nI n9_7), .int c9_7]))]) (wr := [(o, .inr (0, [.ref oR, .ref oC, .ref oV, .ref oS, .ref oP, .ref oU, .ref oK, .ref oM, .ref oL, .ref oW, .int (nI t)])), (oV, .inr (10, [.ref vN, .ref vS, .ref vL, .int (nI vl.length)])), (vN, .inl (cQ, 3, .inr (.inr (.inr (.inr (g3 n0 n1 n2)))))), (n0, .inl (cI, 120, .inl N0)), (n1, .inl (cI, 120, .inl N1)), (n2, .inl (cI, 120, .inl N2)), (vL, .inl (cI, 120, .inl L)), (oR, .inr (6, [.ref a1, .ref a2, .ref a3, .ref a4, .ref a5, .ref a6, .ref a7, .int (nI k)])), (a6, .inl (cZ, 120, .inl f6))]) [9] [0, 1, 2, 3, 4, 5, 6, 7, 8] hP hD hS hA rfl rfl (by decide) (by decide) (by decide) (fun hPc hDc hFc => va_runVN (As := [.int (N2 r)]) (rest := []) ⟨hx, hb, hml, hown, hts⟩ (k_Pr_number l hst dC dI cI cZ cJ cQ H.size oP p0 n9_7 c9_7 (N2 r)) ⟨va_cnB 1 hts (zgN zw_702) rfl rfl rfl (hZ.2.1 _ zz_699) (hts _ zw_6) (by decide +kernel) ⟨(Nat.le_of_ble_eq_true rfl), (Nat.le_of_ble_eq_true rfl)⟩, hts _ zw_701, hts _ zs_Pr_number⟩ ⟨zPc.blind, va_recv hK hPc (ci := 4) (q0 := 0) rfl rfl, zPc.mk hPc hK hDc hZ hS hFc _⟩ rfl rfl hl.1 rfl (lv_room (Nat.le_of_ble_eq_true rfl)) zd_O_printRows_100 ⟨(Nat.le_of_ble_eq_true rfl), (Nat.le_of_ble_eq_true rfl)⟩) (fun u H locs hw hP hD hS => ?_)
    obtain ⟨n9_8, c9_8⟩ := u
    try dsimp only at hw hP hD
    have hP : va_P (dC, dI) zCl [(o, .inr (0, [.ref oR, .ref oC, .ref oV, .ref oS, .ref oP, .ref oU, .ref oK, .ref oM, .ref oL, .ref oW, .int (nI t)])), (oV, .inr (10, [.ref vN, .ref vS, .ref vL, .int (nI vl.length)])), (vN, .inl (cQ, 3, .inr (.inr (.inr (.inr (g3 n0 n1 n2)))))), (n0, .inl (cI, 120, .inl N0)), (n1, .inl (cI, 120, .inl N1)), (n2, .inl (cI, 120, .inl N2)), (vL, .inl (cI, 120, .inl L)), (oR, .inr (6, [.ref a1, .ref a2, .ref a3, .ref a4, .ref a5, .ref a6, .ref a7, .int (nI k)])), (a6, .inl (cZ, 120, .inl f6)), (oP, .inr (4, [.int p0, .int (nI n9_8), .int c9_8]))] H := hP
    have hD : va_D A [(o, .inr (0, [.ref oR, .ref oC, .ref oV, .ref oS, .ref oP, .ref oU, .ref oK, .ref oM, .ref oL, .ref oW, .int (nI t)])), (oV, .inr (10, [.ref vN, .ref vS, .ref vL, .int (nI vl.length)])), (vN, .inl (cQ, 3, .inr (.inr (.inr (.inr (g3 n0 n1 n2)))))), (n0, .inl (cI, 120, .inl N0)), (n1, .inl (cI, 120, .inl N1)), (n2, .inl (cI, 120, .inl N2)), (vL, .inl (cI, 120, .inl L)), (oR, .inr (6, [.ref a1, .ref a2, .ref a3, .ref a4, .ref a5, .ref a6, .ref a7, .int (nI k)])), (a6, .inl (cZ, 120, .inl f6)), (oP, .inr (4, [.int p0, .int (nI n9_8), .int c9_8]))] := hD
    have hv_8 := hw
    refine lv_aload_n hx hb zd_O_printRows_103 rfl (lv_at hl 1 rfl) ?_
    refine va_get (D := (dC, dI)) (ci := 0) (v := .ref oR) (C := zR_O) (T := zT_O) (N := 11) hx hb hts zin_O hown hK hP 0 rfl rfl 0 (by decide) (hts _ zw_269) (fun _ h9 => h9) rfl zd_O_printRows_104 ?_
    refine va_getN (D := (dC, dI)) (ci := 6) (v := .ref a6) (C := zR_Ro) (T := zT_Ro) (N := 8) hx hb hts zin_Ro hown hK hP 7 rfl rfl 5 (by decide) (hZ.nw zz_50) (fun _ h9 => h9) rfl zd_O_printRows_107 ?_
    refine lv_iload_n hx hb zd_O_printRows_110 rfl (lv_at hl 0 rfl) ?_
    refine va_zald hx hb hK hP 8 1 rfl rfl (vp_in_nI (show r < 120 from by omega) (by decide)) zd_O_printRows_111 ?_
    rw [show (nI r).toNatClampNeg = r from nI_clamp (by omega)]
    refine lv_if_eq (tgt := 124) hx hb zd_O_printRows_112 (by decide) (fun c_9 => ?_) (fun c_9 => ?_)
    · refine lv_aload_n hx hb zd_O_printRows_124 rfl (lv_at hl 1 rfl) ?_
      refine va_get (D := (dC, dI)) (ci := 0) (v := .ref oP) (C := zR_O) (T := zT_O) (N := 11) hx hb hts zin_O hown hK hP 0 rfl rfl 4 (by decide) (hts _ zw_273) (fun _ h9 => h9) rfl zd_O_printRows_125 ?_
      refine lv_bipush (v := 59) hx hb zd_O_printRows_128 (by decide) ?_
      refine z_callv (wc := [(oP, .inr (4, [.int p0, .int (nI n9_8), .int c9_8]))]) (wr := [(o, .inr (0, [.ref oR, .ref oC, .ref oV, .ref oS, .ref oP, .ref oU, .ref oK, .ref oM, .ref oL, .ref oW, .int (nI t)])), (oV, .inr (10, [.ref vN, .ref vS, .ref vL, .int (nI vl.length)])), (vN, .inl (cQ, 3, .inr (.inr (.inr (.inr (g3 n0 n1 n2)))))), (n0, .inl (cI, 120, .inl N0)), (n1, .inl (cI, 120, .inl N1)), (n2, .inl (cI, 120, .inl N2)), (vL, .inl (cI, 120, .inl L)), (oR, .inr (6, [.ref a1, .ref a2, .ref a3, .ref a4, .ref a5, .ref a6, .ref a7, .int (nI k)])), (a6, .inl (cZ, 120, .inl f6))]) [9] [0, 1, 2, 3, 4, 5, 6, 7, 8] hP hD hS hA rfl rfl (by decide) (by decide) (by decide) (fun hPc hDc hFc => va_runVN (As := [.int 59]) (rest := []) ⟨hx, hb, hml, hown, hts⟩ (k_Pr_sign l hst dC dI cI cZ cJ cQ H.size oP p0 n9_8 c9_8 59) ⟨va_cnB 1 hts (zgN zw_707) rfl rfl rfl (hZ.2.1 _ zz_708) (hts _ zw_6) (by decide +kernel) ⟨(Nat.le_of_ble_eq_true rfl), (Nat.le_of_ble_eq_true rfl)⟩, hts _ zw_706, hts _ zs_Pr_sign⟩ ⟨zPc.blind, va_recv hK hPc (ci := 4) (q0 := 0) rfl rfl, zPc.mk hPc hK hDc hZ hS hFc _⟩ rfl rfl hl.1 rfl (lv_room (Nat.le_of_ble_eq_true rfl)) zd_O_printRows_130 ⟨(Nat.le_of_ble_eq_true rfl), (Nat.le_of_ble_eq_true rfl)⟩) (fun u H locs hw hP hD hS => ?_)
      obtain ⟨n9_10, c9_10⟩ := u
      try dsimp only at hw hP hD
      have hP : va_P (dC, dI) zCl [(o, .inr (0, [.ref oR, .ref oC, .ref oV, .ref oS, .ref oP, .ref oU, .ref oK, .ref oM, .ref oL, .ref oW, .int (nI t)])), (oV, .inr (10, [.ref vN, .ref vS, .ref vL, .int (nI vl.length)])), (vN, .inl (cQ, 3, .inr (.inr (.inr (.inr (g3 n0 n1 n2)))))), (n0, .inl (cI, 120, .inl N0)), (n1, .inl (cI, 120, .inl N1)), (n2, .inl (cI, 120, .inl N2)), (vL, .inl (cI, 120, .inl L)), (oR, .inr (6, [.ref a1, .ref a2, .ref a3, .ref a4, .ref a5, .ref a6, .ref a7, .int (nI k)])), (a6, .inl (cZ, 120, .inl f6)), (oP, .inr (4, [.int p0, .int (nI n9_10), .int c9_10]))] H := hP
      have hD : va_D A [(o, .inr (0, [.ref oR, .ref oC, .ref oV, .ref oS, .ref oP, .ref oU, .ref oK, .ref oM, .ref oL, .ref oW, .int (nI t)])), (oV, .inr (10, [.ref vN, .ref vS, .ref vL, .int (nI vl.length)])), (vN, .inl (cQ, 3, .inr (.inr (.inr (.inr (g3 n0 n1 n2)))))), (n0, .inl (cI, 120, .inl N0)), (n1, .inl (cI, 120, .inl N1)), (n2, .inl (cI, 120, .inl N2)), (vL, .inl (cI, 120, .inl L)), (oR, .inr (6, [.ref a1, .ref a2, .ref a3, .ref a4, .ref a5, .ref a6, .ref a7, .int (nI k)])), (a6, .inl (cZ, 120, .inl f6)), (oP, .inr (4, [.int p0, .int (nI n9_10), .int c9_10]))] := hD
      have hv_10 := hw
      refine lv_iinc (v := nI (i + 1)) (lv' := [(2, .int (nI (i + 1))), (3, .int (nI r)), (0, .ref o), (1, .int p0)]) hx hb zd_O_printRows_133 hl (k := 3) rfl (nI_1 i) (by decide) rfl (fun ls hl => ?_)
      refine lv_goto (tgt := 10) hx hb zd_O_printRows_136 (by decide) ?_
      exact ih_10 (i + 1, n9_10, c9_10) _ _ _ ⟨⟨(by first | omega | (dsimp only; omega)), ((row_q0 c_9 hv_4 hv_5 hv_6 hv_7 hv_8 hv_10).trans hrem)⟩, z_sub hP [0, 1, 2, 3, 4, 5, 6, 7, 8, 9] rfl, hD.sub [0, 1, 2, 3, 4, 5, 6, 7, 8, 9] (by decide) rfl, hS, lv_sub hl [2, 3, 0] rfl⟩
    · refine lv_aload_n hx hb zd_O_printRows_115 rfl (lv_at hl 1 rfl) ?_
      refine va_get (D := (dC, dI)) (ci := 0) (v := .ref oP) (C := zR_O) (T := zT_O) (N := 11) hx hb hts zin_O hown hK hP 0 rfl rfl 4 (by decide) (hts _ zw_273) (fun _ h9 => h9) rfl zd_O_printRows_116 ?_
      refine lv_bipush (v := 63) hx hb zd_O_printRows_119 (by decide) ?_
      refine z_callv (wc := [(oP, .inr (4, [.int p0, .int (nI n9_8), .int c9_8]))]) (wr := [(o, .inr (0, [.ref oR, .ref oC, .ref oV, .ref oS, .ref oP, .ref oU, .ref oK, .ref oM, .ref oL, .ref oW, .int (nI t)])), (oV, .inr (10, [.ref vN, .ref vS, .ref vL, .int (nI vl.length)])), (vN, .inl (cQ, 3, .inr (.inr (.inr (.inr (g3 n0 n1 n2)))))), (n0, .inl (cI, 120, .inl N0)), (n1, .inl (cI, 120, .inl N1)), (n2, .inl (cI, 120, .inl N2)), (vL, .inl (cI, 120, .inl L)), (oR, .inr (6, [.ref a1, .ref a2, .ref a3, .ref a4, .ref a5, .ref a6, .ref a7, .int (nI k)])), (a6, .inl (cZ, 120, .inl f6))]) [9] [0, 1, 2, 3, 4, 5, 6, 7, 8] hP hD hS hA rfl rfl (by decide) (by decide) (by decide) (fun hPc hDc hFc => va_runVN (As := [.int 63]) (rest := []) ⟨hx, hb, hml, hown, hts⟩ (k_Pr_sign l hst dC dI cI cZ cJ cQ H.size oP p0 n9_8 c9_8 63) ⟨va_cnB 1 hts (zgN zw_707) rfl rfl rfl (hZ.2.1 _ zz_708) (hts _ zw_6) (by decide +kernel) ⟨(Nat.le_of_ble_eq_true rfl), (Nat.le_of_ble_eq_true rfl)⟩, hts _ zw_706, hts _ zs_Pr_sign⟩ ⟨zPc.blind, va_recv hK hPc (ci := 4) (q0 := 0) rfl rfl, zPc.mk hPc hK hDc hZ hS hFc _⟩ rfl rfl hl.1 rfl (lv_room (Nat.le_of_ble_eq_true rfl)) zd_O_printRows_121 ⟨(Nat.le_of_ble_eq_true rfl), (Nat.le_of_ble_eq_true rfl)⟩) (fun u H locs hw hP hD hS => ?_)
      obtain ⟨n9_11, c9_11⟩ := u
      try dsimp only at hw hP hD
      have hP : va_P (dC, dI) zCl [(o, .inr (0, [.ref oR, .ref oC, .ref oV, .ref oS, .ref oP, .ref oU, .ref oK, .ref oM, .ref oL, .ref oW, .int (nI t)])), (oV, .inr (10, [.ref vN, .ref vS, .ref vL, .int (nI vl.length)])), (vN, .inl (cQ, 3, .inr (.inr (.inr (.inr (g3 n0 n1 n2)))))), (n0, .inl (cI, 120, .inl N0)), (n1, .inl (cI, 120, .inl N1)), (n2, .inl (cI, 120, .inl N2)), (vL, .inl (cI, 120, .inl L)), (oR, .inr (6, [.ref a1, .ref a2, .ref a3, .ref a4, .ref a5, .ref a6, .ref a7, .int (nI k)])), (a6, .inl (cZ, 120, .inl f6)), (oP, .inr (4, [.int p0, .int (nI n9_11), .int c9_11]))] H := hP
      have hD : va_D A [(o, .inr (0, [.ref oR, .ref oC, .ref oV, .ref oS, .ref oP, .ref oU, .ref oK, .ref oM, .ref oL, .ref oW, .int (nI t)])), (oV, .inr (10, [.ref vN, .ref vS, .ref vL, .int (nI vl.length)])), (vN, .inl (cQ, 3, .inr (.inr (.inr (.inr (g3 n0 n1 n2)))))), (n0, .inl (cI, 120, .inl N0)), (n1, .inl (cI, 120, .inl N1)), (n2, .inl (cI, 120, .inl N2)), (vL, .inl (cI, 120, .inl L)), (oR, .inr (6, [.ref a1, .ref a2, .ref a3, .ref a4, .ref a5, .ref a6, .ref a7, .int (nI k)])), (a6, .inl (cZ, 120, .inl f6)), (oP, .inr (4, [.int p0, .int (nI n9_11), .int c9_11]))] := hD
      have hv_11 := hw
      refine lv_aload_n hx hb zd_O_printRows_124 rfl (lv_at hl 1 rfl) ?_
      refine va_get (D := (dC, dI)) (ci := 0) (v := .ref oP) (C := zR_O) (T := zT_O) (N := 11) hx hb hts zin_O hown hK hP 0 rfl rfl 4 (by decide) (hts _ zw_273) (fun _ h9 => h9) rfl zd_O_printRows_125 ?_
      refine lv_bipush (v := 59) hx hb zd_O_printRows_128 (by decide) ?_
      refine z_callv (wc := [(oP, .inr (4, [.int p0, .int (nI n9_11), .int c9_11]))]) (wr := [(o, .inr (0, [.ref oR, .ref oC, .ref oV, .ref oS, .ref oP, .ref oU, .ref oK, .ref oM, .ref oL, .ref oW, .int (nI t)])), (oV, .inr (10, [.ref vN, .ref vS, .ref vL, .int (nI vl.length)])), (vN, .inl (cQ, 3, .inr (.inr (.inr (.inr (g3 n0 n1 n2)))))), (n0, .inl (cI, 120, .inl N0)), (n1, .inl (cI, 120, .inl N1)), (n2, .inl (cI, 120, .inl N2)), (vL, .inl (cI, 120, .inl L)), (oR, .inr (6, [.ref a1, .ref a2, .ref a3, .ref a4, .ref a5, .ref a6, .ref a7, .int (nI k)])), (a6, .inl (cZ, 120, .inl f6))]) [9] [0, 1, 2, 3, 4, 5, 6, 7, 8] hP hD hS hA rfl rfl (by decide) (by decide) (by decide) (fun hPc hDc hFc => va_runVN (As := [.int 59]) (rest := []) ⟨hx, hb, hml, hown, hts⟩ (k_Pr_sign l hst dC dI cI cZ cJ cQ H.size oP p0 n9_11 c9_11 59) ⟨va_cnB 1 hts (zgN zw_707) rfl rfl rfl (hZ.2.1 _ zz_708) (hts _ zw_6) (by decide +kernel) ⟨(Nat.le_of_ble_eq_true rfl), (Nat.le_of_ble_eq_true rfl)⟩, hts _ zw_706, hts _ zs_Pr_sign⟩ ⟨zPc.blind, va_recv hK hPc (ci := 4) (q0 := 0) rfl rfl, zPc.mk hPc hK hDc hZ hS hFc _⟩ rfl rfl hl.1 rfl (lv_room (Nat.le_of_ble_eq_true rfl)) zd_O_printRows_130 ⟨(Nat.le_of_ble_eq_true rfl), (Nat.le_of_ble_eq_true rfl)⟩) (fun u H locs hw hP hD hS => ?_)
      obtain ⟨n9_12, c9_12⟩ := u
      try dsimp only at hw hP hD
      have hP : va_P (dC, dI) zCl [(o, .inr (0, [.ref oR, .ref oC, .ref oV, .ref oS, .ref oP, .ref oU, .ref oK, .ref oM, .ref oL, .ref oW, .int (nI t)])), (oV, .inr (10, [.ref vN, .ref vS, .ref vL, .int (nI vl.length)])), (vN, .inl (cQ, 3, .inr (.inr (.inr (.inr (g3 n0 n1 n2)))))), (n0, .inl (cI, 120, .inl N0)), (n1, .inl (cI, 120, .inl N1)), (n2, .inl (cI, 120, .inl N2)), (vL, .inl (cI, 120, .inl L)), (oR, .inr (6, [.ref a1, .ref a2, .ref a3, .ref a4, .ref a5, .ref a6, .ref a7, .int (nI k)])), (a6, .inl (cZ, 120, .inl f6)), (oP, .inr (4, [.int p0, .int (nI n9_12), .int c9_12]))] H := hP
      have hD : va_D A [(o, .inr (0, [.ref oR, .ref oC, .ref oV, .ref oS, .ref oP, .ref oU, .ref oK, .ref oM, .ref oL, .ref oW, .int (nI t)])), (oV, .inr (10, [.ref vN, .ref vS, .ref vL, .int (nI vl.length)])), (vN, .inl (cQ, 3, .inr (.inr (.inr (.inr (g3 n0 n1 n2)))))), (n0, .inl (cI, 120, .inl N0)), (n1, .inl (cI, 120, .inl N1)), (n2, .inl (cI, 120, .inl N2)), (vL, .inl (cI, 120, .inl L)), (oR, .inr (6, [.ref a1, .ref a2, .ref a3, .ref a4, .ref a5, .ref a6, .ref a7, .int (nI k)])), (a6, .inl (cZ, 120, .inl f6)), (oP, .inr (4, [.int p0, .int (nI n9_12), .int c9_12]))] := hD
      have hv_12 := hw
      refine lv_iinc (v := nI (i + 1)) (lv' := [(2, .int (nI (i + 1))), (3, .int (nI r)), (0, .ref o), (1, .int p0)]) hx hb zd_O_printRows_133 hl (k := 3) rfl (nI_1 i) (by decide) rfl (fun ls hl => ?_)
      refine lv_goto (tgt := 10) hx hb zd_O_printRows_136 (by decide) ?_
      exact ih_10 (i + 1, n9_12, c9_12) _ _ _ ⟨⟨(by first | omega | (dsimp only; omega)), ((row_q1 c_9 hv_4 hv_5 hv_6 hv_7 hv_8 hv_11 hv_12).trans hrem)⟩, z_sub hP [0, 1, 2, 3, 4, 5, 6, 7, 8, 9] rfl, hD.sub [0, 1, 2, 3, 4, 5, 6, 7, 8, 9] (by decide) rfl, hS, lv_sub hl [2, 3, 0] rfl⟩
