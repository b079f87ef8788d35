def R_law : String := "OwnerRowsLaw"
def lw_P (b : Addr) (xs : List Int32) (args : Array Value) (s : State) : Prop := args = #[.ref b] ∧ s.IntsAt b xs ∧ xs.length ≤ 3072 ∧ (Jvm.Cond.and given_1 narrow_1).before args s = true
def lw_Q (_ : Array Value) (s : State) (o : Outcome) (t : State) : Prop := o = .returned (some (.int 1)) ∧ Framed s o t [] 601024 7293034
def lw_Z (below : List Frame) (a : Array Value) (s : State) : State → Prop := fun t => ∃ o, t.status = .running ∧ Ended t below o ∧ lw_Q a s o t
/-- the law's own end, with 1 on the stack, nothing written that was there before, its room as the claim has it -/
theorem lw_ret {p : Program} {l : Launch} {e : Env} {s : State} {m : MethodId} {below : List Frame} {meth : Method} {c : Code} {b : Nat} (hx : p.tables.exec = Jvm.exec) (hb : c.code = code) (hr : meth.sig.returnType = ret) (hlocks : meth.locks = false) {pc : Nat} {H : Heap} {ls : Array Slot} (hdg : decode code pc = .ok (.ireturn, 1)) : W p l e room_1 s m #[Value.ref b] below meth c H [] 601024 7293034 (lw_Z below #[Value.ref b] s) (F0 m pc ls [.int 1]) := by
  intro T hT X
  obtain ⟨fs, hret, hrun, hended, hW, hframe⟩ := X.leave (v := some (.int 1)) (hlocks := hlocks) (fun h => by rw [hr] at h; cases h)
  have hmeth' : T.vm.method? m = some meth := X.method'
  refine ⟨T.setFrames fs, ?_, .returned (some (.int 1)), hrun, hended, rfl, ⟨_, rfl⟩, hW, hframe⟩
  jvm_step X.here [X.here.top, hx, hb, hdg, hmeth', hr, ret, narrow_b1]
  (try refine ⟨rfl, ?_⟩); (try refine ⟨rfl, ?_⟩)
  first | (intro acts; rw [hret _ acts rfl rfl rfl]) | rw [hret _ _ rfl rfl rfl]
  exact Steps.refl _
/-- what holds at the law's entry: the machine, the code, the tables' words (any of lw_tbl by 'hts w (by decide +kernel)'), the script of L ints xs at the cell b, what the Statement gives of the start (any of its parts by flat_of_before) -/
def lw_At (p : Program) (s : State) (m : MethodId) (meth : Method) (c : Code) (b L : Nat) (xs : Nat → Int32) : Prop :=
  p.tables.exec = Jvm.exec ∧ c.code = code ∧ meth.sig.returnType = ret ∧ c.maxLocals = 7 ∧ s.vm.findClass R_law = some m.cls ∧ (∀ w ∈ lw_tbl, w.before #[Value.ref b] s = true) ∧ va_X b L xs s s.heap ∧ b < s.heap.size ∧ meth.locks = false ∧ (Jvm.Cond.and given_1 narrow_1).before #[Value.ref b] s = true
theorem z_strR {own tx : String} {k : Nat} {args : Array Value} {s : State} (h : (Cond.stringRef own k tx).before args s = true) : ∃ a, vk_R own k tx a s := by
  have hcur : ∃ cur, s.vm.findClass own = some cur := by
    have h1 := h
    simp only [Cond.before, Cond.holds, Cond.value] at h1
    cases hc : s.vm.findClass own with
    | none => simp [hc] at h1
    | some cur => exact ⟨cur, rfl⟩
  obtain ⟨cur, hcur⟩ := hcur
  obtain ⟨k9, cf, i, a, -, -, -, -, -, h6⟩ := Cond.stringRef_spec hcur h
  exact ⟨a, vk_R.of h h6⟩
theorem z_toI {n : Nat} (h : n < 2 ^ 31) : (nI n).toInt = n := Int32.toInt_ofNat_of_lt h
theorem z_gt {Ln i : Nat} (h1 : Ln ≤ 3072) (h2 : i ≤ 3072) : nI Ln - 6 < nI i ↔ Ln < i + 6 := by
  rw [Int32.lt_iff_toInt_lt, Int32.toInt_sub, z_toI (by omega), z_toI (by omega), show (6 : Int32).toInt = 6 from rfl, Int.bmod_eq_of_le (by omega) (by omega)]
  omega
theorem z_arrK {args : Array Value} {s : State} {t : FieldType} (h : (Cond.arrayClass t).before args s = true) (ho : ∀ C, t ≠ .object C) : ∃ c : ClassId, ArrOfT s c t ∧ va_RA s c t := by
  obtain ⟨c, k, comp, h1, h2, h3⟩ := Cond.arrayClass_spec h
  refine ⟨c, fun N z => ⟨(fun q hq => by cases hq), k, h2, comp, h3⟩, ?_⟩
  cases t <;> first | exact h1 | exact absurd rfl (ho _)
theorem z_arrQ {args : Array Value} {s : State} (h : (Cond.arrayOver (.array .int)).before args s = true) : ∃ c : ClassId, ArrOfT s c (.array .int) ∧ va_RA s c (.array .int) := by
  obtain ⟨comp, c, k, h1, -, h3, h4, h5⟩ := arrayOverA_spec h
  exact ⟨c, fun N z => ⟨(fun q hq => by cases hq), k, h3, comp, h4⟩, h5⟩
theorem z_Estart {bs : Nat} {s : State} (hts : ∀ w ∈ lw_tbl, w.before #[Value.ref bs] s = true) (hgv : (Jvm.Cond.and given_1 narrow_1).before #[Value.ref bs] s = true) : zE (fun q : Nat => s.heap.size ≤ q) s := by
  have hq := flat_of_before _ hgv
  have hn : ∀ a : Nat, a < s.heap.size → ¬ (s.heap.size ≤ a) := fun a h => by omega
  refine ⟨⟨zS.of (hts _ (List.mem_append_right _ (List.mem_of_getElem? (i := 341) (by decide +kernel)))) (hq _ (by decide +kernel)) hn, zS.of (hts _ (List.mem_append_right _ (List.mem_of_getElem? (i := 343) (by decide +kernel)))) (hq _ (by decide +kernel)) hn⟩, fun w hw => va_Nw.of (zKind_tab (List.mem_filter.mp hw).2) (hts w (List.mem_append_right _ (List.mem_filter.mp hw).1)), fun q h => ?_, fun q h => ?_⟩
  · simp only [zStr, List.mem_cons, List.not_mem_nil, or_false] at h
    rcases h with rfl | rfl | rfl | rfl | rfl | rfl | rfl | rfl | rfl | rfl | rfl | rfl | rfl
    · exact z_strR (hts _ (List.mem_append_right _ (List.mem_of_getElem? (i := 355) (by decide +kernel))))
    · exact z_strR (hts _ (List.mem_append_right _ (List.mem_of_getElem? (i := 403) (by decide +kernel))))
    · exact z_strR (hts _ (List.mem_append_right _ (List.mem_of_getElem? (i := 426) (by decide +kernel))))
    · exact z_strR (hts _ (List.mem_append_right _ (List.mem_of_getElem? (i := 433) (by decide +kernel))))
    · exact z_strR (hts _ (List.mem_append_right _ (List.mem_of_getElem? (i := 445) (by decide +kernel))))
    · exact z_strR (hts _ (List.mem_append_right _ (List.mem_of_getElem? (i := 460) (by decide +kernel))))
    · exact z_strR (hts _ (List.mem_append_right _ (List.mem_of_getElem? (i := 489) (by decide +kernel))))
    · exact z_strR (hts _ (List.mem_append_right _ (List.mem_of_getElem? (i := 535) (by decide +kernel))))
    · exact z_strR (hts _ (List.mem_append_right _ (List.mem_of_getElem? (i := 576) (by decide +kernel))))
    · exact z_strR (hts _ (List.mem_append_right _ (List.mem_of_getElem? (i := 577) (by decide +kernel))))
    · exact z_strR (hts _ (List.mem_append_right _ (List.mem_of_getElem? (i := 600) (by decide +kernel))))
    · exact z_strR (hts _ (List.mem_append_right _ (List.mem_of_getElem? (i := 667) (by decide +kernel))))
    · exact z_strR (hts _ (List.mem_append_right _ (List.mem_of_getElem? (i := 690) (by decide +kernel))))
  · simp only [zNo, List.mem_cons, List.not_mem_nil, or_false] at h
    rcases h with rfl | rfl | rfl
    · exact va_Nc.of (hq _ (by decide +kernel))
    · exact va_Nc.of (hq _ (by decide +kernel))
    · exact va_Nc.of (hq _ (by decide +kernel))
theorem z_Kstart {args : Array Value} {s : State} (hts : ∀ w ∈ zW, w.before args s = true) (hO : (Cond.arrayOver (.array .int)).before args s = true) : ∃ (dC : Nat → ClassId) (dI : Nat → Nat → Nat) (cI cZ cJ cQ : ClassId), va_K (dC, dI) zCl (zTy cI cZ cJ cQ) s := by
  have h : ∀ c : Nat, ∃ g : ClassId × (Nat → Nat), ∀ q : vw_C, zCl[c]? = some q → u_Kn s q.1 q.2.1 q.2.2 g.1 g.2 := fun c => by
    match c with
    | 0 =>
      obtain ⟨cC, iS, h9⟩ := u_known hts zin_O (hts _ zw_23)
      exact ⟨(cC, iS), fun q hq => by cases hq; exact h9⟩
    | 1 =>
      obtain ⟨cC, iS, h9⟩ := u_known hts zin_Cl (hts _ zw_180)
      exact ⟨(cC, iS), fun q hq => by cases hq; exact h9⟩
    | 2 =>
      obtain ⟨cC, iS, h9⟩ := u_known hts zin_Co (hts _ zw_76)
      exact ⟨(cC, iS), fun q hq => by cases hq; exact h9⟩
    | 3 =>
      obtain ⟨cC, iS, h9⟩ := u_known hts zin_Li (hts _ zw_224)
      exact ⟨(cC, iS), fun q hq => by cases hq; exact h9⟩
    | 4 =>
      obtain ⟨cC, iS, h9⟩ := u_known hts zin_Pr (hts _ zw_142)
      exact ⟨(cC, iS), fun q hq => by cases hq; exact h9⟩
    | 5 =>
      obtain ⟨cC, iS, h9⟩ := u_known hts zin_Ri (hts _ zw_202)
      exact ⟨(cC, iS), fun q hq => by cases hq; exact h9⟩
    | 6 =>
      obtain ⟨cC, iS, h9⟩ := u_known hts zin_Ro (hts _ zw_31)
      exact ⟨(cC, iS), fun q hq => by cases hq; exact h9⟩
    | 7 =>
      obtain ⟨cC, iS, h9⟩ := u_known hts zin_Ru (hts _ zw_160)
      exact ⟨(cC, iS), fun q hq => by cases hq; exact h9⟩
    | 8 =>
      obtain ⟨cC, iS, h9⟩ := u_known hts zin_Su (hts _ zw_127)
      exact ⟨(cC, iS), fun q hq => by cases hq; exact h9⟩
    | 9 =>
      obtain ⟨cC, iS, h9⟩ := u_known hts zin_Va (hts _ zw_247)
      exact ⟨(cC, iS), fun q hq => by cases hq; exact h9⟩
    | 10 =>
      obtain ⟨cC, iS, h9⟩ := u_known hts zin_Vi (hts _ zw_104)
      exact ⟨(cC, iS), fun q hq => by cases hq; exact h9⟩
    | 11 =>
      obtain ⟨cC, iS, h9⟩ := u_known hts zin_M (hts _ zw_710)
      exact ⟨(cC, iS), fun q hq => by cases hq; exact h9⟩
    | n + 12 => exact ⟨(0, fun _ => 0), fun q hq => by cases hq⟩
  obtain ⟨g, hg⟩ := Classical.axiomOfChoice h
  obtain ⟨cI, i1⟩ := z_arrK (hts _ zw_73) (fun C h => by cases h)
  obtain ⟨cZ, i2⟩ := z_arrK (hts _ zw_74) (fun C h => by cases h)
  obtain ⟨cJ, i3⟩ := z_arrK (hts _ zw_1007) (fun C h => by cases h)
  obtain ⟨cQ, i4⟩ := z_arrQ hO
  refine ⟨fun c => (g c).1, fun c => (g c).2, cI, cZ, cJ, cQ, fun c q hq => hg c q hq, fun k q hk => ?_⟩
  match k, hk with
  | 0, hk => cases hk; exact i1
  | 1, hk => cases hk; exact i2
  | 2, hk => cases hk; exact i3
  | 3, hk => cases hk; exact i4
  | n + 4, hk => cases hk
