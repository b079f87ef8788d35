/-! MY ROWS: returns, throws, calls -/
section ZROWS
variable {p : Program} {l : Launch} {e : Env} {R : Room} {s : State} {m : MethodId} {args : Array Value} {below : List Frame} {meth : Method} {c : Code} {H : Heap} {locs : List Loc} {cells slots : Nat} {Q : State → Prop}
variable {D : va_G} {cl : List vw_C} {A : Nat → Prop} {pc mc ms : Nat} {ls : Array Slot} {st0 rest : List Value} {a : Array Value} {ws wc wr : va_W} {S SX : Type} {cc : ByteArray}
theorem z_start {g : JFrame} (hP : va_P D cl ws s.heap) (hS : va_S A s.heap s.heap []) (k : ∀ (H : Heap) (locs : List Loc), va_P D cl ws H → va_S A s.heap H locs → W p l e R s m args below meth c H locs 0 0 Q g) : W p l e R s m args below meth c s.heap [] 0 0 Q g := k _ _ hP hS
/-- the state from here on as a method's own start -/
theorem z_rebase {T : State} (X : Stand p l e R s m args below meth c T locs cells slots) {R' : Room} (hf : R'.frames ≤ R.frames) (hl : R'.locals ≤ R.locals) (hc : cells + R'.cells ≤ R.cells) (hs : slots + R'.slots ≤ R.slots) :
    Stand p l e R' ({ s with heap := T.heap, slotsUsed := T.slotsUsed } : State) m args below meth c T [] 0 0 := by
  have hh := X.heapSize
  have hu := X.used
  have hb := X.book
  refine ⟨X.admits, X.cas, X.clock, X.frames, ?_, ?_, X.method, X.code, X.here, X.tail, X.warmed, X.limits, X.bytes, ?_⟩
  · have hr := X.room
    simp only [State.hasRoom, Bool.and_eq_true, decide_eq_true_eq] at hr ⊢
    obtain ⟨⟨⟨⟨r0, r1, r2, r3, r4, r5⟩, r6⟩, r7⟩, r8⟩ := hr
    have e1 : ({ s with heap := T.heap, slotsUsed := T.slotsUsed } : State).localsInUse = s.localsInUse := rfl
    have e2 : ({ s with heap := T.heap, slotsUsed := T.slotsUsed } : State).frames = s.frames := rfl
    have e3 : ({ s with heap := T.heap, slotsUsed := T.slotsUsed } : State).me = s.me := rfl
    rw [e1, e2, e3]
    exact ⟨⟨⟨⟨by omega, by omega, by omega, by omega, by omega, r5⟩, by show T.heap.size + _ ≤ _; omega⟩, by show T.slotsUsed + _ ≤ _; omega⟩, hb⟩
  · have h := X.hears
    cases below with
    | nil => exact h
    | cons f fs => cases f <;> exact h
  · refine ⟨X.same.1, Nat.le_refl _, Nat.le_refl _, ?_, ?_, fun b cb hb => ⟨cb, hb, rfl, rfl, fun _ _ => rfl⟩⟩
    · show T.slotsUsed = T.slotsUsed + ((T.heap.toList.drop T.heap.size).map (·.slots.size)).sum
      rw [List.drop_eq_nil_of_le (by simp)]
      simp
    · show ((T.heap.toList.drop T.heap.size).map (·.slots.size)).sum ≤ 0
      rw [List.drop_eq_nil_of_le (by simp)]
      simp
end ZROWS
