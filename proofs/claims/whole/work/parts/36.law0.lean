theorem zcwT {R : Room} {s : State} {args : Array Value} {own : String} {index : Nat} {y : MethodName} {bytes : ByteArray} {maxL mc ms : Nat} {ret : Option FieldType} {hh : List (Nat × Nat × Nat × Nat)} {rm : Room} (n : Nat) (ht : ∀ w ∈ zW, w.before args s = true) (h0 : Cond.codeWith y bytes maxL ret hh ∈ zW) (h1 : Cond.methodLink own index y ∈ zW) (h2 : Cond.static y ∈ zW) (h3 : Cond.initialized y.cls ∈ zW) (hrc : rm.cells = mc) (hrs : rm.slots = ms)
    (hd : y.cls ≠ "java/lang/invoke/MethodHandle" ∧ y.cls ≠ "java/lang/invoke/VarHandle" ∧ (parseMethodDescriptor y.desc).map (fun d => d.parameters.length) = some n) (hR : rm.frames + 1 ≤ R.frames ∧ 8 + (maxL + 11) + rm.locals ≤ R.locals) :
    zCwT R s args own index y bytes maxL ret hh (Cond.codeWith y bytes maxL ret hh :: zW) rm mc ms n := by
  have hG : GoodIn zW zW := fun w hw => ⟨hw, good_of_word (zW_good w hw)⟩
  have pay := pay_in ht hG
  refine ⟨⟨hrc, hrs, hR.1, hR.2⟩, fun w hw => ?_, List.mem_cons_self, ht _ h0, fun a' U hW => pay _ h3 a' U hW, ht _ h3, ⟨hd.1, hd.2.1⟩, fun sig h => ?_, ht _ h1, ht _ h2⟩
  · rcases List.mem_cons.mp hw with rfl | hw
    · exact fun a' U hW => pay _ h0 a' U hW
    · exact fun a' U hW => pay _ hw a' U hW
  · have h2 := hd.2.2
    rw [h] at h2
    exact (Option.some.inj h2).symm
theorem updL_0 (f : Nat → Int64) (v : Int64) : vp_updL f 0 v 0 = v := by unfold vp_updL; rw [if_pos rfl]
theorem z_cmpEq {a b : Int64} (h : a = b) : lg_cmp a b = 0 := by
  subst h
  unfold lg_cmp
  simp
theorem up_all {P : Int32 → Prop} {f : Nat → Int32} {k : Nat} {v : Int32} (h : ∀ j, j < k → P (f j)) (hv : P v) : ∀ j, j < k + 1 → P (upd f k v j) := fun j hj => by
  by_cases e : j = k
  · subst e; rw [pk_us]; exact hv
  · rw [pk_un e]; exact h j (by omega)
theorem up_at {P : Int32 → Prop} {f : Nat → Int32} {n x : Nat} {v : Int32} (h : ∀ j, j < n → P (f j)) (hv : P v) : ∀ j, j < n → P (upd f x v j) := fun j hj => by
  by_cases e : j = x
  · subst e; rw [pk_us]; exact hv
  · rw [pk_un e]; exact h j hj
theorem up2 {P : Int32 → Int32 → Prop} {f g : Nat → Int32} {k : Nat} {v w : Int32} (h : ∀ j, j < k → P (f j) (g j)) (hv : P v w) : ∀ j, j < k + 1 → P (upd f k v j) (upd g k w j) := fun j hj => by
  by_cases e : j = k
  · subst e; rw [pk_us, pk_us]; exact hv
  · rw [pk_un e, pk_un e]; exact h j (by omega)
theorem ow_row {e1 : Nat → Int32} {k ck : Nat} (hk : k + 1 ≤ 120) (h : ∀ j, j < ck → gEx (e1 j) (nI k)) : ∀ j, j < ck → gEx (e1 j) (nI (k + 1)) := fun j hj => by
  obtain ⟨h1, h2⟩ := h j hj
  obtain ⟨r, hr, he⟩ := nI_of h1
  rw [he] at h2 ⊢
  have h3 : r < k := (nI_ltI hr (by omega)).mp h2
  exact ⟨nI_pos hr, (nI_ltI hr (by omega)).mpr (by omega)⟩
theorem ow_cor {f3 e1 e4 : Nat → Int32} {k ck : Nat} {v : Int32} (hk : k ≤ 120) (hrow : ∀ j, j < ck → gEx (e1 j) (nI k)) (h : ∀ j, j < ck → f3 (e1 j).toNatClampNeg ≤ e4 j ∧ 0 ≤ e4 j) : ∀ j, j < ck → upd f3 k v (e1 j).toNatClampNeg ≤ e4 j ∧ 0 ≤ e4 j := fun j hj => by
  have h1 := z_clN (hrow j hj) hk
  rw [pk_un (by omega)]
  exact h j hj
theorem ow_sh {f4 f5 : Nat → Int32} {k : Nat} {sx sy : Nat → Nat} (h : shrK k f4 f5 sx sy) : shrK (k + 1) (upd f4 k 1) (upd f5 k 1) (fun r => if r = k then 1 else sx r) (fun r => if r = k then 1 else sy r) := fun r hr => by
  by_cases e : r = k
  · subst e
    rw [pk_us, pk_us]
    simp only [if_pos]
    exact ⟨rfl, rfl, by omega, by omega⟩
  · rw [pk_un e, pk_un e]
    simp only [if_neg e]
    exact h r (by omega)
theorem sh_sh {f4 f5 : Nat → Int32} {k x : Nat} {sx sy : Nat → Nat} {p1 p2 : Int32} (h1 : ¬ p1 < 1) (h2 : ¬ p2 < p1) (h3 : p2 ≤ 1000) (h : shrK k f4 f5 sx sy) : shrK k (upd f4 x p1) (upd f5 x p2) (fun r => if r = x then p1.toNatClampNeg else sx r) (fun r => if r = x then p2.toNatClampNeg else sy r) := fun r hr => by
  have a1 := i32_nlt h1
  have a2 := i32_nlt h2
  have a3 := i32_le h3
  have e1 : (1 : Int32).toInt = 1 := rfl
  have e0 : (0 : Int32).toInt = 0 := rfl
  have e9 : (1000 : Int32).toInt = 1000 := rfl
  have b1 : ¬ p1 < 0 := fun h9 => by have := i32_lt h9; omega
  have b2 : ¬ p2 < 0 := fun h9 => by have := i32_lt h9; omega
  obtain ⟨u, hu, rfl⟩ := nI_of b1
  obtain ⟨v, hv, rfl⟩ := nI_of b2
  have c1 : ¬ u < 1 := fun h9 => h1 ((nI_ltI (b := 1) hu (by decide)).mpr h9)
  have c2 : ¬ v < u := fun h9 => h2 ((nI_ltI hv hu).mpr h9)
  have c3 : v ≤ 1000 := (nI_leI (b := 1000) hv (by decide)).mp h3
  rw [nI_clamp hu, nI_clamp hv]
  by_cases e : r = x
  · subst e
    rw [pk_us, pk_us]
    simp only [if_pos]
    exact ⟨trivial, trivial, by omega, by omega⟩
  · rw [pk_un e, pk_un e]
    simp only [if_neg e]
    exact h r hr
theorem co_cor {f3 e1 e4 : Nat → Int32} {ck : Nat} {v w : Int32} (h : ∀ j, j < ck → f3 (e1 j).toNatClampNeg ≤ e4 j ∧ 0 ≤ e4 j) (h1 : f3 v.toNatClampNeg ≤ w) (h2 : ¬ w < 0) : ∀ j, j < ck + 1 → f3 (upd e1 ck v j).toNatClampNeg ≤ upd e4 ck w j ∧ 0 ≤ upd e4 ck w j :=
  up2 (P := fun a b => f3 a.toNatClampNeg ≤ b ∧ 0 ≤ b) h ⟨h1, Int32.not_lt.mp h2⟩
theorem te_m {y2 g2 : Nat → Int32} {x : Nat} {p0 p2 : Int32} (hg : g2 = (if p0 = 1 then upd y2 x p2 else y2)) (h : ∀ j, j < 16 → y2 j = -1 ∨ vp_in (y2 j) 32) (hp : p0 = 1 → gEx p2 32) : ∀ j, j < 16 → g2 j = -1 ∨ vp_in (g2 j) 32 := by
  by_cases e : p0 = 1
  · rw [if_pos e] at hg; subst hg
    exact up_at (P := fun v => v = -1 ∨ vp_in v 32) h (Or.inr (z_inK (N := 32) rfl (by decide) (hp e)))
  · rw [if_neg e] at hg; subst hg; exact h
theorem te_e {y3 g3 : Nat → Int32} {x : Nat} {p0 p2 : Int32} (hg : g3 = (if p0 = 0 ∨ p0 = 1 then y3 else upd y3 x p2)) (h : ∀ j, j < 32 → y3 j = -1 ∨ ¬ y3 j < 0) (hp : ¬ p0 = 0 → ¬ p0 = 1 → gDay p2) : ∀ j, j < 32 → g3 j = -1 ∨ ¬ g3 j < 0 := by
  by_cases e : p0 = 0 ∨ p0 = 1
  · rw [if_pos e] at hg; subst hg; exact h
  · rw [if_neg e] at hg; subst hg
    exact up_at (P := fun v => v = -1 ∨ ¬ v < 0) h (Or.inr (hp (fun h9 => e (Or.inl h9)) (fun h9 => e (Or.inr h9))).1)
theorem hl_eq {α : Type} {S : Option (Nat × Nat)} {a b c d : Nat} {f : Nat → α} {P : Prop} [Decidable P] (h1 : S = some (a, b)) (h2 : S = some (c, d)) : (if P then f a else f b) = (if P then f c else f d) := by
  have h3 : a = c ∧ b = d := by
    rw [h1] at h2
    cases h2
    exact ⟨rfl, rfl⟩
  rw [h3.1, h3.2]
theorem zch_AB {B : Nat → Bool} {k : Nat} {G : Nat → Int32} {T : List Nat → List Int32} {l9 : List Nat} {p2 v9 : Int32} {X Y Z : Prop} (h1 : srtO (visL B k) G l9) (h2 : X ∧ Y ∧ Z) (h3 : p2 = -1 ∨ gEx p2 (nI (T l9).length)) (h4 : (v9 = 1 ∧ ((¬ (X ∧ Y)) ∨ ((X ∧ Y) ∧ Z ∧ ¬ p2 = -1 ∧ ∃ l8 : List Nat, stl B k G l8 ∧ ¬ gEx p2 (nI (T l8).length)))) ∨ (v9 = 2 ∧ (X ∧ Y) ∧ ¬ Z)) : False := by
  rcases h4 with ⟨-, h4 | ⟨-, -, h5, l8, h6, h7⟩⟩ | ⟨-, -, h4⟩
  · exact h4 ⟨h2.1, h2.2.1⟩
  · rw [stl_u h6 h1] at h7
    rcases h3 with h3 | h3
    · exact h5 h3
    · exact h7 h3
  · exact h4 h2.2.2
theorem zch_BA {B : Nat → Bool} {k : Nat} {G : Nat → Int32} {T : List Nat → List Int32} {l8 : List Nat} {p2 r : Int32} {X Y Z : Prop} (h4 : (r = 1 ∧ ((¬ (X ∧ Y)) ∨ (X ∧ Y ∧ Z ∧ (¬ p2 = -1) ∧ (∃ l9 : List Nat, srtO (visL B k) G l9 ∧ ¬ gEx p2 (nI (T l9).length))))) ∨ (r = 2 ∧ (X ∧ Y ∧ (¬ Z)))) (h1 : stl B k G l8) (h2 : (X ∧ Y) ∧ Z) (h3 : p2 = -1 ∨ gEx p2 (nI (T l8).length)) : False := by
  rcases h4 with ⟨-, h4 | ⟨-, -, -, h5, l9, h6, h7⟩⟩ | ⟨-, -, -, h4⟩
  · exact h4 h2.1
  · rw [← stl_u h1 h6] at h7
    rcases h3 with h3 | h3
    · exact h5 h3
    · exact h7 h3
  · exact h4 h2.2
def zLI (dC : Nat → ClassId) (dI : Nat → Nat → Nat) (cI cZ cJ cQ : ClassId) (o oR a1 a2 b0 b1 b2 a3 a4 a5 a6 a7 oC c1 c2 c3 c4 oV vN n0 n1 n2 vS s0 s1 s2 vL oS oP oU ru1 ru2 ru3 oK kl1 kl2 kl3 oM ri1 ri2 ri3 oL li1 li2 li3 li4 oW vb1 vb2 vb3 vb4 mo u3 u4 u5 u6 u7 u8 u9 u11 u12 u13 u14 u16 u17 u18 u20 u21 u22 u23 u24 u25 u27 u28 u29 u30 u32 u33 u34 u35 u36 ou : Nat) (A : Nat → Prop) (H : Heap) : Prop := ∃ (t : Nat) (k : Nat) (ck : Nat) (uk : Nat) (qk : Nat) (jk : Nat) (gk : Nat) (z : Nat) (sa : Nat) (sb : Nat) (pn : Nat) (wd : Int32) (ct : Int32) (th : Int32) (sz9 : Int32) (ov : Int32) (un : Int32) (f1 : Nat → Int32) (h0 : Nat → Int32) (h1 : Nat → Int32) (h2 : Nat → Int32) (f3 : Nat → Int32) (f4 : Nat → Int32) (f5 : Nat → Int32) (f6 : Nat → Int32) (f7 : Nat → Int32) (e1 : Nat → Int32) (e2 : Nat → Int32) (e3 : Nat → Int32) (e4 : Nat → Int32) (N0 : Nat → Int32) (N1 : Nat → Int32) (N2 : Nat → Int32) (S0 : Nat → Int32) (S1 : Nat → Int32) (S2 : Nat → Int32) (L : Nat → Int32) (w1 : Nat → Int32) (w2 : Nat → Int32) (w3 : Nat → Int32) (q1 : Nat → Int32) (q2 : Nat → Int32) (q3 : Nat → Int32) (y1 : Nat → Int32) (y2 : Nat → Int32) (y3 : Nat → Int32) (j1 : Nat → Int32) (j2 : Nat → Int32) (j3 : Nat → Int32) (j4 : Nat → Int32) (d1 : Nat → Int32) (d2 : Nat → Int32) (d3 : Nat → Int32) (d4 : Nat → Int32) (sg : Nat → Int32) (fo : Nat → Int64) (sx : Nat → Nat) (sy : Nat → Nat), (t ≤ 16) ∧ (k ≤ 120) ∧ (ck ≤ 200) ∧ (uk ≤ 10) ∧ (qk ≤ 30) ∧ (jk ≤ 40) ∧ (gk ≤ 60) ∧ (∀ j, j < ck → gEx (e1 j) (nI k)) ∧ (∀ j, j < ck → e2 j = 0 ∨ e2 j = 1 ∨ e2 j = 2) ∧ (∀ j, j < ck → f3 (e1 j).toNatClampNeg ≤ e4 j ∧ 0 ≤ e4 j) ∧ (shrK k f4 f5 sx sy) ∧ (∀ j, j < qk → q3 j = -1 ∨ ¬ q3 j < 0) ∧ (∀ j, j < 16 → y2 j = -1 ∨ vp_in (y2 j) 32) ∧ (∀ j, j < 32 → y3 j = -1 ∨ ¬ y3 j < 0) ∧ (∀ j, j < k → gEx (h0 j) 32) ∧ (∀ j, j < k → gDay (h1 j)) ∧ (∀ j, j < k → gDay (h2 j)) ∧ (∀ j, j < ck → ¬ e2 j = 0 → gDay (e3 j)) ∧ (∀ j, j < ck → e2 j = 0 → gEx (e3 j) 32) ∧ va_P (dC, dI) zCl ((o, .inr (0, [.ref oR, .ref oC, .ref oV, .ref oS, .ref oP, .ref oU, .ref oK, .ref oM, .ref oL, .ref oW, .int (nI t)])) :: (oR, .inr (6, [.ref a1, .ref a2, .ref a3, .ref a4, .ref a5, .ref a6, .ref a7, .int (nI k)])) :: (a1, .inl (cI, 120, .inl f1)) :: (a2, .inl (cQ, 3, .inr (.inr (.inr (.inr (g3 b0 b1 b2)))))) :: (b0, .inl (cI, 120, .inl h0)) :: (b1, .inl (cI, 120, .inl h1)) :: (b2, .inl (cI, 120, .inl h2)) :: (a3, .inl (cI, 120, .inl f3)) :: (a4, .inl (cI, 120, .inl f4)) :: (a5, .inl (cI, 120, .inl f5)) :: (a6, .inl (cZ, 120, .inl f6)) :: (a7, .inl (cI, 120, .inl f7)) :: (oC, .inr (2, [.ref c1, .ref c2, .ref c3, .ref c4, .int (nI ck)])) :: (c1, .inl (cI, 200, .inl e1)) :: (c2, .inl (cI, 200, .inl e2)) :: (c3, .inl (cI, 200, .inl e3)) :: (c4, .inl (cI, 200, .inl e4)) :: (oV, .inr (10, [.ref vN, .ref vS, .ref vL, .int (nI z)])) :: (vN, .inl (cQ, 3, .inr (.inr (.inr (.inr (g3 n0 n1 n2)))))) :: (n0, .inl (cI, 120, .inl N0)) :: (n1, .inl (cI, 120, .inl N1)) :: (n2, .inl (cI, 120, .inl N2)) :: (vS, .inl (cQ, 3, .inr (.inr (.inr (.inr (g3 s0 s1 s2)))))) :: (s0, .inl (cI, 120, .inl S0)) :: (s1, .inl (cI, 120, .inl S1)) :: (s2, .inl (cI, 120, .inl S2)) :: (vL, .inl (cI, 120, .inl L)) :: (oS, .inr (8, [.long (lN sa), .long (lN sb)])) :: (oP, .inr (4, [.int wd, .int (nI pn), .int ct])) :: (oU, .inr (7, [.ref ru1, .ref ru2, .ref ru3, .int (nI uk)])) :: (ru1, .inl (cI, 10, .inl w1)) :: (ru2, .inl (cI, 10, .inl w2)) :: (ru3, .inl (cI, 10, .inl w3)) :: (oK, .inr (1, [.ref kl1, .ref kl2, .ref kl3, .int (nI qk)])) :: (kl1, .inl (cI, 30, .inl q1)) :: (kl2, .inl (cI, 30, .inl q2)) :: (kl3, .inl (cI, 30, .inl q3)) :: (oM, .inr (5, [.ref ri1, .ref ri2, .ref ri3])) :: (ri1, .inl (cI, 4, .inl y1)) :: (ri2, .inl (cI, 16, .inl y2)) :: (ri3, .inl (cI, 32, .inl y3)) :: (oL, .inr (3, [.ref li1, .ref li2, .ref li3, .ref li4, .int (nI jk)])) :: (li1, .inl (cI, 40, .inl j1)) :: (li2, .inl (cI, 40, .inl j2)) :: (li3, .inl (cI, 40, .inl j3)) :: (li4, .inl (cI, 40, .inl j4)) :: (oW, .inr (9, [.ref vb1, .ref vb2, .ref vb3, .ref vb4, .int (nI gk)])) :: (vb1, .inl (cI, 60, .inl d1)) :: (vb2, .inl (cI, 60, .inl d2)) :: (vb3, .inl (cI, 60, .inl d3)) :: (vb4, .inl (cI, 60, .inl d4)) :: (mo, .inr (11, (.int th :: .int (nI t) :: .int (nI k) :: .ref u3 :: .ref u4 :: .ref u5 :: .ref u6 :: .ref u7 :: .ref u8 :: .ref u9 :: .int (nI ck) :: .ref u11 :: .ref u12 :: .ref u13 :: .ref u14 :: .int (nI uk) :: .ref u16 :: .ref u17 :: .ref u18 :: .int (nI qk) :: .ref u20 :: .ref u21 :: .ref u22 :: .ref u23 :: .ref u24 :: .ref u25 :: .int (nI jk) :: .ref u27 :: .ref u28 :: .ref u29 :: .ref u30 :: .int (nI gk) :: .ref u32 :: .ref u33 :: .ref u34 :: .ref u35 :: .ref u36 :: .int sz9 :: .int ov :: .int un :: []))) :: (u3, .inl (cI, 120, .inl f1)) :: (u4, .inl (cI, 120, .inl f3)) :: (u5, .inl (cI, 360, .inl (F3 h0 h1 h2))) :: (u6, .inl (cI, 120, .inl f4)) :: (u7, .inl (cI, 120, .inl f5)) :: (u8, .inl (cZ, 120, .inl f6)) :: (u9, .inl (cZ, 960, .inl (S8 f7))) :: (u11, .inl (cI, 200, .inl e1)) :: (u12, .inl (cI, 200, .inl e2)) :: (u13, .inl (cI, 200, .inl e3)) :: (u14, .inl (cI, 200, .inl e4)) :: (u16, .inl (cI, 10, .inl w1)) :: (u17, .inl (cI, 10, .inl w2)) :: (u18, .inl (cI, 10, .inl w3)) :: (u20, .inl (cI, 30, .inl q1)) :: (u21, .inl (cI, 30, .inl q2)) :: (u22, .inl (cI, 30, .inl q3)) :: (u23, .inl (cI, 4, .inl y1)) :: (u24, .inl (cI, 16, .inl y2)) :: (u25, .inl (cI, 32, .inl y3)) :: (u27, .inl (cI, 40, .inl j1)) :: (u28, .inl (cI, 40, .inl j2)) :: (u29, .inl (cI, 40, .inl j3)) :: (u30, .inl (cI, 40, .inl j4)) :: (u32, .inl (cI, 60, .inl d1)) :: (u33, .inl (cI, 60, .inl d2)) :: (u34, .inl (cI, 60, .inl d3)) :: (u35, .inl (cI, 60, .inl d4)) :: (u36, .inl (cI, 2400, .inl sg)) :: (ou, .inl (cJ, 1, .inr (.inl fo))) :: []) H ∧ va_D A ((o, .inr (0, [.ref oR, .ref oC, .ref oV, .ref oS, .ref oP, .ref oU, .ref oK, .ref oM, .ref oL, .ref oW, .int (nI t)])) :: (oR, .inr (6, [.ref a1, .ref a2, .ref a3, .ref a4, .ref a5, .ref a6, .ref a7, .int (nI k)])) :: (a1, .inl (cI, 120, .inl f1)) :: (a2, .inl (cQ, 3, .inr (.inr (.inr (.inr (g3 b0 b1 b2)))))) :: (b0, .inl (cI, 120, .inl h0)) :: (b1, .inl (cI, 120, .inl h1)) :: (b2, .inl (cI, 120, .inl h2)) :: (a3, .inl (cI, 120, .inl f3)) :: (a4, .inl (cI, 120, .inl f4)) :: (a5, .inl (cI, 120, .inl f5)) :: (a6, .inl (cZ, 120, .inl f6)) :: (a7, .inl (cI, 120, .inl f7)) :: (oC, .inr (2, [.ref c1, .ref c2, .ref c3, .ref c4, .int (nI ck)])) :: (c1, .inl (cI, 200, .inl e1)) :: (c2, .inl (cI, 200, .inl e2)) :: (c3, .inl (cI, 200, .inl e3)) :: (c4, .inl (cI, 200, .inl e4)) :: (oV, .inr (10, [.ref vN, .ref vS, .ref vL, .int (nI z)])) :: (vN, .inl (cQ, 3, .inr (.inr (.inr (.inr (g3 n0 n1 n2)))))) :: (n0, .inl (cI, 120, .inl N0)) :: (n1, .inl (cI, 120, .inl N1)) :: (n2, .inl (cI, 120, .inl N2)) :: (vS, .inl (cQ, 3, .inr (.inr (.inr (.inr (g3 s0 s1 s2)))))) :: (s0, .inl (cI, 120, .inl S0)) :: (s1, .inl (cI, 120, .inl S1)) :: (s2, .inl (cI, 120, .inl S2)) :: (vL, .inl (cI, 120, .inl L)) :: (oS, .inr (8, [.long (lN sa), .long (lN sb)])) :: (oP, .inr (4, [.int wd, .int (nI pn), .int ct])) :: (oU, .inr (7, [.ref ru1, .ref ru2, .ref ru3, .int (nI uk)])) :: (ru1, .inl (cI, 10, .inl w1)) :: (ru2, .inl (cI, 10, .inl w2)) :: (ru3, .inl (cI, 10, .inl w3)) :: (oK, .inr (1, [.ref kl1, .ref kl2, .ref kl3, .int (nI qk)])) :: (kl1, .inl (cI, 30, .inl q1)) :: (kl2, .inl (cI, 30, .inl q2)) :: (kl3, .inl (cI, 30, .inl q3)) :: (oM, .inr (5, [.ref ri1, .ref ri2, .ref ri3])) :: (ri1, .inl (cI, 4, .inl y1)) :: (ri2, .inl (cI, 16, .inl y2)) :: (ri3, .inl (cI, 32, .inl y3)) :: (oL, .inr (3, [.ref li1, .ref li2, .ref li3, .ref li4, .int (nI jk)])) :: (li1, .inl (cI, 40, .inl j1)) :: (li2, .inl (cI, 40, .inl j2)) :: (li3, .inl (cI, 40, .inl j3)) :: (li4, .inl (cI, 40, .inl j4)) :: (oW, .inr (9, [.ref vb1, .ref vb2, .ref vb3, .ref vb4, .int (nI gk)])) :: (vb1, .inl (cI, 60, .inl d1)) :: (vb2, .inl (cI, 60, .inl d2)) :: (vb3, .inl (cI, 60, .inl d3)) :: (vb4, .inl (cI, 60, .inl d4)) :: (mo, .inr (11, (.int th :: .int (nI t) :: .int (nI k) :: .ref u3 :: .ref u4 :: .ref u5 :: .ref u6 :: .ref u7 :: .ref u8 :: .ref u9 :: .int (nI ck) :: .ref u11 :: .ref u12 :: .ref u13 :: .ref u14 :: .int (nI uk) :: .ref u16 :: .ref u17 :: .ref u18 :: .int (nI qk) :: .ref u20 :: .ref u21 :: .ref u22 :: .ref u23 :: .ref u24 :: .ref u25 :: .int (nI jk) :: .ref u27 :: .ref u28 :: .ref u29 :: .ref u30 :: .int (nI gk) :: .ref u32 :: .ref u33 :: .ref u34 :: .ref u35 :: .ref u36 :: .int sz9 :: .int ov :: .int un :: []))) :: (u3, .inl (cI, 120, .inl f1)) :: (u4, .inl (cI, 120, .inl f3)) :: (u5, .inl (cI, 360, .inl (F3 h0 h1 h2))) :: (u6, .inl (cI, 120, .inl f4)) :: (u7, .inl (cI, 120, .inl f5)) :: (u8, .inl (cZ, 120, .inl f6)) :: (u9, .inl (cZ, 960, .inl (S8 f7))) :: (u11, .inl (cI, 200, .inl e1)) :: (u12, .inl (cI, 200, .inl e2)) :: (u13, .inl (cI, 200, .inl e3)) :: (u14, .inl (cI, 200, .inl e4)) :: (u16, .inl (cI, 10, .inl w1)) :: (u17, .inl (cI, 10, .inl w2)) :: (u18, .inl (cI, 10, .inl w3)) :: (u20, .inl (cI, 30, .inl q1)) :: (u21, .inl (cI, 30, .inl q2)) :: (u22, .inl (cI, 30, .inl q3)) :: (u23, .inl (cI, 4, .inl y1)) :: (u24, .inl (cI, 16, .inl y2)) :: (u25, .inl (cI, 32, .inl y3)) :: (u27, .inl (cI, 40, .inl j1)) :: (u28, .inl (cI, 40, .inl j2)) :: (u29, .inl (cI, 40, .inl j3)) :: (u30, .inl (cI, 40, .inl j4)) :: (u32, .inl (cI, 60, .inl d1)) :: (u33, .inl (cI, 60, .inl d2)) :: (u34, .inl (cI, 60, .inl d3)) :: (u35, .inl (cI, 60, .inl d4)) :: (u36, .inl (cI, 2400, .inl sg)) :: (ou, .inl (cJ, 1, .inr (.inl fo))) :: [])
set_option maxHeartbeats 4000000 in
set_option maxRecDepth 100000 in
theorem zLI_el (dC : Nat → ClassId) (dI : Nat → Nat → Nat) (cI cZ cJ cQ : ClassId) (o oR a1 a2 b0 b1 b2 a3 a4 a5 a6 a7 oC c1 c2 c3 c4 oV vN n0 n1 n2 vS s0 s1 s2 vL oS oP oU ru1 ru2 ru3 oK kl1 kl2 kl3 oM ri1 ri2 ri3 oL li1 li2 li3 li4 oW vb1 vb2 vb3 vb4 mo u3 u4 u5 u6 u7 u8 u9 u11 u12 u13 u14 u16 u17 u18 u20 u21 u22 u23 u24 u25 u27 u28 u29 u30 u32 u33 u34 u35 u36 ou : Nat) {A : Nat → Prop} {H : Heap} {goal : Prop} (hI : zLI dC dI cI cZ cJ cQ o oR a1 a2 b0 b1 b2 a3 a4 a5 a6 a7 oC c1 c2 c3 c4 oV vN n0 n1 n2 vS s0 s1 s2 vL oS oP oU ru1 ru2 ru3 oK kl1 kl2 kl3 oM ri1 ri2 ri3 oL li1 li2 li3 li4 oW vb1 vb2 vb3 vb4 mo u3 u4 u5 u6 u7 u8 u9 u11 u12 u13 u14 u16 u17 u18 u20 u21 u22 u23 u24 u25 u27 u28 u29 u30 u32 u33 u34 u35 u36 ou A H) (kk : ∀ (t : Nat) (k : Nat) (ck : Nat) (uk : Nat) (qk : Nat) (jk : Nat) (gk : Nat) (z : Nat) (sa : Nat) (sb : Nat) (pn : Nat) (wd : Int32) (ct : Int32) (th : Int32) (sz9 : Int32) (ov : Int32) (un : Int32) (f1 : Nat → Int32) (h0 : Nat → Int32) (h1 : Nat → Int32) (h2 : Nat → Int32) (f3 : Nat → Int32) (f4 : Nat → Int32) (f5 : Nat → Int32) (f6 : Nat → Int32) (f7 : Nat → Int32) (e1 : Nat → Int32) (e2 : Nat → Int32) (e3 : Nat → Int32) (e4 : Nat → Int32) (N0 : Nat → Int32) (N1 : Nat → Int32) (N2 : Nat → Int32) (S0 : Nat → Int32) (S1 : Nat → Int32) (S2 : Nat → Int32) (L : Nat → Int32) (w1 : Nat → Int32) (w2 : Nat → Int32) (w3 : Nat → Int32) (q1 : Nat → Int32) (q2 : Nat → Int32) (q3 : Nat → Int32) (y1 : Nat → Int32) (y2 : Nat → Int32) (y3 : Nat → Int32) (j1 : Nat → Int32) (j2 : Nat → Int32) (j3 : Nat → Int32) (j4 : Nat → Int32) (d1 : Nat → Int32) (d2 : Nat → Int32) (d3 : Nat → Int32) (d4 : Nat → Int32) (sg : Nat → Int32) (fo : Nat → Int64) (sx : Nat → Nat) (sy : Nat → Nat) (ht : t ≤ 16) (hk : k ≤ 120) (hck : ck ≤ 200) (hu : uk ≤ 10) (hq : qk ≤ 30) (hj : jk ≤ 40) (hg : gk ≤ 60) (hrow : ∀ j, j < ck → gEx (e1 j) (nI k)) (hfld : ∀ j, j < ck → e2 j = 0 ∨ e2 j = 1 ∨ e2 j = 2) (hcor : ∀ j, j < ck → f3 (e1 j).toNatClampNeg ≤ e4 j ∧ 0 ≤ e4 j) (hsh : shrK k f4 f5 sx sy) (hst9 : ∀ j, j < qk → q3 j = -1 ∨ ¬ q3 j < 0) (hm : ∀ j, j < 16 → y2 j = -1 ∨ vp_in (y2 j) 32) (hen : ∀ j, j < 32 → y3 j = -1 ∨ ¬ y3 j < 0) (hv0 : ∀ j, j < k → gEx (h0 j) 32) (hv1 : ∀ j, j < k → gDay (h1 j)) (hv2 : ∀ j, j < k → gDay (h2 j)) (hv3 : ∀ j, j < ck → ¬ e2 j = 0 → gDay (e3 j)) (hv4 : ∀ j, j < ck → e2 j = 0 → gEx (e3 j) 32) (hP : va_P (dC, dI) zCl ((o, .inr (0, [.ref oR, .ref oC, .ref oV, .ref oS, .ref oP, .ref oU, .ref oK, .ref oM, .ref oL, .ref oW, .int (nI t)])) :: (oR, .inr (6, [.ref a1, .ref a2, .ref a3, .ref a4, .ref a5, .ref a6, .ref a7, .int (nI k)])) :: (a1, .inl (cI, 120, .inl f1)) :: (a2, .inl (cQ, 3, .inr (.inr (.inr (.inr (g3 b0 b1 b2)))))) :: (b0, .inl (cI, 120, .inl h0)) :: (b1, .inl (cI, 120, .inl h1)) :: (b2, .inl (cI, 120, .inl h2)) :: (a3, .inl (cI, 120, .inl f3)) :: (a4, .inl (cI, 120, .inl f4)) :: (a5, .inl (cI, 120, .inl f5)) :: (a6, .inl (cZ, 120, .inl f6)) :: (a7, .inl (cI, 120, .inl f7)) :: (oC, .inr (2, [.ref c1, .ref c2, .ref c3, .ref c4, .int (nI ck)])) :: (c1, .inl (cI, 200, .inl e1)) :: (c2, .inl (cI, 200, .inl e2)) :: (c3, .inl (cI, 200, .inl e3)) :: (c4, .inl (cI, 200, .inl e4)) :: (oV, .inr (10, [.ref vN, .ref vS, .ref vL, .int (nI z)])) :: (vN, .inl (cQ, 3, .inr (.inr (.inr (.inr (g3 n0 n1 n2)))))) :: (n0, .inl (cI, 120, .inl N0)) :: (n1, .inl (cI, 120, .inl N1)) :: (n2, .inl (cI, 120, .inl N2)) :: (vS, .inl (cQ, 3, .inr (.inr (.inr (.inr (g3 s0 s1 s2)))))) :: (s0, .inl (cI, 120, .inl S0)) :: (s1, .inl (cI, 120, .inl S1)) :: (s2, .inl (cI, 120, .inl S2)) :: (vL, .inl (cI, 120, .inl L)) :: (oS, .inr (8, [.long (lN sa), .long (lN sb)])) :: (oP, .inr (4, [.int wd, .int (nI pn), .int ct])) :: (oU, .inr (7, [.ref ru1, .ref ru2, .ref ru3, .int (nI uk)])) :: (ru1, .inl (cI, 10, .inl w1)) :: (ru2, .inl (cI, 10, .inl w2)) :: (ru3, .inl (cI, 10, .inl w3)) :: (oK, .inr (1, [.ref kl1, .ref kl2, .ref kl3, .int (nI qk)])) :: (kl1, .inl (cI, 30, .inl q1)) :: (kl2, .inl (cI, 30, .inl q2)) :: (kl3, .inl (cI, 30, .inl q3)) :: (oM, .inr (5, [.ref ri1, .ref ri2, .ref ri3])) :: (ri1, .inl (cI, 4, .inl y1)) :: (ri2, .inl (cI, 16, .inl y2)) :: (ri3, .inl (cI, 32, .inl y3)) :: (oL, .inr (3, [.ref li1, .ref li2, .ref li3, .ref li4, .int (nI jk)])) :: (li1, .inl (cI, 40, .inl j1)) :: (li2, .inl (cI, 40, .inl j2)) :: (li3, .inl (cI, 40, .inl j3)) :: (li4, .inl (cI, 40, .inl j4)) :: (oW, .inr (9, [.ref vb1, .ref vb2, .ref vb3, .ref vb4, .int (nI gk)])) :: (vb1, .inl (cI, 60, .inl d1)) :: (vb2, .inl (cI, 60, .inl d2)) :: (vb3, .inl (cI, 60, .inl d3)) :: (vb4, .inl (cI, 60, .inl d4)) :: (mo, .inr (11, (.int th :: .int (nI t) :: .int (nI k) :: .ref u3 :: .ref u4 :: .ref u5 :: .ref u6 :: .ref u7 :: .ref u8 :: .ref u9 :: .int (nI ck) :: .ref u11 :: .ref u12 :: .ref u13 :: .ref u14 :: .int (nI uk) :: .ref u16 :: .ref u17 :: .ref u18 :: .int (nI qk) :: .ref u20 :: .ref u21 :: .ref u22 :: .ref u23 :: .ref u24 :: .ref u25 :: .int (nI jk) :: .ref u27 :: .ref u28 :: .ref u29 :: .ref u30 :: .int (nI gk) :: .ref u32 :: .ref u33 :: .ref u34 :: .ref u35 :: .ref u36 :: .int sz9 :: .int ov :: .int un :: []))) :: (u3, .inl (cI, 120, .inl f1)) :: (u4, .inl (cI, 120, .inl f3)) :: (u5, .inl (cI, 360, .inl (F3 h0 h1 h2))) :: (u6, .inl (cI, 120, .inl f4)) :: (u7, .inl (cI, 120, .inl f5)) :: (u8, .inl (cZ, 120, .inl f6)) :: (u9, .inl (cZ, 960, .inl (S8 f7))) :: (u11, .inl (cI, 200, .inl e1)) :: (u12, .inl (cI, 200, .inl e2)) :: (u13, .inl (cI, 200, .inl e3)) :: (u14, .inl (cI, 200, .inl e4)) :: (u16, .inl (cI, 10, .inl w1)) :: (u17, .inl (cI, 10, .inl w2)) :: (u18, .inl (cI, 10, .inl w3)) :: (u20, .inl (cI, 30, .inl q1)) :: (u21, .inl (cI, 30, .inl q2)) :: (u22, .inl (cI, 30, .inl q3)) :: (u23, .inl (cI, 4, .inl y1)) :: (u24, .inl (cI, 16, .inl y2)) :: (u25, .inl (cI, 32, .inl y3)) :: (u27, .inl (cI, 40, .inl j1)) :: (u28, .inl (cI, 40, .inl j2)) :: (u29, .inl (cI, 40, .inl j3)) :: (u30, .inl (cI, 40, .inl j4)) :: (u32, .inl (cI, 60, .inl d1)) :: (u33, .inl (cI, 60, .inl d2)) :: (u34, .inl (cI, 60, .inl d3)) :: (u35, .inl (cI, 60, .inl d4)) :: (u36, .inl (cI, 2400, .inl sg)) :: (ou, .inl (cJ, 1, .inr (.inl fo))) :: []) H) (hD : va_D A ((o, .inr (0, [.ref oR, .ref oC, .ref oV, .ref oS, .ref oP, .ref oU, .ref oK, .ref oM, .ref oL, .ref oW, .int (nI t)])) :: (oR, .inr (6, [.ref a1, .ref a2, .ref a3, .ref a4, .ref a5, .ref a6, .ref a7, .int (nI k)])) :: (a1, .inl (cI, 120, .inl f1)) :: (a2, .inl (cQ, 3, .inr (.inr (.inr (.inr (g3 b0 b1 b2)))))) :: (b0, .inl (cI, 120, .inl h0)) :: (b1, .inl (cI, 120, .inl h1)) :: (b2, .inl (cI, 120, .inl h2)) :: (a3, .inl (cI, 120, .inl f3)) :: (a4, .inl (cI, 120, .inl f4)) :: (a5, .inl (cI, 120, .inl f5)) :: (a6, .inl (cZ, 120, .inl f6)) :: (a7, .inl (cI, 120, .inl f7)) :: (oC, .inr (2, [.ref c1, .ref c2, .ref c3, .ref c4, .int (nI ck)])) :: (c1, .inl (cI, 200, .inl e1)) :: (c2, .inl (cI, 200, .inl e2)) :: (c3, .inl (cI, 200, .inl e3)) :: (c4, .inl (cI, 200, .inl e4)) :: (oV, .inr (10, [.ref vN, .ref vS, .ref vL, .int (nI z)])) :: (vN, .inl (cQ, 3, .inr (.inr (.inr (.inr (g3 n0 n1 n2)))))) :: (n0, .inl (cI, 120, .inl N0)) :: (n1, .inl (cI, 120, .inl N1)) :: (n2, .inl (cI, 120, .inl N2)) :: (vS, .inl (cQ, 3, .inr (.inr (.inr (.inr (g3 s0 s1 s2)))))) :: (s0, .inl (cI, 120, .inl S0)) :: (s1, .inl (cI, 120, .inl S1)) :: (s2, .inl (cI, 120, .inl S2)) :: (vL, .inl (cI, 120, .inl L)) :: (oS, .inr (8, [.long (lN sa), .long (lN sb)])) :: (oP, .inr (4, [.int wd, .int (nI pn), .int ct])) :: (oU, .inr (7, [.ref ru1, .ref ru2, .ref ru3, .int (nI uk)])) :: (ru1, .inl (cI, 10, .inl w1)) :: (ru2, .inl (cI, 10, .inl w2)) :: (ru3, .inl (cI, 10, .inl w3)) :: (oK, .inr (1, [.ref kl1, .ref kl2, .ref kl3, .int (nI qk)])) :: (kl1, .inl (cI, 30, .inl q1)) :: (kl2, .inl (cI, 30, .inl q2)) :: (kl3, .inl (cI, 30, .inl q3)) :: (oM, .inr (5, [.ref ri1, .ref ri2, .ref ri3])) :: (ri1, .inl (cI, 4, .inl y1)) :: (ri2, .inl (cI, 16, .inl y2)) :: (ri3, .inl (cI, 32, .inl y3)) :: (oL, .inr (3, [.ref li1, .ref li2, .ref li3, .ref li4, .int (nI jk)])) :: (li1, .inl (cI, 40, .inl j1)) :: (li2, .inl (cI, 40, .inl j2)) :: (li3, .inl (cI, 40, .inl j3)) :: (li4, .inl (cI, 40, .inl j4)) :: (oW, .inr (9, [.ref vb1, .ref vb2, .ref vb3, .ref vb4, .int (nI gk)])) :: (vb1, .inl (cI, 60, .inl d1)) :: (vb2, .inl (cI, 60, .inl d2)) :: (vb3, .inl (cI, 60, .inl d3)) :: (vb4, .inl (cI, 60, .inl d4)) :: (mo, .inr (11, (.int th :: .int (nI t) :: .int (nI k) :: .ref u3 :: .ref u4 :: .ref u5 :: .ref u6 :: .ref u7 :: .ref u8 :: .ref u9 :: .int (nI ck) :: .ref u11 :: .ref u12 :: .ref u13 :: .ref u14 :: .int (nI uk) :: .ref u16 :: .ref u17 :: .ref u18 :: .int (nI qk) :: .ref u20 :: .ref u21 :: .ref u22 :: .ref u23 :: .ref u24 :: .ref u25 :: .int (nI jk) :: .ref u27 :: .ref u28 :: .ref u29 :: .ref u30 :: .int (nI gk) :: .ref u32 :: .ref u33 :: .ref u34 :: .ref u35 :: .ref u36 :: .int sz9 :: .int ov :: .int un :: []))) :: (u3, .inl (cI, 120, .inl f1)) :: (u4, .inl (cI, 120, .inl f3)) :: (u5, .inl (cI, 360, .inl (F3 h0 h1 h2))) :: (u6, .inl (cI, 120, .inl f4)) :: (u7, .inl (cI, 120, .inl f5)) :: (u8, .inl (cZ, 120, .inl f6)) :: (u9, .inl (cZ, 960, .inl (S8 f7))) :: (u11, .inl (cI, 200, .inl e1)) :: (u12, .inl (cI, 200, .inl e2)) :: (u13, .inl (cI, 200, .inl e3)) :: (u14, .inl (cI, 200, .inl e4)) :: (u16, .inl (cI, 10, .inl w1)) :: (u17, .inl (cI, 10, .inl w2)) :: (u18, .inl (cI, 10, .inl w3)) :: (u20, .inl (cI, 30, .inl q1)) :: (u21, .inl (cI, 30, .inl q2)) :: (u22, .inl (cI, 30, .inl q3)) :: (u23, .inl (cI, 4, .inl y1)) :: (u24, .inl (cI, 16, .inl y2)) :: (u25, .inl (cI, 32, .inl y3)) :: (u27, .inl (cI, 40, .inl j1)) :: (u28, .inl (cI, 40, .inl j2)) :: (u29, .inl (cI, 40, .inl j3)) :: (u30, .inl (cI, 40, .inl j4)) :: (u32, .inl (cI, 60, .inl d1)) :: (u33, .inl (cI, 60, .inl d2)) :: (u34, .inl (cI, 60, .inl d3)) :: (u35, .inl (cI, 60, .inl d4)) :: (u36, .inl (cI, 2400, .inl sg)) :: (ou, .inl (cJ, 1, .inr (.inl fo))) :: [])), goal) : goal := by
  unfold zLI at hI
  refine hI.elim (fun t hI => ?_)
  refine hI.elim (fun k hI => ?_)
  refine hI.elim (fun ck hI => ?_)
  refine hI.elim (fun uk hI => ?_)
  refine hI.elim (fun qk hI => ?_)
  refine hI.elim (fun jk hI => ?_)
  refine hI.elim (fun gk hI => ?_)
  refine hI.elim (fun z hI => ?_)
  refine hI.elim (fun sa hI => ?_)
  refine hI.elim (fun sb hI => ?_)
  refine hI.elim (fun pn hI => ?_)
  refine hI.elim (fun wd hI => ?_)
  refine hI.elim (fun ct hI => ?_)
  refine hI.elim (fun th hI => ?_)
  refine hI.elim (fun sz9 hI => ?_)
  refine hI.elim (fun ov hI => ?_)
  refine hI.elim (fun un hI => ?_)
  refine hI.elim (fun f1 hI => ?_)
  refine hI.elim (fun h0 hI => ?_)
  refine hI.elim (fun h1 hI => ?_)
  refine hI.elim (fun h2 hI => ?_)
  refine hI.elim (fun f3 hI => ?_)
  refine hI.elim (fun f4 hI => ?_)
  refine hI.elim (fun f5 hI => ?_)
  refine hI.elim (fun f6 hI => ?_)
  refine hI.elim (fun f7 hI => ?_)
  refine hI.elim (fun e1 hI => ?_)
  refine hI.elim (fun e2 hI => ?_)
  refine hI.elim (fun e3 hI => ?_)
  refine hI.elim (fun e4 hI => ?_)
  refine hI.elim (fun N0 hI => ?_)
  refine hI.elim (fun N1 hI => ?_)
  refine hI.elim (fun N2 hI => ?_)
  refine hI.elim (fun S0 hI => ?_)
  refine hI.elim (fun S1 hI => ?_)
  refine hI.elim (fun S2 hI => ?_)
  refine hI.elim (fun L hI => ?_)
  refine hI.elim (fun w1 hI => ?_)
  refine hI.elim (fun w2 hI => ?_)
  refine hI.elim (fun w3 hI => ?_)
  refine hI.elim (fun q1 hI => ?_)
  refine hI.elim (fun q2 hI => ?_)
  refine hI.elim (fun q3 hI => ?_)
  refine hI.elim (fun y1 hI => ?_)
  refine hI.elim (fun y2 hI => ?_)
  refine hI.elim (fun y3 hI => ?_)
  refine hI.elim (fun j1 hI => ?_)
  refine hI.elim (fun j2 hI => ?_)
  refine hI.elim (fun j3 hI => ?_)
  refine hI.elim (fun j4 hI => ?_)
  refine hI.elim (fun d1 hI => ?_)
  refine hI.elim (fun d2 hI => ?_)
  refine hI.elim (fun d3 hI => ?_)
  refine hI.elim (fun d4 hI => ?_)
  refine hI.elim (fun sg hI => ?_)
  refine hI.elim (fun fo hI => ?_)
  refine hI.elim (fun sx hI => ?_)
  refine hI.elim (fun sy hI => ?_)
  refine hI.elim (fun ht hI => ?_)
  refine hI.elim (fun hk hI => ?_)
  refine hI.elim (fun hck hI => ?_)
  refine hI.elim (fun hu hI => ?_)
  refine hI.elim (fun hq hI => ?_)
  refine hI.elim (fun hj hI => ?_)
  refine hI.elim (fun hg hI => ?_)
  refine hI.elim (fun hrow hI => ?_)
  refine hI.elim (fun hfld hI => ?_)
  refine hI.elim (fun hcor hI => ?_)
  refine hI.elim (fun hsh hI => ?_)
  refine hI.elim (fun hst9 hI => ?_)
  refine hI.elim (fun hm hI => ?_)
  refine hI.elim (fun hen hI => ?_)
  refine hI.elim (fun hv0 hI => ?_)
  refine hI.elim (fun hv1 hI => ?_)
  refine hI.elim (fun hv2 hI => ?_)
  refine hI.elim (fun hv3 hI => ?_)
  refine hI.elim (fun hv4 hI => ?_)
  refine hI.elim (fun hP hD => ?_)
  exact kk t k ck uk qk jk gk z sa sb pn wd ct th sz9 ov un f1 h0 h1 h2 f3 f4 f5 f6 f7 e1 e2 e3 e4 N0 N1 N2 S0 S1 S2 L w1 w2 w3 q1 q2 q3 y1 y2 y3 j1 j2 j3 j4 d1 d2 d3 d4 sg fo sx sy ht hk hck hu hq hj hg hrow hfld hcor hsh hst9 hm hen hv0 hv1 hv2 hv3 hv4 hP hD
