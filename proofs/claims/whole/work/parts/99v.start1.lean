section ST1
variable {s : State} {A : Array Value}
def st_ck (q : vw_C) : Bool := (u_ws q.1 q.2.1 q.2.2).all (fun w => decide (w ∈ tables_1)) && decide (Cond.instantiable q.1 q.2.2 ∈ tables_1)
set_option maxRecDepth 100000 in
theorem st_cls : pz_cls.all st_ck = true := by decide +kernel
theorem st_K (ht : ∀ w ∈ tables_1, w.before A s = true) : ∃ (cA : Nat → ClassId) (D : va_G), va_K D pz_cls (pz_tys cA) s := by
  obtain ⟨cI, kI, mI, i1, i2, i3⟩ := Cond.arrayClass_spec (ht (.arrayClass .int) (List.mem_of_getElem? (i := 47) (by decide +kernel)))
  obtain ⟨cJ, kJ, mJ, j1, j2, j3⟩ := Cond.arrayClass_spec (ht (.arrayClass .long) (List.mem_of_getElem? (i := 167) (by decide +kernel)))
  obtain ⟨mL, cL, kL, l1, -, l2, l3, l4⟩ := Cond.arrayOver_spec (ht (.arrayOver (.object "CatCourt$Law")) (List.mem_of_getElem? (i := 91) (by decide +kernel)))
  obtain ⟨mC, cC, kC, o1, -, o2, o3, o4⟩ := Cond.arrayOver_spec (ht (.arrayOver (.object "CatCourt$Court")) (List.mem_of_getElem? (i := 101) (by decide +kernel)))
  obtain ⟨mA, cB, kB, a1, -, a2, a3, a4⟩ := arrayOver_specB (ht (.arrayOver (.array .long)) (List.mem_of_getElem? (i := 150) (by decide +kernel)))
  have hc : ∀ c : Nat, ∃ (x : ClassId) (y : Nat → Nat), ∀ q, pz_cls[c]? = some q → u_Kn s q.1 q.2.1 q.2.2 x y := by
    intro c
    cases hq : pz_cls[c]? with
    | none => exact ⟨mI, fun _ => 0, fun q h => by cases h⟩
    | some q =>
      have h9 := List.all_eq_true.mp st_cls q (List.mem_of_getElem? hq)
      rw [st_ck, Bool.and_eq_true, List.all_eq_true] at h9
      obtain ⟨x, y, h⟩ := u_known ht (fun w hw => of_decide_eq_true (h9.1 w hw)) (ht _ (of_decide_eq_true h9.2))
      exact ⟨x, y, fun q' e => by cases e; exact h⟩
  refine ⟨fun k => if k = 100 then cI else if k = 101 then cJ else if k = 102 then cL else if k = 103 then cC else cB, (fun c => (hc c).choose, fun c => (hc c).choose_spec.choose), fun c q hq => (hc c).choose_spec.choose_spec q hq, fun k q hk => ?_⟩
  match k, hk with
  | 0, hk =>
    have hk : some (cI, FieldType.int) = some q := hk
    cases hk
    exact ⟨fun n z => ⟨fun k h => (by cases h), kI, i2, mI, i3⟩, i1⟩
  | 1, hk =>
    have hk : some (cJ, FieldType.long) = some q := hk
    cases hk
    exact ⟨fun n z => ⟨fun k h => (by cases h), kJ, j2, mJ, j3⟩, j1⟩
  | 2, hk =>
    have hk : some (cL, FieldType.object "CatCourt$Law") = some q := hk
    cases hk
    exact ⟨fun n z => ⟨fun k h => (by cases h), kL, l2, mL, l3⟩, kL, mL, l2, l3, l1, l4⟩
  | 3, hk =>
    have hk : some (cC, FieldType.object "CatCourt$Court") = some q := hk
    cases hk
    exact ⟨fun n z => ⟨fun k h => (by cases h), kC, o2, mC, o3⟩, kC, mC, o2, o3, o1, o4⟩
  | 4, hk =>
    have hk : some (cB, FieldType.array .long) = some q := hk
    cases hk
    exact ⟨fun n z => ⟨fun k h => (by cases h), kB, a2, mA, a3⟩, a4⟩
  | n + 5, hk => cases hk
/-- the static arrays, as the Statement gives them -/
def st_t : List (List Int) := [[103, 107, 100], [99, 1, 1], [50, 0, 0], [112, 116, 117, 108, 110, 104, 109], [9, 9, 9, 9, 99, 9, 27], [3, 2, 1, 0, 3, 4, 0], [112, 116, 117, 108, 102, 99], [9, 9, 9, 9, 9, 99], [1, 1, 1, 1, 0, 0], [100, 119, 103, 107, 104, 102, 109, 99]]
def st_g (i j : Nat) : Int := (st_t.getD i []).getD j 0
def st_c (xs : Nat → Int32) (i j : Nat) : Int := if i = 10 then (xs j).toInt else st_g i j
def st_ty (d : String) : FieldType := if d = "[C" then .char else .int
def st_ok (i : Nat) (q : String × String) : Bool :=
  decide (Cond.laysStatic "CatCourt" q.1 q.2 ∈ tables_1) && decide (Cond.arrayOf (.static "CatCourt" q.1 q.2) (st_ty q.2) ∈ flatC narrow_1) && decide (Cond.eq (.length (.static "CatCourt" q.1 q.2)) (.int (Int32.ofNat (st_t.getD i []).length)) ∈ flatC narrow_1) &&
  (List.range (st_t.getD i []).length).all (fun j => decide (Cond.eq (.elem (.static "CatCourt" q.1 q.2) (.int (Int32.ofNat j))) (.int (Int32.ofInt (st_g i j))) ∈ flatC narrow_1))
set_option maxRecDepth 100000 in
theorem st_all : (pz_snm.zipIdx).all (fun q => st_ok q.2 q.1) = true := by decide +kernel
theorem st_at (ht : ∀ w ∈ tables_1, w.before A s = true) (hs : ∀ w ∈ flatC narrow_1, w.before A s = true) {i : Nat} {q : String × String} (hq : pz_snm[i]? = some q) : ∃ t : Nat, va_Z "CatCourt" q.1 q.2 (.ref t) (pz_Z s.heap.size) s s.heap ∧ va_T (st_ty q.2) t (st_t.getD i []).length (fun j => .int (Int32.ofInt (st_g i j))) (pz_Z s.heap.size) s s.heap := by
  have h9 := List.all_eq_true.mp st_all (q, i) (List.mem_of_getElem? (i := i) (by rw [List.getElem?_zipIdx, hq]; simp))
  have h9 : st_ok i q = true := h9
  rw [st_ok, Bool.and_eq_true, Bool.and_eq_true, Bool.and_eq_true, List.all_eq_true] at h9
  obtain ⟨⟨⟨h1, h2⟩, h3⟩, h4⟩ := h9
  have hA : ∀ a : Nat, a < s.heap.size → ¬ pz_Z s.heap.size a := fun a ha => by unfold pz_Z; omega
  have hlt : (st_t.getD i []).length < 2 ^ 31 := by
    have hi : i < 10 := by
      have := (List.getElem?_eq_some_iff.mp hq).1
      exact this
    have : ∀ i : Nat, i < 10 → (st_t.getD i []).length < 2 ^ 31 := by decide
    exact this i hi
  obtain ⟨t, e1, e2⟩ := va_Tof (f := fun j => .int (Int32.ofInt (st_g i j))) hlt (hs _ (of_decide_eq_true h2)) (va_eqt (hs _ (of_decide_eq_true h3))) (fun j hj => va_eqt (hs _ (of_decide_eq_true (h4 j (List.mem_range.mpr hj))))) hA
  exact ⟨t, va_Zref (ht _ (of_decide_eq_true h1)) (ht _ (List.mem_of_getElem? (i := 1) (by decide +kernel))) e1 hA, e2⟩
end ST1
