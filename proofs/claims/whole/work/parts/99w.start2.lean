section ST2
variable {s : State} {b L : Nat} {xs : Nat → Int32}
theorem st_gok : ∀ i : Nat, i < 10 → ∀ j : Nat, j < 8 → 0 ≤ st_g i j ∧ st_g i j < 200 := by decide
theorem st_key : ∀ i : Nat, i < 10 → ∃ (q : String × String) (k : Nat), pz_snm[i]? = some q ∧ (pz_SS L)[i]? = some (k, (st_t.getD i []).length) ∧ (k = 112 ∧ st_ty q.2 = .char ∨ k = 110 ∧ st_ty q.2 = .int) ∧ (st_t.getD i []).length ≤ 8
  | 0, _ => ⟨_, _, rfl, rfl, Or.inl ⟨rfl, by decide⟩, by decide⟩
  | 1, _ => ⟨_, _, rfl, rfl, Or.inr ⟨rfl, by decide⟩, by decide⟩
  | 2, _ => ⟨_, _, rfl, rfl, Or.inr ⟨rfl, by decide⟩, by decide⟩
  | 3, _ => ⟨_, _, rfl, rfl, Or.inl ⟨rfl, by decide⟩, by decide⟩
  | 4, _ => ⟨_, _, rfl, rfl, Or.inr ⟨rfl, by decide⟩, by decide⟩
  | 5, _ => ⟨_, _, rfl, rfl, Or.inr ⟨rfl, by decide⟩, by decide⟩
  | 6, _ => ⟨_, _, rfl, rfl, Or.inl ⟨rfl, by decide⟩, by decide⟩
  | 7, _ => ⟨_, _, rfl, rfl, Or.inr ⟨rfl, by decide⟩, by decide⟩
  | 8, _ => ⟨_, _, rfl, rfl, Or.inr ⟨rfl, by decide⟩, by decide⟩
  | 9, _ => ⟨_, _, rfl, rfl, Or.inl ⟨rfl, by decide⟩, by decide⟩
  | n + 10, h => absurd h (by omega)
theorem st_st (ht : ∀ w ∈ lw_tbl, w.before #[Value.ref b] s = true) (hs : ∀ w ∈ flatC narrow_1, w.before #[Value.ref b] s = true) (hx : va_X b L xs s s.heap) (hb : b < s.heap.size) (hL : L ≤ 3072) : ∃ stt : Nat → Nat, stt 10 = b ∧ pz_st s.heap.size stt (pz_SS L) (st_c xs) s := by
  have ht1 : ∀ w ∈ tables_1, w.before #[Value.ref b] s = true := fun w hw => ht w (List.mem_append_right _ hw)
  have hc : ∀ i : Nat, ∃ t : Nat, ∀ q, pz_snm[i]? = some q → va_Z "CatCourt" q.1 q.2 (.ref t) (pz_Z s.heap.size) s s.heap ∧ va_T (st_ty q.2) t (st_t.getD i []).length (fun j => .int (Int32.ofInt (st_g i j))) (pz_Z s.heap.size) s s.heap := by
    intro i
    cases hq : pz_snm[i]? with
    | none => exact ⟨0, fun q h => by cases h⟩
    | some q =>
      obtain ⟨t, h⟩ := st_at ht1 hs hq
      exact ⟨t, fun q' e => by cases e; exact h⟩
  have hstt : ∀ i : Nat, ∃ t : Nat, t = (if i = 10 then b else (hc i).choose) := fun i => ⟨_, rfl⟩
  refine ⟨fun i => (hstt i).choose, (hstt 10).choose_spec.trans (if_pos rfl), fun i q hi => ?_, fun i sh hi => ?_, fun w hw hk => ?_⟩
  · have h10 : i < 10 := (List.getElem?_eq_some_iff.mp hi).1
    show va_Z "CatCourt" q.1 q.2 (.ref (hstt i).choose) _ _ _
    rw [(hstt i).choose_spec, if_neg (by omega)]
    exact ((hc i).choose_spec q hi).1
  · show sh.2 < 2147483648 ∧ (sh.1 = 110 ∨ sh.1 = 112) ∧ va_T (if sh.1 = 112 then .char else .int) (hstt i).choose sh.2 (fun j => .int (Int32.ofInt (st_c xs i j))) (pz_Z s.heap.size) s s.heap ∧ ∀ j, j < sh.2 → pz_okv (0, st_c xs i j)
    rw [(hstt i).choose_spec]
    by_cases h10 : i = 10
    · subst h10
      rw [if_pos rfl]
      have hi : some (110, L) = some sh := hi
      cases hi
      have e1 : st_c xs 10 = fun j => (xs j).toInt := funext fun j => if_pos rfl
      rw [e1]
      obtain ⟨scr, x1, x2, x3, x4, x5⟩ := hx
      refine ⟨by show L < 2147483648; omega, Or.inl rfl, ⟨scr, x1, x2, x3, by show L ≤ _; omega, by show _ = Int32.ofNat L; rw [x4], fun j hj => ?_, ?_⟩, fun j hj => pz_i32_ok _⟩
      · rw [x5 j hj]
        show some (Value.int (xs j)) = some (.int (Int32.ofInt (xs j).toInt))
        rw [pz_of32]
      · show ¬ s.heap.size ≤ b
        omega
    · rw [if_neg h10]
      have hlt : i < 10 := by
        have h9 : i < 11 := (List.getElem?_eq_some_iff.mp hi).1
        omega
      have e1 : st_c xs i = st_g i := funext fun j => if_neg h10
      rw [e1]
      obtain ⟨q, k, k1, k2, k3, k4⟩ := st_key (L := L) i hlt
      cases Option.some.inj (k2.symm.trans hi)
      have hz := ((hc i).choose_spec q k1).2
      have hok : ∀ j, j < (st_t.getD i []).length → pz_okv (0, st_g i j) := fun j hj => by
        have h9 := st_gok i hlt j (by omega)
        show -2147483648 ≤ st_g i j ∧ st_g i j < 2147483648
        omega
      rcases k3 with ⟨rfl, e⟩ | ⟨rfl, e⟩
      · rw [e] at hz
        exact ⟨by show (st_t.getD i []).length < 2147483648; omega, Or.inr rfl, hz, hok⟩
      · rw [e] at hz
        exact ⟨by show (st_t.getD i []).length < 2147483648; omega, Or.inl rfl, hz, hok⟩
  · have h1 := ht w hw
    cases w with
    | fieldLinkNest a i b n d h => exact h1
    | methodLinkNest a i x h => exact h1
    | arrayOver ty => exact h1
    | _ => cases hk
/-- the memory at the start: the static arrays and the script, above 4096 -/
def st_S (xs : Nat → Int32) : pz_M := fun a j => st_c xs (a - 4096) j
theorem st_r {stt : Nat → Nat} {cA : Nat → ClassId} {D : va_G} : pz_r s.heap.size stt cA D (pz_SS L) (st_c xs) ((pz_SH.take 0, pz_SS L, 0, 0, 0), mB (st_S xs)) s.heap := by
  refine ⟨fun k q h => ?_, ⟨Nat.le_refl _, Nat.le_refl _⟩, fun k sh h => ?_, Nat.zero_le _, rfl, fun i j sh h hj => ?_⟩
  · have h : ([] : va_W)[k]? = some q := h
    simp at h
  · have h : ([] : List (Nat × Nat))[k]? = some sh := h
    simp at h
  · show mB (st_S xs) (4096 + i) j = st_c xs i j
    have e : 4096 + i - 4096 = i := by omega
    rw [mB, if_neg (by omega), st_S, e]
theorem st_SSh (dd : Nat) : SSh (pz_SS L) dd := fun M' => ⟨rfl, rfl, rfl, rfl, rfl, rfl, rfl, rfl, rfl, rfl⟩
theorem st_Scr (hL : L ≤ 3072) : Scr (pz_SS L) L (fun k => (xs k).toInt) (mI (mB (st_S xs))) := by
  refine ⟨fun c M' => rfl, fun k hk => ?_, fun k hk => ?_, hL⟩
  · rw [mI_hi (by omega), mB, if_neg (by omega)]
    rfl
  · have h9 : pz_okv (0, (xs k).toInt) := pz_i32_ok (xs k)
    have h9 : -2147483648 ≤ (xs k).toInt ∧ (xs k).toInt < 2147483648 := h9
    show -2147483648 ≤ (xs k).toInt ∧ (xs k).toInt ≤ 2147483647
    omega
theorem st_STc : STc (st_S xs) := by
  refine ⟨fun v => ?_, fun k hk => ?_, fun v => ?_, fun k hk => ?_, fun v => ?_, fun k hk => ?_, rfl, rfl, rfl, rfl, rfl, rfl, rfl, rfl⟩
  · show plf (st_g 0) v 3 0 = itm 97 v
    have a0 : st_g 0 0 = 103 := rfl
    have a1 : st_g 0 1 = 107 := rfl
    have a2 : st_g 0 2 = 100 := rfl
    simp [plf, itm, a0, a1, a2, eq_comm (b := v)]
  · show st_g 1 k = hig 97 (k : Int) ∧ st_g 2 k = usu 97 k
    revert k
    decide
  · show plf (st_g 3) v 7 0 = itm 98 v
    have a0 : st_g 3 0 = 112 := rfl
    have a1 : st_g 3 1 = 116 := rfl
    have a2 : st_g 3 2 = 117 := rfl
    have a3 : st_g 3 3 = 108 := rfl
    have a4 : st_g 3 4 = 110 := rfl
    have a5 : st_g 3 5 = 104 := rfl
    have a6 : st_g 3 6 = 109 := rfl
    simp [plf, itm, a0, a1, a2, a3, a4, a5, a6, eq_comm (b := v)]
  · show st_g 4 k = hig 98 (k : Int) ∧ st_g 5 k = usu 98 k
    revert k
    decide
  · show plf (st_g 6) v 6 0 = itm 99 v
    have a0 : st_g 6 0 = 112 := rfl
    have a1 : st_g 6 1 = 116 := rfl
    have a2 : st_g 6 2 = 117 := rfl
    have a3 : st_g 6 3 = 108 := rfl
    have a4 : st_g 6 4 = 102 := rfl
    have a5 : st_g 6 5 = 99 := rfl
    simp [plf, itm, a0, a1, a2, a3, a4, a5, eq_comm (b := v)]
  · show st_g 7 k = hig 99 (k : Int) ∧ st_g 8 k = usu 99 k
    revert k
    decide
end ST2
