/-! THE PURE MACHINE IS SOUND: words -/
def pz_ad (base : Nat) (stt : Nat → Nat) (k : Nat) : Nat := if k < 4096 then base + k else stt (k - 4096)
def pz_tv (base : Nat) (stt : Nat → Nat) (v : pz_V) : Value := match v with
  | (0, z) => .int (Int32.ofInt z)
  | (1, z) => .long (Int64.ofInt z)
  | (_, z) => if z < 0 then .null else .ref (pz_ad base stt z.toNat)
def pz_okv (v : pz_V) : Prop := match v with
  | (0, z) => -2147483648 ≤ z ∧ z < 2147483648
  | (1, z) => -9223372036854775808 ≤ z ∧ z < 9223372036854775808
  | _ => True
/-- the tag of a place of a cell -/
def pz_tg (sh : Nat × Nat) (j : Nat) : Nat := if sh.1 < 100 then pz_tf sh.1 j else if sh.1 = 100 then 0 else if sh.1 = 101 then 1 else 2
def pz_rf (base : Nat) (stt : Nat → Nat) (z : Int) : Option Nat := if z < 0 then none else some (pz_ad base stt z.toNat)
def pz_ce (base : Nat) (stt : Nat → Nat) (cA : Nat → ClassId) (sh : Nat × Nat) (f : Nat → Int) : va_E :=
  if sh.1 < 100 then .inr (sh.1, (List.range sh.2).map (fun j => pz_tv base stt (pz_tf sh.1 j, f j)))
  else if sh.1 = 100 then .inl (cA 100, sh.2, .inl (fun j => Int32.ofInt (f j)))
  else if sh.1 = 101 then .inl (cA 101, sh.2, .inr (.inl (fun j => Int64.ofInt (f j))))
  else .inl (cA sh.1, sh.2, .inr (.inr (.inr (.inr (fun j => pz_rf base stt (f j))))))
def pz_wd (base : Nat) (stt : Nat → Nat) (cA : Nat → ClassId) (X : pz_X) : va_W := X.1.1.mapIdx (fun k sh => (base + k, pz_ce base stt cA sh (X.2 k)))
def pz_tys (cA : Nat → ClassId) : List (ClassId × FieldType) := [(cA 100, .int), (cA 101, .long), (cA 102, .object "CatCourt$Law"), (cA 103, .object "CatCourt$Court"), (cA 104, .array .long)]
def pz_oks (sh : Nat × Nat) : Prop := (sh.1 < 100 ∧ ∃ (C : String) (T : u_T), pz_cls[sh.1]? = some (C, T, sh.2)) ∨ (100 ≤ sh.1 ∧ sh.1 ≤ 104 ∧ sh.2 ≤ 60000)
def pz_okx (ss : List (Nat × Nat)) (stc : Nat → Nat → Int) (X : pz_X) : Prop :=
  (∀ (k : Nat) (sh : Nat × Nat), X.1.1[k]? = some sh → pz_oks sh ∧ ∀ j, j < sh.2 → pz_okv (pz_tg sh j, X.2 k j)) ∧ X.1.1.length ≤ 4096 ∧ X.1.2.1 = ss ∧ ∀ (i j : Nat) (sh : Nat × Nat), ss[i]? = some sh → j < sh.2 → X.2 (4096 + i) j = stc i j
def pz_r (base : Nat) (stt : Nat → Nat) (cA : Nat → ClassId) (D : va_G) (ss : List (Nat × Nat)) (stc : Nat → Nat → Int) (X : pz_X) (H : Heap) : Prop :=
  va_P D pz_cls (pz_wd base stt cA X) H ∧ (base + X.1.1.length ≤ H.size ∧ H.size ≤ base + X.1.1.length + X.1.2.2.2.2) ∧ pz_okx ss stc X
/-- what may be written: the cells from base on -/
def pz_Z (base : Nat) : Nat → Prop := fun q => base ≤ q
def pz_snm : List (String × String) := [("ACCUSED_LETTERS", "[C"), ("ACCUSED_MOST", "[I"), ("ACCUSED_USUAL", "[I"), ("BENCH_LETTERS", "[C"), ("BENCH_MOST", "[I"), ("BENCH_USUAL", "[I"), ("CAT_LETTERS", "[C"), ("CAT_MOST", "[I"), ("CAT_USUAL", "[I"), ("LAW_LETTERS", "[C")]
/-- the words that move with the tables' warming, but aren't among lw_g: of nest mates, and of arrays of references -/
def pz_isx : Cond → Bool
  | .fieldLinkNest .. => true
  | .methodLinkNest .. => true
  | .arrayOver _ => true
  | _ => false
def pz_xw (U : State) : Prop := ∀ w ∈ lw_tbl, pz_isx w = true → w.before #[] U = true
theorem pz_xw_warm {s U : State} (hW : s.WarmedH U.vm) (h : pz_xw s) : pz_xw U := by
  intro w hw hx
  have h1 := h w hw hx
  cases w with
  | fieldLinkNest a i b n d h => exact va_Nw.warmF hW h1
  | methodLinkNest a i x h => exact va_Nw.warmM hW h1
  | arrayOver ty =>
    have h2 := Cond.arrayOver_setVmC (args := #[]) (s := s) hW.alike ty
    exact h2.trans h1
  | _ => cases hx
/-- the static arrays and the script, at a state -/
def pz_st (base : Nat) (stt : Nat → Nat) (ss : List (Nat × Nat)) (stc : Nat → Nat → Int) (U : State) : Prop :=
  (∀ (i : Nat) (q : String × String), pz_snm[i]? = some q → va_Z "CatCourt" q.1 q.2 (.ref (stt i)) (pz_Z base) U U.heap) ∧
  (∀ (i : Nat) (sh : Nat × Nat), ss[i]? = some sh → sh.2 < 2147483648 ∧ (sh.1 = 110 ∨ sh.1 = 112) ∧ va_T (if sh.1 = 112 then .char else .int) (stt i) sh.2 (fun j => .int (Int32.ofInt (stc i j))) (pz_Z base) U U.heap ∧ ∀ j, j < sh.2 → pz_okv (0, stc i j)) ∧ pz_xw U
/-- the locals -/
def pz_lr (base : Nat) (stt : Nat → Nat) (mls : Array Slot) (nL : Nat) (ls : List pz_V) : Prop := mls.size = nL ∧ ls.length = nL ∧ lv_wf mls ∧ ∀ (i : Nat) (v : pz_V), ls[i]? = some v → v.1 < 3 → mls[i]? = some (.val (pz_tv base stt v)) ∧ pz_okv v
def pz_okl (st : List pz_V) : Prop := ∀ v ∈ st, v.1 < 3 ∧ pz_okv v
theorem pz_okl_c {v : pz_V} {st : List pz_V} : pz_okl (v :: st) ↔ (v.1 < 3 ∧ pz_okv v) ∧ pz_okl st := by simp [pz_okl]
theorem pz_wd_at {base : Nat} {stt : Nat → Nat} {cA : Nat → ClassId} {X : pz_X} {k : Nat} {sh : Nat × Nat} (h : X.1.1[k]? = some sh) : (pz_wd base stt cA X)[k]? = some (base + k, pz_ce base stt cA sh (X.2 k)) := by
  unfold pz_wd
  rw [List.getElem?_mapIdx, h]
  rfl
theorem pz_wd_set {base : Nat} {stt : Nat → Nat} {cA : Nat → ClassId} {X : pz_X} {k : Nat} {sh : Nat × Nat} {M : pz_M} {E : va_E} (h : X.1.1[k]? = some sh) (hE : E = pz_ce base stt cA sh (M k)) (hM : ∀ a, a ≠ k → M a = X.2 a) : (pz_wd base stt cA X).set k (base + k, E) = pz_wd base stt cA (X.1, M) := by
  subst hE
  apply List.ext_getElem?
  intro i
  unfold pz_wd
  rw [List.getElem?_set]
  by_cases hi : k = i
  · subst hi
    have hl : k < X.1.1.length := (List.getElem?_eq_some_iff.mp h).1
    rw [if_pos rfl, List.getElem?_mapIdx, h, if_pos (by rw [List.length_mapIdx]; exact hl)]
    rfl
  · rw [if_neg hi, List.getElem?_mapIdx, List.getElem?_mapIdx, ← hM i (fun e => hi e.symm)]
theorem pz_wd_D {base : Nat} {stt : Nat → Nat} {cA : Nat → ClassId} {X : pz_X} : va_D (pz_Z base) (pz_wd base stt cA X) := by
  have key : ∀ (i : Nat) (p : Nat × va_E), (pz_wd base stt cA X)[i]? = some p → p.1 = base + i := by
    intro i p h
    unfold pz_wd at h
    rw [List.getElem?_mapIdx] at h
    cases hx : X.1.1[i]? with
    | none => rw [hx] at h; cases h
    | some sh => rw [hx] at h; cases h; rfl
  refine ⟨fun i j p q hi hj e => ?_, fun k q hk => ?_⟩
  · have a := key i p hi
    have b := key j q hj
    omega
  · have a := key k q hk
    show base ≤ q.1
    omega
theorem pz_up_ne {M : pz_M} {k j : Nat} {z : Int} {a : Nat} (h : a ≠ k) : pz_up M k j z a = M a := by
  funext b
  simp [pz_up, h]
theorem pz_up_at {M : pz_M} {k j : Nat} {z : Int} : pz_up M k j z k = fun b => if b = j then z else M k b := by
  funext b
  simp [pz_up]
theorem pz_okx_up {ss : List (Nat × Nat)} {stc : Nat → Nat → Int} {X : pz_X} {k j : Nat} {z : Int} {sh : Nat × Nat} (h : pz_okx ss stc X) (hs : X.1.1[k]? = some sh) (hz : pz_okv (pz_tg sh j, z)) : pz_okx ss stc (X.1, pz_up X.2 k j z) := by
  obtain ⟨h1, h2, h3, h4⟩ := h
  refine ⟨fun k' sh' hk => ⟨(h1 k' sh' hk).1, fun j' hj => ?_⟩, h2, h3, fun i j' sh' hi hj => ?_⟩
  · by_cases e : k' = k
    · subst e
      have hk : X.1.1[k']? = some sh' := hk
      rw [hs] at hk
      cases hk
      show pz_okv (pz_tg sh j', pz_up X.2 k' j z k' j')
      rw [pz_up_at]
      by_cases e2 : j' = j
      · subst e2
        simpa using hz
      · simpa [e2] using (h1 k' sh hs).2 j' hj
    · show pz_okv (pz_tg sh' j', pz_up X.2 k j z k' j')
      rw [pz_up_ne e]
      exact (h1 k' sh' hk).2 j' hj
  · have hl : k < X.1.1.length := (List.getElem?_eq_some_iff.mp hs).1
    show pz_up X.2 k j z (4096 + i) j' = stc i j'
    rw [pz_up_ne (by omega)]
    exact h4 i j' sh' hi hj
theorem pz_w32_ok (z : Int) : pz_okv (0, pz_w32 z) := by
  have a := Int32.le_toInt (Int32.ofInt z)
  have b := Int32.toInt_lt (Int32.ofInt z)
  exact ⟨a, b⟩
theorem pz_i32_ok (x : Int32) : pz_okv (0, x.toInt) := ⟨Int32.le_toInt x, Int32.toInt_lt x⟩
theorem pz_i64_ok (x : Int64) : pz_okv (1, x.toInt) := ⟨Int64.le_toInt x, Int64.toInt_lt x⟩
theorem pz_of32 (x : Int32) : Int32.ofInt x.toInt = x := Int32.ofInt_toInt x
theorem pz_of64 (x : Int64) : Int64.ofInt x.toInt = x := Int64.ofInt_toInt x
theorem pz_to32 {z : Int} (h : pz_okv (0, z)) : (Int32.ofInt z).toInt = z := Int32.toInt_ofInt_of_le h.1 h.2
theorem pz_to64 {z : Int} (h : pz_okv (1, z)) : (Int64.ofInt z).toInt = z := Int64.toInt_ofInt_of_le h.1 h.2
theorem pz_eq32 {a b : Int} (ha : pz_okv (0, a)) (hb : pz_okv (0, b)) : Int32.ofInt a = Int32.ofInt b ↔ a = b := ⟨fun h => by rw [← pz_to32 ha, h, pz_to32 hb], fun h => by rw [h]⟩
theorem pz_lt32 {a b : Int} (ha : pz_okv (0, a)) (hb : pz_okv (0, b)) : Int32.ofInt a < Int32.ofInt b ↔ a < b := by rw [Int32.lt_iff_toInt_lt, pz_to32 ha, pz_to32 hb]
theorem pz_le32 {a b : Int} (ha : pz_okv (0, a)) (hb : pz_okv (0, b)) : Int32.ofInt a ≤ Int32.ofInt b ↔ a ≤ b := by rw [Int32.le_iff_toInt_le, pz_to32 ha, pz_to32 hb]
theorem pz_eq64 {a b : Int} (ha : pz_okv (1, a)) (hb : pz_okv (1, b)) : Int64.ofInt a = Int64.ofInt b ↔ a = b := ⟨fun h => by rw [← pz_to64 ha, h, pz_to64 hb], fun h => by rw [h]⟩
theorem pz_lt64 {a b : Int} (ha : pz_okv (1, a)) (hb : pz_okv (1, b)) : Int64.ofInt a < Int64.ofInt b ↔ a < b := by rw [Int64.lt_iff_toInt_lt, pz_to64 ha, pz_to64 hb]
theorem pz_zero32 : pz_okv (0, 0) := ⟨by decide, by decide⟩
theorem pz_in32 {i : Int} {n : Nat} (h0 : 0 ≤ i) (hn : i < n) (hs : n < 2147483648) : vp_in (Int32.ofInt i) n ∧ (Int32.ofInt i).toNatClampNeg = i.toNat := by
  have hk : pz_okv (0, i) := ⟨by omega, by omega⟩
  have e : (Int32.ofInt i).toNatClampNeg = i.toNat := by
    show (Int32.ofInt i).toInt.toNat = i.toNat
    rw [pz_to32 hk]
  refine ⟨?_, e⟩
  unfold vp_in
  rw [e]
  intro q
  rcases q with q | q
  · have := (pz_lt32 hk pz_zero32).mp q
    omega
  · omega
