/-! THE PURE MACHINE IS SOUND: locals, numbers, and the straight instructions -/
def pz_lv (base : Nat) (stt : Nat → Nat) (ls : List pz_V) : List (Nat × Value) := (ls.zipIdx).filterMap (fun q => if q.1.1 < 3 then some (q.2, pz_tv base stt q.1) else none)
theorem pz_lv_in {base : Nat} {stt : Nat → Nat} {ls : List pz_V} {i : Nat} {v : pz_V} (h : ls[i]? = some v) (hv : v.1 < 3) : (i, pz_tv base stt v) ∈ pz_lv base stt ls := by
  unfold pz_lv
  rw [List.mem_filterMap]
  refine ⟨(v, i), ?_, by simp [hv]⟩
  rw [List.mem_zipIdx_iff_getElem?]
  exact h
theorem pz_lv_of {base : Nat} {stt : Nat → Nat} {ls : List pz_V} {i : Nat} {w : Value} (h : (i, w) ∈ pz_lv base stt ls) : ∃ v, ls[i]? = some v ∧ v.1 < 3 ∧ w = pz_tv base stt v := by
  unfold pz_lv at h
  rw [List.mem_filterMap] at h
  obtain ⟨⟨v, k⟩, hm, he⟩ := h
  by_cases hv : v.1 < 3
  · rw [if_pos hv] at he
    cases he
    exact ⟨v, List.mem_zipIdx_iff_getElem?.mp hm, hv, rfl⟩
  · rw [if_neg hv] at he
    cases he
theorem pz_lr_has {base : Nat} {stt : Nat → Nat} {mls : Array Slot} {nL : Nat} {ls : List pz_V} (h : pz_lr base stt mls nL ls) : lv_has mls nL (pz_lv base stt ls) := by
  refine ⟨h.1, h.2.2.1, fun q hq => ?_⟩
  obtain ⟨i, w⟩ := q
  obtain ⟨v, a, b, rfl⟩ := pz_lv_of hq
  exact (h.2.2.2 i v a b).1
theorem pz_cat (base : Nat) (stt : Nat → Nat) (v : pz_V) (h : v.1 ≠ 1) : (pz_tv base stt v).category = 1 := by
  obtain ⟨t, z⟩ := v
  match t, h with
  | 0, _ => rfl
  | t + 2, _ => simp only [pz_tv]; split <;> rfl
theorem pz_cat1 (base : Nat) (stt : Nat → Nat) (z : Int) : (pz_tv base stt (1, z)).category = 2 := rfl
theorem pz_sp_len (ls : List pz_V) (i : Nat) : (pz_sp ls i).length = ls.length := by
  cases i with
  | zero => rfl
  | succ j =>
    simp only [pz_sp]
    split
    · simp
    · rfl
theorem pz_sp_at {ls : List pz_V} {i j : Nat} {v : pz_V} (h : (pz_sp ls i)[j]? = some v) (hv : v.1 < 3) : ls[j]? = some v ∧ (j + 1 = i → v.1 ≠ 1) := by
  cases i with
  | zero => exact ⟨h, fun e => by omega⟩
  | succ k =>
    simp only [pz_sp] at h
    split at h
    next z hz =>
      rw [List.getElem?_set] at h
      by_cases e : k = j
      · subst e
        rw [if_pos rfl] at h
        split at h
        · cases h
          exact absurd hv (by decide)
        · cases h
      · rw [if_neg e] at h
        exact ⟨h, fun e2 => absurd e2 (by omega)⟩
    next hz =>
      refine ⟨h, fun e2 e3 => ?_⟩
      obtain ⟨t, z⟩ := v
      have e4 : k = j := by omega
      subst e4
      have e5 : t = 1 := e3
      subst e5
      exact hz z h
theorem pz_lr_s1 {base : Nat} {stt : Nat → Nat} {mls mls' : Array Slot} {nL i : Nat} {ls : List pz_V} {v : pz_V} (h : pz_lr base stt mls nL ls) (hs : lv_has mls' nL ((i, pz_tv base stt v) :: (pz_lv base stt ls).filter (fun q => !(q.1 == i) && !(q.1 + 1 == i && q.2.category == 2)))) (hv : pz_okv v) : pz_lr base stt mls' nL (pz_s1 ls i v) := by
  refine ⟨hs.1, by unfold pz_s1; rw [List.length_set, pz_sp_len]; exact h.2.1, hs.2.1, fun j w hj hw => ?_⟩
  unfold pz_s1 at hj
  rw [List.getElem?_set] at hj
  by_cases e : i = j
  · subst e
    rw [if_pos rfl] at hj
    split at hj
    · cases hj
      exact ⟨hs.2.2 (i, pz_tv base stt _) List.mem_cons_self, hv⟩
    · cases hj
  · rw [if_neg e] at hj
    obtain ⟨a, b⟩ := pz_sp_at hj hw
    refine ⟨hs.2.2 (j, pz_tv base stt w) (List.mem_cons_of_mem _ (List.mem_filter.mpr ⟨pz_lv_in a hw, ?_⟩)), (h.2.2.2 j w a hw).2⟩
    have e1 : (j == i) = false := by simpa using fun q => e q.symm
    simp only [e1, Bool.not_false, Bool.true_and]
    by_cases e2 : j + 1 = i
    · rw [pz_cat base stt w (b e2)]
      simp
    · have e3 : (j + 1 == i) = false := by simpa using e2
      simp [e3]
theorem pz_lr_s2 {base : Nat} {stt : Nat → Nat} {mls mls' : Array Slot} {nL i : Nat} {ls : List pz_V} {v : pz_V} (h : pz_lr base stt mls nL ls) (hs : lv_has mls' nL ((i, pz_tv base stt v) :: (pz_lv base stt ls).filter (fun q => !(q.1 == i) && (!(q.1 == i + 1) && !(q.1 + 1 == i && q.2.category == 2))))) (hv : pz_okv v) : pz_lr base stt mls' nL (pz_s2 ls i v) := by
  refine ⟨hs.1, by unfold pz_s2; rw [List.length_set, List.length_set, pz_sp_len]; exact h.2.1, hs.2.1, fun j w hj hw => ?_⟩
  unfold pz_s2 at hj
  rw [List.getElem?_set] at hj
  by_cases e : i = j
  · subst e
    rw [if_pos rfl] at hj
    split at hj
    · cases hj
      exact ⟨hs.2.2 (i, pz_tv base stt _) List.mem_cons_self, hv⟩
    · cases hj
  · rw [if_neg e, List.getElem?_set] at hj
    by_cases e0 : i + 1 = j
    · rw [if_pos e0] at hj
      split at hj
      · cases hj
        exact absurd hw (by decide)
      · cases hj
    rw [if_neg e0] at hj
    obtain ⟨a, b⟩ := pz_sp_at hj hw
    refine ⟨hs.2.2 (j, pz_tv base stt w) (List.mem_cons_of_mem _ (List.mem_filter.mpr ⟨pz_lv_in a hw, ?_⟩)), (h.2.2.2 j w a hw).2⟩
    have e1 : (j == i) = false := by simpa using fun q => e q.symm
    have e9 : (j == i + 1) = false := by simpa using fun q => e0 q.symm
    simp only [e1, e9, Bool.not_false, Bool.true_and]
    by_cases e2 : j + 1 = i
    · rw [pz_cat base stt w (b e2)]
      simp
    · have e3 : (j + 1 == i) = false := by simpa using e2
      simp [e3]
section SN
variable {base : Nat} {stt : Nat → Nat} {cA : Nat → ClassId} {D : va_G} {ss : List (Nat × Nat)} {stc : Nat → Nat → Int}
variable {p : Program} {l : Launch} {e : Env} {R : Room} {s : State} {m : MethodId} {args : Array Value} {below : List Frame} {meth : Method} {c : Code} {Q : State → Prop} {cc : ByteArray} {own : String} {nL : Nat}
def pz_cx (base : Nat) (stt : Nat → Nat) (cA : Nat → ClassId) (D : va_G) (ss : List (Nat × Nat)) (stc : Nat → Nat → Int) (p : Program) (R : Room) (s : State) (m : MethodId) (args : Array Value) (c : Code) (cc : ByteArray) (own : String) (nL : Nat) : Prop :=
  p.tables.exec = Jvm.exec ∧ c.code = cc ∧ c.maxLocals = nL ∧ s.vm.findClass own = some m.cls ∧ (∀ w ∈ lw_g, w.before args s = true) ∧ va_K D pz_cls (pz_tys cA) s ∧ pz_st base stt ss stc s ∧ base ≤ s.heap.size ∧ 1 ≤ R.frames ∧ 64 ≤ R.locals
/-- from every state of the machine that the pure one stands for, the machine comes to Q -/
def pz_N (base : Nat) (stt : Nat → Nat) (cA : Nat → ClassId) (D : va_G) (ss : List (Nat × Nat)) (stc : Nat → Nat → Int) (p : Program) (l : Launch) (e : Env) (R : Room) (s : State) (m : MethodId) (args : Array Value) (below : List Frame) (meth : Method) (c : Code) (Q : State → Prop) (nL : Nat) (pc : Nat) (ls st : List pz_V) (X : pz_X) : Prop :=
  ∀ (H : Heap) (locs : List Loc) (mls : Array Slot), pz_r base stt cA D ss stc X H → va_S (pz_Z base) s.heap H locs → pz_lr base stt mls nL ls → pz_okl st → W p l e R s m args below meth c H locs X.1.2.2.1 X.1.2.2.2.1 Q (F0 m pc mls (st.map (pz_tv base stt)))
variable {pc : Nat} {ls st : List pz_V} {X : pz_X}
theorem sn_iconst {n : Int} (h : pz_cx base stt cA D ss stc p R s m args c cc own nL) (hd : decode cc pc = .ok (.iconst n, 1)) (hn : pz_okv (0, n)) (k : pz_N base stt cA D ss stc p l e R s m args below meth c Q nL (pc + 1) ls ((0, n) :: st) X) : pz_N base stt cA D ss stc p l e R s m args below meth c Q nL pc ls st X :=
  fun H locs mls hR hS hl hs => lv_iconst h.1 h.2.1 hd rfl (k H locs mls hR hS hl (pz_okl_c.mpr ⟨⟨(by decide : (0 : Nat) < 3), hn⟩, hs⟩))
theorem sn_bipush {n : Int} (h : pz_cx base stt cA D ss stc p R s m args c cc own nL) (hd : decode cc pc = .ok (.bipush n, 2)) (hn : -128 ≤ n ∧ n < 128) (k : pz_N base stt cA D ss stc p l e R s m args below meth c Q nL (pc + 2) ls ((0, n) :: st) X) : pz_N base stt cA D ss stc p l e R s m args below meth c Q nL pc ls st X :=
  fun H locs mls hR hS hl hs => lv_bipush h.1 h.2.1 hd (v := Int32.ofInt n) (by rw [← Int32.toInt_inj, Int8.toInt_toInt32, Int8.toInt_ofInt_of_le (by omega) (by omega), Int32.toInt_ofInt_of_le (by omega) (by omega)]) (k H locs mls hR hS hl (pz_okl_c.mpr ⟨⟨(by decide : (0 : Nat) < 3), ⟨by omega, by omega⟩⟩, hs⟩))
theorem sn_sipush {n : Int} (h : pz_cx base stt cA D ss stc p R s m args c cc own nL) (hd : decode cc pc = .ok (.sipush n, 3)) (hn : -32768 ≤ n ∧ n < 32768) (k : pz_N base stt cA D ss stc p l e R s m args below meth c Q nL (pc + 3) ls ((0, n) :: st) X) : pz_N base stt cA D ss stc p l e R s m args below meth c Q nL pc ls st X :=
  fun H locs mls hR hS hl hs => lv_sipush h.1 h.2.1 hd (v := Int32.ofInt n) (by rw [← Int32.toInt_inj, Int16.toInt_toInt32, Int16.toInt_ofInt_of_le (by omega) (by omega), Int32.toInt_ofInt_of_le (by omega) (by omega)]) (k H locs mls hR hS hl (pz_okl_c.mpr ⟨⟨(by decide : (0 : Nat) < 3), ⟨by omega, by omega⟩⟩, hs⟩))
theorem sn_lconst {n : Fin 2} (h : pz_cx base stt cA D ss stc p R s m args c cc own nL) (hd : decode cc pc = .ok (.lconst n, 1)) (k : pz_N base stt cA D ss stc p l e R s m args below meth c Q nL (pc + 1) ls ((1, (n : Nat)) :: st) X) : pz_N base stt cA D ss stc p l e R s m args below meth c Q nL pc ls st X :=
  fun H locs mls hR hS hl hs => lv_lconst h.1 h.2.1 hd (v := Int64.ofInt (n : Nat)) (by simp [Int64.ofInt_eq_ofNat]) (k H locs mls hR hS hl (pz_okl_c.mpr ⟨⟨(by decide : (1 : Nat) < 3), ⟨by omega, by omega⟩⟩, hs⟩))
theorem sn_null (h : pz_cx base stt cA D ss stc p R s m args c cc own nL) (hd : decode cc pc = .ok (.aconst_null, 1)) (k : pz_N base stt cA D ss stc p l e R s m args below meth c Q nL (pc + 1) ls ((2, -1) :: st) X) : pz_N base stt cA D ss stc p l e R s m args below meth c Q nL pc ls st X :=
  fun H locs mls hR hS hl hs => lv_null h.1 h.2.1 hd (k H locs mls hR hS hl (pz_okl_c.mpr ⟨⟨by decide, trivial⟩, hs⟩))
theorem sn_ldc {i : Nat} {n : Int32} (h : pz_cx base stt cA D ss stc p R s m args c cc own nL) (hd : decode cc pc = .ok (.ldc i, 2)) (hw : Cond.constant own i n ∈ lw_g) (k : pz_N base stt cA D ss stc p l e R s m args below meth c Q nL (pc + 2) ls ((0, n.toInt) :: st) X) : pz_N base stt cA D ss stc p l e R s m args below meth c Q nL pc ls st X :=
  fun H locs mls hR hS hl hs => lv_ldc h.1 h.2.1 (v := Int32.ofInt n.toInt) h.2.2.2.1 (by rw [pz_of32]; exact h.2.2.2.2.1 _ hw) hd (k H locs mls hR hS hl (pz_okl_c.mpr ⟨⟨by show 0 < 3; decide, pz_i32_ok n⟩, hs⟩))
theorem sn_ldcw {i : Nat} {n : Int32} (h : pz_cx base stt cA D ss stc p R s m args c cc own nL) (hd : decode cc pc = .ok (.ldc_w i, 3)) (hw : Cond.constant own i n ∈ lw_g) (k : pz_N base stt cA D ss stc p l e R s m args below meth c Q nL (pc + 3) ls ((0, n.toInt) :: st) X) : pz_N base stt cA D ss stc p l e R s m args below meth c Q nL pc ls st X :=
  fun H locs mls hR hS hl hs => lv_ldcw h.1 h.2.1 (v := Int32.ofInt n.toInt) h.2.2.2.1 (by rw [pz_of32]; exact h.2.2.2.2.1 _ hw) hd (k H locs mls hR hS hl (pz_okl_c.mpr ⟨⟨by show 0 < 3; decide, pz_i32_ok n⟩, hs⟩))
theorem sn_ldc2 {i : Nat} {n : Int64} (h : pz_cx base stt cA D ss stc p R s m args c cc own nL) (hd : decode cc pc = .ok (.ldc2_w i, 3)) (hw : Cond.constantLong own i n ∈ lw_g) (k : pz_N base stt cA D ss stc p l e R s m args below meth c Q nL (pc + 3) ls ((1, n.toInt) :: st) X) : pz_N base stt cA D ss stc p l e R s m args below meth c Q nL pc ls st X :=
  fun H locs mls hR hS hl hs => lv_ldc2 h.1 h.2.1 (v := Int64.ofInt n.toInt) h.2.2.2.1 (by rw [pz_of64]; exact h.2.2.2.2.1 _ hw) hd (k H locs mls hR hS hl (pz_okl_c.mpr ⟨⟨by show 1 < 3; decide, pz_i64_ok n⟩, hs⟩))
theorem sn_iload {i : Nat} {x : Int} (h : pz_cx base stt cA D ss stc p R s m args c cc own nL) (hd : decode cc pc = .ok (.iload i, 2)) (hx : ls[i]? = some (0, x)) (k : pz_N base stt cA D ss stc p l e R s m args below meth c Q nL (pc + 2) ls ((0, x) :: st) X) : pz_N base stt cA D ss stc p l e R s m args below meth c Q nL pc ls st X :=
  fun H locs mls hR hS hl hs => lv_iload h.1 h.2.1 hd (hl.2.2.2 i _ hx (by show 0 < 3; decide)).1 (k H locs mls hR hS hl (pz_okl_c.mpr ⟨⟨by show 0 < 3; decide, (hl.2.2.2 i _ hx (by show 0 < 3; decide)).2⟩, hs⟩))
theorem sn_iload_n {i : Nat} {j : Fin 4} {x : Int} (h : pz_cx base stt cA D ss stc p R s m args c cc own nL) (hd : decode cc pc = .ok (.iload_n j, 1)) (hj : (j : Nat) = i) (hx : ls[i]? = some (0, x)) (k : pz_N base stt cA D ss stc p l e R s m args below meth c Q nL (pc + 1) ls ((0, x) :: st) X) : pz_N base stt cA D ss stc p l e R s m args below meth c Q nL pc ls st X :=
  fun H locs mls hR hS hl hs => lv_iload_n h.1 h.2.1 hd hj (hl.2.2.2 i _ hx (by show 0 < 3; decide)).1 (k H locs mls hR hS hl (pz_okl_c.mpr ⟨⟨by show 0 < 3; decide, (hl.2.2.2 i _ hx (by show 0 < 3; decide)).2⟩, hs⟩))
theorem sn_lload {i : Nat} {x : Int} (h : pz_cx base stt cA D ss stc p R s m args c cc own nL) (hd : decode cc pc = .ok (.lload i, 2)) (hx : ls[i]? = some (1, x)) (k : pz_N base stt cA D ss stc p l e R s m args below meth c Q nL (pc + 2) ls ((1, x) :: st) X) : pz_N base stt cA D ss stc p l e R s m args below meth c Q nL pc ls st X :=
  fun H locs mls hR hS hl hs => lv_lload h.1 h.2.1 hd (hl.2.2.2 i _ hx (by show 1 < 3; decide)).1 (k H locs mls hR hS hl (pz_okl_c.mpr ⟨⟨by show 1 < 3; decide, (hl.2.2.2 i _ hx (by show 1 < 3; decide)).2⟩, hs⟩))
theorem sn_lload_n {i : Nat} {j : Fin 4} {x : Int} (h : pz_cx base stt cA D ss stc p R s m args c cc own nL) (hd : decode cc pc = .ok (.lload_n j, 1)) (hj : (j : Nat) = i) (hx : ls[i]? = some (1, x)) (k : pz_N base stt cA D ss stc p l e R s m args below meth c Q nL (pc + 1) ls ((1, x) :: st) X) : pz_N base stt cA D ss stc p l e R s m args below meth c Q nL pc ls st X :=
  fun H locs mls hR hS hl hs => lv_lload_n h.1 h.2.1 hd hj (hl.2.2.2 i _ hx (by show 1 < 3; decide)).1 (k H locs mls hR hS hl (pz_okl_c.mpr ⟨⟨by show 1 < 3; decide, (hl.2.2.2 i _ hx (by show 1 < 3; decide)).2⟩, hs⟩))
theorem sn_aload {i : Nat} {x : Int} (h : pz_cx base stt cA D ss stc p R s m args c cc own nL) (hd : decode cc pc = .ok (.aload i, 2)) (hx : ls[i]? = some (2, x)) (k : pz_N base stt cA D ss stc p l e R s m args below meth c Q nL (pc + 2) ls ((2, x) :: st) X) : pz_N base stt cA D ss stc p l e R s m args below meth c Q nL pc ls st X := by
  intro H locs mls hR hS hl hs
  have h1 := (hl.2.2.2 i _ hx (by show 2 < 3; decide)).1
  have h2 := k H locs mls hR hS hl (pz_okl_c.mpr ⟨⟨by show 2 < 3; decide, trivial⟩, hs⟩)
  rw [List.map_cons] at h2
  by_cases hz : x < 0
  · rw [show pz_tv base stt (2, x) = .null from if_pos hz] at h1 h2
    exact lv_aloadN h.1 h.2.1 hd h1 h2
  · rw [show pz_tv base stt (2, x) = .ref (pz_ad base stt x.toNat) from if_neg hz] at h1 h2
    exact lv_aload h.1 h.2.1 hd h1 h2
theorem sn_aload_n {i : Nat} {j : Fin 4} {x : Int} (h : pz_cx base stt cA D ss stc p R s m args c cc own nL) (hd : decode cc pc = .ok (.aload_n j, 1)) (hj : (j : Nat) = i) (hx : ls[i]? = some (2, x)) (k : pz_N base stt cA D ss stc p l e R s m args below meth c Q nL (pc + 1) ls ((2, x) :: st) X) : pz_N base stt cA D ss stc p l e R s m args below meth c Q nL pc ls st X := by
  intro H locs mls hR hS hl hs
  have h1 := (hl.2.2.2 i _ hx (by show 2 < 3; decide)).1
  have h2 := k H locs mls hR hS hl (pz_okl_c.mpr ⟨⟨by show 2 < 3; decide, trivial⟩, hs⟩)
  rw [List.map_cons] at h2
  by_cases hz : x < 0
  · rw [show pz_tv base stt (2, x) = .null from if_pos hz] at h1 h2
    exact lv_aload_nN h.1 h.2.1 hd hj h1 h2
  · rw [show pz_tv base stt (2, x) = .ref (pz_ad base stt x.toNat) from if_neg hz] at h1 h2
    exact lv_aload_n h.1 h.2.1 hd hj h1 h2
theorem sn_istore {i : Nat} {x : Int} (h : pz_cx base stt cA D ss stc p R s m args c cc own nL) (hd : decode cc pc = .ok (.istore i, 2)) (hi : i < ls.length) (k : pz_N base stt cA D ss stc p l e R s m args below meth c Q nL (pc + 2) (pz_s1 ls i (0, x)) st X) : pz_N base stt cA D ss stc p l e R s m args below meth c Q nL pc ls ((0, x) :: st) X :=
  fun H locs mls hR hS hl hs => lv_istore h.1 h.2.1 hd (pz_lr_has hl) (by rw [← hl.2.1]; exact hi) rfl (fun mls' hl' => k H locs mls' hR hS (pz_lr_s1 hl hl' (pz_okl_c.mp hs).1.2) (pz_okl_c.mp hs).2)
theorem sn_istore_n {i : Nat} {j : Fin 4} {x : Int} (h : pz_cx base stt cA D ss stc p R s m args c cc own nL) (hd : decode cc pc = .ok (.istore_n j, 1)) (hj : (j : Nat) = i) (hi : i < ls.length) (k : pz_N base stt cA D ss stc p l e R s m args below meth c Q nL (pc + 1) (pz_s1 ls i (0, x)) st X) : pz_N base stt cA D ss stc p l e R s m args below meth c Q nL pc ls ((0, x) :: st) X :=
  fun H locs mls hR hS hl hs => lv_istore_n h.1 h.2.1 hd hj (pz_lr_has hl) (by rw [← hl.2.1]; exact hi) rfl (fun mls' hl' => k H locs mls' hR hS (pz_lr_s1 hl hl' (pz_okl_c.mp hs).1.2) (pz_okl_c.mp hs).2)
theorem sn_lstore {i : Nat} {x : Int} (h : pz_cx base stt cA D ss stc p R s m args c cc own nL) (hd : decode cc pc = .ok (.lstore i, 2)) (hi : i + 1 < ls.length) (k : pz_N base stt cA D ss stc p l e R s m args below meth c Q nL (pc + 2) (pz_s2 ls i (1, x)) st X) : pz_N base stt cA D ss stc p l e R s m args below meth c Q nL pc ls ((1, x) :: st) X :=
  fun H locs mls hR hS hl hs => lv_lstore h.1 h.2.1 hd (pz_lr_has hl) (by rw [← hl.2.1]; exact hi) rfl (fun mls' hl' => k H locs mls' hR hS (pz_lr_s2 hl hl' (pz_okl_c.mp hs).1.2) (pz_okl_c.mp hs).2)
theorem sn_lstore_n {i : Nat} {j : Fin 4} {x : Int} (h : pz_cx base stt cA D ss stc p R s m args c cc own nL) (hd : decode cc pc = .ok (.lstore_n j, 1)) (hj : (j : Nat) = i) (hi : i + 1 < ls.length) (k : pz_N base stt cA D ss stc p l e R s m args below meth c Q nL (pc + 1) (pz_s2 ls i (1, x)) st X) : pz_N base stt cA D ss stc p l e R s m args below meth c Q nL pc ls ((1, x) :: st) X :=
  fun H locs mls hR hS hl hs => lv_lstore_n h.1 h.2.1 hd hj (pz_lr_has hl) (by rw [← hl.2.1]; exact hi) rfl (fun mls' hl' => k H locs mls' hR hS (pz_lr_s2 hl hl' (pz_okl_c.mp hs).1.2) (pz_okl_c.mp hs).2)
theorem sn_astore {i : Nat} {x : Int} (h : pz_cx base stt cA D ss stc p R s m args c cc own nL) (hd : decode cc pc = .ok (.astore i, 2)) (hi : i < ls.length) (k : pz_N base stt cA D ss stc p l e R s m args below meth c Q nL (pc + 2) (pz_s1 ls i (2, x)) st X) : pz_N base stt cA D ss stc p l e R s m args below meth c Q nL pc ls ((2, x) :: st) X := by
  intro H locs mls hR hS hl hs
  have k2 := fun mls' hl' => k H locs mls' hR hS (pz_lr_s1 (mls' := mls') (v := (2, x)) hl hl' (pz_okl_c.mp hs).1.2) (pz_okl_c.mp hs).2
  rw [List.map_cons]
  by_cases hz : x < 0
  · rw [show pz_tv base stt (2, x) = .null from if_pos hz] at k2 ⊢
    exact lv_astoreN h.1 h.2.1 hd (pz_lr_has hl) (by rw [← hl.2.1]; exact hi) rfl k2
  · rw [show pz_tv base stt (2, x) = .ref (pz_ad base stt x.toNat) from if_neg hz] at k2 ⊢
    exact lv_astore h.1 h.2.1 hd (pz_lr_has hl) (by rw [← hl.2.1]; exact hi) rfl k2
theorem sn_astore_n {i : Nat} {j : Fin 4} {x : Int} (h : pz_cx base stt cA D ss stc p R s m args c cc own nL) (hd : decode cc pc = .ok (.astore_n j, 1)) (hj : (j : Nat) = i) (hi : i < ls.length) (k : pz_N base stt cA D ss stc p l e R s m args below meth c Q nL (pc + 1) (pz_s1 ls i (2, x)) st X) : pz_N base stt cA D ss stc p l e R s m args below meth c Q nL pc ls ((2, x) :: st) X := by
  intro H locs mls hR hS hl hs
  have k2 := fun mls' hl' => k H locs mls' hR hS (pz_lr_s1 (mls' := mls') (v := (2, x)) hl hl' (pz_okl_c.mp hs).1.2) (pz_okl_c.mp hs).2
  rw [List.map_cons]
  by_cases hz : x < 0
  · rw [show pz_tv base stt (2, x) = .null from if_pos hz] at k2 ⊢
    exact lv_astore_nN h.1 h.2.1 hd hj (pz_lr_has hl) (by rw [← hl.2.1]; exact hi) rfl k2
  · rw [show pz_tv base stt (2, x) = .ref (pz_ad base stt x.toNat) from if_neg hz] at k2 ⊢
    exact lv_astore_n h.1 h.2.1 hd hj (pz_lr_has hl) (by rw [← hl.2.1]; exact hi) rfl k2
theorem sn_iinc {i : Nat} {x n : Int} (h : pz_cx base stt cA D ss stc p R s m args c cc own nL) (hd : decode cc pc = .ok (.iinc i n, 3)) (hx : ls[i]? = some (0, x)) (k : pz_N base stt cA D ss stc p l e R s m args below meth c Q nL (pc + 3) (pz_s1 ls i (0, pz_w32 (x + n))) st X) : pz_N base stt cA D ss stc p l e R s m args below meth c Q nL pc ls st X := by
  intro H locs mls hR hS hl hs
  obtain ⟨j, hj⟩ := List.getElem?_of_mem (pz_lv_in (base := base) (stt := stt) hx (by show 0 < 3; decide))
  refine lv_iinc (v := Int32.ofInt (pz_w32 (x + n))) h.1 h.2.1 hd (pz_lr_has hl) hj ?_ (by rw [← hl.2.1]; exact (List.getElem?_eq_some_iff.mp hx).1) rfl (fun mls' hl' => k H locs mls' hR hS (pz_lr_s1 hl hl' (pz_w32_ok _)) hs)
  show Int32.ofInt x + Int32.ofInt n = Int32.ofInt (Int32.ofInt (x + n)).toInt
  rw [pz_of32, Int32.ofInt_add]
end SN
