/-! THE PURE MACHINE IS SOUND: new long[n][k] -/
section SN9
variable {base : Nat} {stt : Nat → Nat} {cA : Nat → ClassId} {D : va_G} {ss : List (Nat × Nat)} {stc : Nat → Nat → Int}
variable {p : Program} {l : Launch} {e : Env} {R : Room} {s : State} {m : MethodId} {args : Array Value} {below : List Frame} {meth : Method} {c : Code} {Q : State → Prop} {cc : ByteArray} {own : String} {nL : Nat}
variable {pc : Nat} {ls st : List pz_V} {X : pz_X}
theorem pz_arrV_c {cI : ClassId} {N : Nat} {f g : Nat → Value} (h : ∀ j, j < N → f j = g j) : arrV cI N f = arrV cI N g := by
  unfold arrV
  congr 2
  funext j
  exact h j.val j.isLt
theorem pz_outer (c : ClassId) (N h0 : Nat) : ∀ i : Nat, Jvm.Free.Multi.outerC c N h0 i = arrV c N (fun j => va_rf (if j < i then some (h0 + 1 + j) else none))
  | 0 => by
    show ({ cls := c, slots := Array.replicate N .null, vm := .none } : Cell) = _
    rw [arrV_new]
    refine congrArg (arrV c N) (funext fun j => ?_)
    simp [va_rf]
  | i + 1 => by
    show (Jvm.Free.Multi.outerC c N h0 i).setSlot i (.ref (h0 + 1 + i)) = _
    rw [pz_outer c N h0 i, arrV_store]
    refine congrArg (arrV c N) (funext fun j => ?_)
    by_cases e : j = i
    · subst e
      simp [updV, va_rf]
    · by_cases h : j < i
      · simp [updV, e, h, Nat.lt_succ_of_lt h]
      · simp [updV, e, h, show ¬ j < i + 1 by omega]
def pz_mm (M : pz_M) (k n : Nat) : pz_M := fun p q => if p < k then M p q else if p = k then (k : Int) + 1 + q else if p ≤ k + n then 0 else M p q
theorem pz_okx_m {N K : Nat} (h : pz_okx ss stc X) (hl : X.1.1.length + (1 + N) ≤ 4096) (hN : N ≤ 60000) (hK : K ≤ 60000) {c9 s9 : Nat} : pz_okx ss stc ((X.1.1 ++ (104, N) :: List.replicate N (101, K), X.1.2.1, c9, s9, 0), pz_mm X.2 X.1.1.length N) := by
  obtain ⟨h1, h2, h3, h4⟩ := h
  refine ⟨fun k sh hk => ?_, ?_, h3, fun i j sh hi hj => ?_⟩
  · have hk : (X.1.1 ++ (104, N) :: List.replicate N (101, K))[k]? = some sh := hk
    by_cases hl2 : k < X.1.1.length
    · rw [List.getElem?_append_left hl2] at hk
      refine ⟨(h1 k sh hk).1, fun j hj => ?_⟩
      show pz_okv (pz_tg sh j, pz_mm X.2 X.1.1.length N k j)
      unfold pz_mm
      rw [if_pos hl2]
      exact (h1 k sh hk).2 j hj
    · rw [List.getElem?_append_right (by omega)] at hk
      have hle : k - X.1.1.length < 1 + N := by
        have := (List.getElem?_eq_some_iff.mp hk).1
        simp at this
        omega
      rcases List.mem_cons.mp (List.mem_of_getElem? hk) with e1 | e1
      · subst e1
        exact ⟨Or.inr ⟨by show 100 ≤ 104; omega, by show 104 ≤ 104; omega, hN⟩, fun j _ => trivial⟩
      · have e2 := List.eq_of_mem_replicate e1
        subst e2
        refine ⟨Or.inr ⟨by show 100 ≤ 101; omega, by show 101 ≤ 104; omega, hK⟩, fun j hj => ?_⟩
        have hne : k ≠ X.1.1.length := by
          intro q
          subst q
          rw [Nat.sub_self] at hk
          cases hk
        show pz_okv (1, pz_mm X.2 X.1.1.length N k j)
        unfold pz_mm
        rw [if_neg hl2, if_neg hne, if_pos (by omega)]
        exact ⟨by decide, by decide⟩
  · show (X.1.1 ++ (104, N) :: List.replicate N (101, K)).length ≤ 4096
    simp
    omega
  · show pz_mm X.2 X.1.1.length N (4096 + i) j = stc i j
    unfold pz_mm
    rw [if_neg (by omega), if_neg (by omega), if_neg (by omega)]
    exact h4 i j sh hi hj
theorem sn_multi {idx : Nat} {n k : Int} (h : pz_cx base stt cA D ss stc p R s m args c cc own nL) (hd : decode cc pc = .ok (.multianewarray idx 2, 4)) (hcl : Cond.classLink own idx ("[" ++ (FieldType.array .long).toString) ∈ lw_g) (hov : Cond.arrayOver (.array .long) ∈ lw_tbl) (har : Cond.arrayClass .long ∈ lw_g) (hn : 0 ≤ n ∧ n ≤ 60000) (hk : 0 ≤ k ∧ k ≤ 60000) (h1 : X.1.2.2.1 + (1 + n.toNat) ≤ R.cells) (h2 : X.1.2.2.2.1 + (n.toNat + n.toNat * k.toNat) ≤ R.slots) (h3 : X.1.1.length + (1 + n.toNat) ≤ 4096) (h4 : X.1.2.2.2.2 = 0)
    (kk : pz_N base stt cA D ss stc p l e R s m args below meth c Q nL (pc + 4) ls ((2, X.1.1.length) :: st) ((X.1.1 ++ (104, n.toNat) :: List.replicate n.toNat (101, k.toNat), X.1.2.1, X.1.2.2.1 + (1 + n.toNat), X.1.2.2.2.1 + (n.toNat + n.toNat * k.toNat), 0), pz_mm X.2 X.1.1.length n.toNat)) : pz_N base stt cA D ss stc p l e R s m args below meth c Q nL pc ls ((0, k) :: (0, n) :: st) X := by
  intro H locs mls hR hS hl hs
  have hsz : H.size = base + X.1.1.length := by have h9 := hR.2.1; rw [h4] at h9; omega
  obtain ⟨g1, g2, g3, g4, g5, g6, g7, -⟩ := h
  have a1 := pz_okl_c.mp hs
  have a2 := pz_okl_c.mp a1.2
  have kn : pz_okv (0, n) := a2.1.2
  have kq : pz_okv (0, k) := a1.1.2
  have cl : ∀ z : Int, pz_okv (0, z) → (Int32.ofInt z).toNatClampNeg = z.toNat := fun z hz => by
    show (Int32.ofInt z).toInt.toNat = z.toNat
    rw [pz_to32 hz]
  have ng : ∀ z : Int, pz_okv (0, z) → 0 ≤ z → ¬ Int32.ofInt z < 0 := fun z hz h0 q => by
    have := (pz_lt32 hz pz_zero32).mp q
    omega
  intro T hT Xs
  obtain ⟨vm₁, cB, comp, -, fA, fC, hO, -, X', step⟩ := Xs.multianewarray2F g1 g4 (g5 _ hcl) (g7.2.2 _ hov rfl) (g5 _ har) (g := F0 m pc mls (.int (Int32.ofInt k) :: .int (Int32.ofInt n) :: st.map (pz_tv base stt))) rfl (by rw [g2]; exact hd) rfl (ng n kn hn.1) (ng k kq hk.1) (by rw [cl n kn]; omega) (by rw [cl k kq]; show k.toNat * 8 ≤ _; omega) (by rw [cl k kq]; omega) rfl rfl (by rw [cl n kn]; exact h1) (by rw [cl n kn, cl k kq]; exact h2)
  rw [cl n kn, cl k kq] at X' step
  have c1 : s.vm.findClass ("[" ++ (FieldType.long).toString) = some (cA 101) := (g6.2 1 _ rfl).2
  have c2 : s.vm.findClass ("[" ++ (FieldType.array .long).toString) = some (cA 104) := (g6.2 4 _ rfl).2
  have e1 : comp = cA 101 := Option.some.inj (fC.symm.trans c1)
  have e2 : cB = cA 104 := Option.some.inj (fA.symm.trans c2)
  subst e1
  subst e2
  have hTh : (T.setVm vm₁).heap = H := hT
  obtain ⟨f1, f2, -, -⟩ := Jvm.Free.Multi.fill_facts (T.setVm vm₁) (cA 104) (cA 101) n.toNat k.toNat (defaultValue .long) n.toNat
  have hold : ∀ x : Nat, x < H.size → (Jvm.Free.Multi.fill (T.setVm vm₁) (cA 104) (cA 101) n.toNat k.toNat (defaultValue .long) n.toNat).heap[x]? = H[x]? := fun x hx => by
    have := Jvm.Free.Multi.fill_old (T.setVm vm₁) (cA 104) (cA 101) n.toNat k.toNat (defaultValue .long) (a := x) (by rw [hTh]; exact hx) n.toNat
    rw [hTh] at this
    exact this
  have hrow : ∀ j : Nat, j < n.toNat → (Jvm.Free.Multi.fill (T.setVm vm₁) (cA 104) (cA 101) n.toNat k.toNat (defaultValue .long) n.toNat).heap[H.size + 1 + j]? = some (Jvm.Free.Multi.innerC (cA 101) k.toNat (defaultValue .long)) := fun j hj => by
    have := Jvm.Free.Multi.fill_inner (T.setVm vm₁) (cA 104) (cA 101) n.toNat k.toNat (defaultValue .long) n.toNat j hj
    rw [hTh] at this
    exact this
  rw [hTh] at f1 f2
  generalize Jvm.Free.Multi.fill (T.setVm vm₁) (cA 104) (cA 101) n.toNat k.toNat (defaultValue .long) n.toNat = F at X' step f1 f2 hold hrow
  have hRn : pz_r base stt cA D ss stc ((X.1.1 ++ (104, n.toNat) :: List.replicate n.toNat (101, k.toNat), X.1.2.1, X.1.2.2.1 + (1 + n.toNat), X.1.2.2.2.1 + (n.toNat + n.toNat * k.toNat), 0), pz_mm X.2 X.1.1.length n.toNat) F.heap := by
    refine ⟨fun i q hq => ?_, ?_, pz_okx_m hR.2.2 h3 (by omega) (by omega)⟩
    · unfold pz_wd at hq
      have hq : ((X.1.1 ++ (104, n.toNat) :: List.replicate n.toNat (101, k.toNat)).mapIdx (fun k9 sh => (base + k9, pz_ce base stt cA sh (pz_mm X.2 X.1.1.length n.toNat k9))))[i]? = some q := hq
      rw [List.getElem?_mapIdx] at hq
      cases hx : (X.1.1 ++ (104, n.toNat) :: List.replicate n.toNat (101, k.toNat))[i]? with
      | none => rw [hx] at hq; cases hq
      | some sh =>
        rw [hx] at hq
        cases hq
        by_cases hl2 : i < X.1.1.length
        · rw [List.getElem?_append_left hl2] at hx
          have h8 := hR.1 i _ (pz_wd_at hx)
          have e8 : pz_mm X.2 X.1.1.length n.toNat i = X.2 i := by
            funext b
            unfold pz_mm
            rw [if_pos hl2]
          rw [e8]
          exact h8.kept (hold _ (by show base + i < H.size; omega))
        · rw [List.getElem?_append_right (by omega)] at hx
          have hle : i - X.1.1.length < 1 + n.toNat := by
            have := (List.getElem?_eq_some_iff.mp hx).1
            simp at this
            omega
          by_cases e0 : i = X.1.1.length
          · subst e0
            rw [Nat.sub_self] at hx
            cases hx
            show va_at D pz_cls (base + X.1.1.length, pz_ce base stt cA (104, n.toNat) (pz_mm X.2 X.1.1.length n.toNat X.1.1.length)) F.heap
            rw [pz_ce_q (show 101 < 104 by decide)]
            show F.heap[base + X.1.1.length]? = some (vp_cell _ _)
            rw [← hsz, f2, pz_outer, vp_cell_q]
            refine congrArg some (pz_arrV_c fun j hj => ?_)
            rw [if_pos hj]
            have e8 : pz_mm X.2 X.1.1.length n.toNat X.1.1.length j = (X.1.1.length : Int) + 1 + j := by
              unfold pz_mm
              rw [if_neg (Nat.lt_irrefl _), if_pos rfl]
            rw [e8]
            unfold pz_rf pz_ad
            rw [if_neg (by omega), if_pos (by omega)]
            congr 2
            omega
          · rcases List.mem_cons.mp (List.mem_of_getElem? hx) with q1 | q1
            · exfalso
              have hx2 : (List.replicate n.toNat (101, k.toNat))[i - X.1.1.length - 1]? = some sh := by
                rw [show i - X.1.1.length = (i - X.1.1.length - 1) + 1 by omega, List.getElem?_cons_succ] at hx
                exact hx
              have q2 := List.eq_of_mem_replicate (List.mem_of_getElem? hx2)
              rw [q1] at q2
              cases q2
            · have q2 := List.eq_of_mem_replicate q1
              subst q2
              show F.heap[base + i]? = some (vp_cell _ _)
              have h7 := hrow (i - X.1.1.length - 1) (by omega)
              rw [show H.size + 1 + (i - X.1.1.length - 1) = base + i by omega] at h7
              rw [h7]
              have e8 : pz_mm X.2 X.1.1.length n.toNat i = fun _ => 0 := by
                funext b
                unfold pz_mm
                rw [if_neg hl2, if_neg e0, if_pos (by omega)]
              rw [e8]
              show some ({ cls := cA 101, slots := Array.replicate k.toNat (defaultValue .long), vm := .none } : Cell) = _
              rw [arrV_new]
              rfl
    · show base + (X.1.1 ++ (104, n.toNat) :: List.replicate n.toNat (101, k.toNat)).length ≤ F.heap.size ∧ F.heap.size ≤ base + (X.1.1 ++ (104, n.toNat) :: List.replicate n.toNat (101, k.toNat)).length + 0
      rw [f1, List.length_append, List.length_cons, List.length_replicate]
      omega
  have h9 := kk F.heap locs mls hRn ⟨by rw [f1]; have := hS.1; omega, fun x q1 q2 => (hold x (Nat.lt_of_lt_of_le q1 hS.1)).trans (hS.2.1 x q1 q2), hS.2.2⟩ hl (pz_K2 a2.2)
  rw [List.map_cons, pz_tv_heap (by omega) (by omega), Int.toNat_natCast, ← hsz] at h9
  obtain ⟨t, a1, b1⟩ := h9 F rfl (by
    show Stand p l e R s m args below meth c F locs (X.1.2.2.1 + (1 + n.toNat)) (X.1.2.2.2.1 + (n.toNat + n.toNat * k.toNat))
    rw [← Nat.add_assoc, ← Nat.add_assoc]
    exact X')
  refine ⟨t, step t ?_, b1⟩
  rw [hT]
  exact a1
end SN9
