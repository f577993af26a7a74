/-! THE PURE MACHINE IS SOUND: System.arraycopy, arrays of arrays -/
section SN8
variable {base : Nat} {stt : Nat → Nat} {cA : Nat → ClassId} {D : va_G} {ss : List (Nat × Nat)} {stc : Nat → Nat → Int}
variable {p : Program} {l : Launch} {e : Env} {R : Room} {s : State} {m : MethodId} {args : Array Value} {below : List Frame} {meth : Method} {c : Code} {Q : State → Prop} {cc : ByteArray} {own : String} {nL : Nat}
variable {pc : Nat} {ls st : List pz_V} {X : pz_X}
section RW2
variable {H : Heap} {locs : List Loc} {cells slots : Nat} {mls : Array Slot} {rest : List Value} {cl : List vw_C} {A : Nat → Prop} {a : Nat} {tys : List (ClassId × FieldType)} {ws : va_W} {H0 : Heap}
theorem pz_Wcopy (hexec : p.tables.exec = Jvm.exec) (hb : c.code = cc) (hml : c.maxLocals = mls.size) {index : Nat} (hown : s.vm.findClass own = some m.cls) (hlink : (Cond.methodLink own index arraycopyName).before args s = true) (hnat : (Cond.native arraycopyName).before args s = true) (hstat : (Cond.static arraycopyName).before args s = true) (hini : (Cond.initialized "java/lang/System").before args s = true)
    (hK : va_K D cl tys s) (hP : va_P D cl ws H) (hD : va_D A ws) (hS : va_S A H0 H locs) (q0 q1 t0 t1 : Nat) {a0 : Nat} {c0 c1 : ClassId} {n0 n1 : Nat} {f g : Nat → Int32} {ty : FieldType} (ha0 : ws[q0]? = some (a0, .inl (c0, n0, .inl f))) (ha1 : ws[q1]? = some (a, .inl (c1, n1, .inl g))) (ht0 : tys[t0]? = some (c0, ty)) (ht1 : tys[t1]? = some (c1, ty)) (hprim : refKind ty = false)
    {sp dp n : Int32} (h1 : ¬ sp < 0) (h2 : ¬ dp < 0) (h3 : ¬ n < 0) (h4 : sp.toNatClampNeg + n.toNatClampNeg ≤ n0) (h5 : dp.toNatClampNeg + n.toNatClampNeg ≤ n1) (hfit : ∀ i, i < n.toNatClampNeg → fits ty (.int (f (sp.toNatClampNeg + i))) = true)
    (hframes : 1 ≤ R.frames) (hlocals : (rest.map fun v => v.category).sum + (nativeFrameWords "java/lang/System" "arraycopy" 5 + 11) ≤ R.locals) (hdg : decode cc pc = .ok (.invokestatic index, 3))
    (kk : ∀ (H1 : Heap) (locs1 : List Loc), va_P D cl (ws.set q1 (a, .inl (c1, n1, .inl (va_cpy f g sp.toNatClampNeg dp.toNatClampNeg n.toNatClampNeg)))) H1 → H1.size = H.size → va_S A H0 H1 locs1 → W p l e R s m args below meth c H1 locs1 cells slots Q (F0 m (pc + 3) mls rest)) : W p l e R s m args below meth c H locs cells slots Q (F0 m pc mls (.int n :: .int dp :: .ref a :: .int sp :: .ref a0 :: rest)) := by
  have nn : ∀ z : Int32, ¬ z < 0 → z.toInt = (z.toNatClampNeg : Int) := by
    intro z hz
    have hz0 : (0 : Int) ≤ z.toInt := by
      have := Int32.not_lt.mp hz
      simpa using Int32.le_iff_toInt_le.mp this
    show z.toInt = ((z.toInt.toNat : Nat) : Int)
    omega
  intro T hT X
  have hc0 : H[a0]? = some (vp_cell c0 (n0, .inl f)) := hP q0 _ ha0
  have hc1 : H[a]? = some (vp_cell c1 (n1, .inl g)) := hP q1 _ ha1
  obtain ⟨-, k0, hk0, cm0, hkk0⟩ := (hK.2 t0 _ ht0).1 n0 (fun j => .int (f j))
  obtain ⟨-, k1, hk1, cm1, hkk1⟩ := (hK.2 t1 _ ht1).1 n1 (fun j => .int (g j))
  obtain ⟨vm', X', step⟩ := X.arraycopy hexec hown hlink hnat hstat hini (src := a0) (dst := a) (cs := vp_cell c0 (n0, .inl f)) (cd := vp_cell c1 (n1, .inl g)) (srcPos := sp) (destPos := dp) (n := n) (by rw [hT]; exact hc0) (by rw [hT]; exact hc1)
    (fun _ h => by cases h) (fun _ h => by cases h) (fun h => by cases h) (fun h => by cases h) hk0 hk1 hkk0 hkk1 (by simp [hprim]) h1 h2 h3
    (by rw [nn sp h1, nn n h3]; show ¬ _ > ((arrV c0 n0 (fun j => .int (f j))).slots.size : Int); rw [arrV_size]; omega)
    (by rw [nn dp h2, nn n h3]; show ¬ _ > ((arrV c1 n1 (fun j => .int (g j))).slots.size : Int); rw [arrV_size]; omega)
    (fun vm₁ _ i hi => by
      have e : (vp_cell c0 (n0, .inl f)).slots.getD (sp.toNatClampNeg + i) .null = .int (f (sp.toNatClampNeg + i)) := by
        show (arrV c0 n0 (fun j => .int (f j))).slots.getD _ _ = _
        rw [Array.getD_eq_getD_getElem?, arrV_read _ _ (by omega)]
        rfl
      refine ⟨?_, ?_⟩
      · rw [e]
        exact hfit i hi
      · rw [e]
        exact trivial)
    (g := F0 m pc mls (.int n :: .int dp :: .ref a :: .int sp :: .ref a0 :: rest)) rfl (by rw [hml]) (rest := rest) rfl (by rw [hb]; exact hdg) hframes (by show 2 * 0 + _ + _ ≤ _; omega)
  have e1 : copied (vp_cell c0 (n0, .inl f)) (vp_cell c1 (n1, .inl g)) sp dp n = vp_cell c1 (n1, .inl (va_cpy f g sp.toNatClampNeg dp.toNatClampNeg n.toNatClampNeg)) := va_copied (fun z => .int z) c0 c1 f g h4
  rw [e1] at X' step
  have hl : a < H.size := (Array.getElem?_eq_some_iff.mp hc1).1
  have hheap : ((T.setVm vm').setCell a (vp_cell c1 (n1, .inl (va_cpy f g sp.toNatClampNeg dp.toNatClampNeg n.toNatClampNeg)))).heap = H.setIfInBounds a (vp_cell c1 (n1, .inl (va_cpy f g sp.toNatClampNeg dp.toNatClampNeg n.toNatClampNeg))) := by rw [← hT]; rfl
  have oq : ∀ q : Nat, q ≠ a → (H.setIfInBounds a (vp_cell c1 (n1, .inl (va_cpy f g sp.toNatClampNeg dp.toNatClampNeg n.toNatClampNeg))))[q]? = H[q]? := fun q hq => by simp [Array.getElem?_setIfInBounds, Ne.symm hq]
  obtain ⟨t, a1, b1⟩ := kk _ _ (hP.set hD ha1 (show (H.setIfInBounds a _)[a]? = some _ by simp [Array.getElem?_setIfInBounds, hl]) oq) (by simp) ⟨by simp; exact hS.1, fun q g1 g2 => by
      rw [oq q (fun e => g2 (by rw [e]; exact hD.2 q1 _ ha1))]
      exact hS.2.1 q g1 g2, fun q hq => by
      rcases List.mem_append.mp hq with h | h
      · exact hS.2.2 q h
      · obtain ⟨z, -, hz⟩ := List.mem_map.mp h
        rw [← hz]
        exact hD.2 q1 _ ha1⟩ _ hheap X'
  exact ⟨t, step t a1, b1⟩
end RW2
theorem pz_wt_eq (st : List pz_V) (h : pz_okl st) : ((st.map (pz_tv base stt)).map fun v => v.category).sum = pz_wt st := by
  induction st with
  | nil => rfl
  | cons v r ih =>
    obtain ⟨-, h2⟩ := pz_okl_c.mp h
    rw [List.map_cons, List.map_cons, List.sum_cons, ih h2]
    show _ = (if v.1 = 1 then 2 else 1) + pz_wt r
    by_cases h1 : v.1 = 1
    · rw [if_pos h1]
      obtain ⟨t, z⟩ := v
      have h1 : t = 1 := h1
      subst h1
      rfl
    · rw [if_neg h1, pz_cat base stt v h1]
theorem pz_cp_ne {M : pz_M} {s0 d sp dp n a : Nat} (h : a ≠ d) : pz_cp M s0 d sp dp n a = M a := by
  funext b
  simp [pz_cp, h]
theorem pz_cp_at {M : pz_M} {s0 d sp dp n : Nat} : pz_cp M s0 d sp dp n d = fun b => if dp ≤ b ∧ b < dp + n then M s0 (sp + (b - dp)) else M d b := by
  funext b
  simp [pz_cp]
theorem pz_nfw : nativeFrameWords "java/lang/System" "arraycopy" 5 + 11 + 8 ≤ 64 := by decide
theorem sn_copy {idx : Nat} {x y n sp dp : Int} {n0 n1 : Nat} (h : pz_cx base stt cA D ss stc p R s m args c cc own nL) (hd : decode cc pc = .ok (.invokestatic idx, 3)) (hlink : Cond.methodLink own idx arraycopyName ∈ lw_g) (hnat : Cond.native arraycopyName ∈ lw_g) (hstat : Cond.static arraycopyName ∈ lw_g) (hini : Cond.initialized "java/lang/System" ∈ lw_g)
    (hsx : pz_sh X x = some (100, n0)) (hsy : pz_sh X y = some (100, n1)) (hx : x < 4096) (hy : y < 4096) (h1 : 0 ≤ n) (h2 : 0 ≤ dp) (h3 : 0 ≤ sp) (h4 : sp + n ≤ n0) (h5 : dp + n ≤ n1) (hw : pz_wt st ≤ 8)
    (kk : pz_N base stt cA D ss stc p l e R s m args below meth c Q nL (pc + 3) ls st (X.1, pz_cp X.2 x.toNat y.toNat sp.toNat dp.toNat n.toNat)) : pz_N base stt cA D ss stc p l e R s m args below meth c Q nL pc ls ((0, n) :: (0, dp) :: (2, y) :: (0, sp) :: (2, x) :: st) X := by
  intro H locs mls hR hS hl hs
  obtain ⟨x0, xq⟩ := pz_sh_heap hsx hx
  obtain ⟨y0, yq⟩ := pz_sh_heap hsy hy
  have a1 := pz_okl_c.mp hs
  have a2 := pz_okl_c.mp a1.2
  have a3 := pz_okl_c.mp a2.2
  have a4 := pz_okl_c.mp a3.2
  have a5 := pz_okl_c.mp a4.2
  have kn : pz_okv (0, n) := a1.1.2
  have kd : pz_okv (0, dp) := a2.1.2
  have ks : pz_okv (0, sp) := a4.1.2
  have cl : ∀ z : Int, pz_okv (0, z) → (Int32.ofInt z).toNatClampNeg = z.toNat := fun z hz => by
    show (Int32.ofInt z).toInt.toNat = z.toNat
    rw [pz_to32 hz]
  have ng : ∀ z : Int, pz_okv (0, z) → 0 ≤ z → ¬ Int32.ofInt z < 0 := fun z hz h0 q => by
    have := (pz_lt32 hz pz_zero32).mp q
    omega
  have hwd := pz_wt_eq (base := base) (stt := stt) st a5.2
  have ex := pz_wd_at (base := base) (stt := stt) (cA := cA) xq
  have ey := pz_wd_at (base := base) (stt := stt) (cA := cA) yq
  rw [pz_ce_i] at ex ey
  have hset := pz_wd_set (base := base) (stt := stt) (cA := cA) (M := pz_cp X.2 x.toNat y.toNat sp.toNat dp.toNat n.toNat) (E := .inl (cA 100, n1, .inl (va_cpy (fun j => Int32.ofInt (X.2 x.toNat j)) (fun j => Int32.ofInt (X.2 y.toNat j)) sp.toNat dp.toNat n.toNat))) yq (by
    rw [pz_ce_i, pz_cp_at]
    have e9 : va_cpy (fun j => Int32.ofInt (X.2 x.toNat j)) (fun j => Int32.ofInt (X.2 y.toNat j)) sp.toNat dp.toNat n.toNat = fun j => Int32.ofInt (if dp.toNat ≤ j ∧ j < dp.toNat + n.toNat then X.2 x.toNat (sp.toNat + (j - dp.toNat)) else X.2 y.toNat j) := by
      funext q
      unfold va_cpy
      split <;> rfl
    rw [e9]) (fun a ha => pz_cp_ne ha)
  have hD := pz_wd_D (base := base) (stt := stt) (cA := cA) (X := X)
  have hok : pz_okx ss stc (X.1, pz_cp X.2 x.toNat y.toNat sp.toNat dp.toNat n.toNat) := by
    obtain ⟨o1, o2, o3, o4⟩ := hR.2.2
    refine ⟨fun k sh hk => ⟨(o1 k sh hk).1, fun j hj => ?_⟩, o2, o3, fun i j sh hi hj => ?_⟩
    · show pz_okv (pz_tg sh j, pz_cp X.2 x.toNat y.toNat sp.toNat dp.toNat n.toNat k j)
      by_cases e9 : k = y.toNat
      · subst e9
        have hk : X.1.1[y.toNat]? = some sh := hk
        rw [yq] at hk
        cases hk
        rw [pz_cp_at]
        show pz_okv (0, if dp.toNat ≤ j ∧ j < dp.toNat + n.toNat then X.2 x.toNat (sp.toNat + (j - dp.toNat)) else X.2 y.toNat j)
        split
        · exact (o1 _ _ xq).2 _ (show sp.toNat + (j - dp.toNat) < n0 by omega)
        · exact (o1 _ _ yq).2 j hj
      · rw [pz_cp_ne e9]
        exact (o1 k sh hk).2 j hj
    · show pz_cp X.2 x.toNat y.toNat sp.toNat dp.toNat n.toNat (4096 + i) j = stc i j
      rw [pz_cp_ne (by omega)]
      exact o4 i j sh hi hj
  have key : ∀ (H1 : Heap) (locs1 : List Loc), va_P D pz_cls (pz_wd base stt cA (X.1, pz_cp X.2 x.toNat y.toNat sp.toNat dp.toNat n.toNat)) H1 → H1.size = H.size → va_S (pz_Z base) s.heap H1 locs1 → W p l e R s m args below meth c H1 locs1 X.1.2.2.1 X.1.2.2.2.1 Q (F0 m (pc + 3) mls (st.map (pz_tv base stt))) := fun H1 locs1 hP hsz hS1 =>
    kk H1 locs1 mls ⟨hP, by rw [hsz]; exact hR.2.1, hok⟩ hS1 hl a5.2
  rw [← hset, ← cl sp ks, ← cl dp kd, ← cl n kn] at key
  obtain ⟨r1, -⟩ := hR
  obtain ⟨g1, g2, g3, g4, g5, g6, -, -, g9, g10⟩ := h
  simp only [List.map_cons]
  rw [pz_tv_heap x0 hx, pz_tv_heap y0 hy]
  generalize pz_wd base stt cA X = ws at ex ey r1 hD key
  have nf := pz_nfw
  exact pz_Wcopy g1 g2 (by rw [g3, hl.1]) g4 (g5 _ hlink) (g5 _ hnat) (g5 _ hstat) (g5 _ hini) g6 r1 hD hS x.toNat y.toNat 0 0 ex ey rfl rfl rfl (ng sp ks h3) (ng dp kd h2) (ng n kn h1) (by rw [cl sp ks, cl n kn]; omega) (by rw [cl dp kd, cl n kn]; omega) (fun i _ => rfl) g9 (by rw [hwd]; omega) hd key
end SN8
