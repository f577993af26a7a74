/-! THE PURE MACHINE IS SOUND: fields and arrays, with the heap's size kept -/
section SN5
variable {base : Nat} {stt : Nat → Nat} {cA : Nat → ClassId} {D : va_G} {ss : List (Nat × Nat)} {stc : Nat → Nat → Int}
variable {p : Program} {l : Launch} {e : Env} {R : Room} {s : State} {m : MethodId} {args : Array Value} {below : List Frame} {meth : Method} {c : Code} {Q : State → Prop} {cc : ByteArray} {own : String} {nL : Nat}
variable {pc : Nat} {ls st : List pz_V} {X : pz_X}
theorem sn_getfield {idx ci k N : Nat} {x : Int} {C : String} {T : u_T} (h : pz_cx base stt cA D ss stc p R s m args c cc own nL) (hd : decode cc pc = .ok (.getfield idx, 3)) (hc : pz_cls[ci]? = some (C, T, N)) (hin : ∀ w ∈ u_ws C T N, w ∈ lw_g) (hk : k < N)
    (hlink : Cond.fieldLink own idx (T k).1 (T k).2.1 (T k).2.2.1 ∈ lw_g) (hsh : pz_sh X x = some (ci, N)) (hx : x < 4096) (kk : pz_N base stt cA D ss stc p l e R s m args below meth c Q nL (pc + 3) ls ((pz_tf ci k, X.2 x.toNat k) :: st) X) (ht3 : pz_tf ci k < 3) : pz_N base stt cA D ss stc p l e R s m args below meth c Q nL pc ls ((2, x) :: st) X := by
  intro H locs mls hR hS hl hs
  obtain ⟨h0, hq⟩ := pz_sh_heap hsh hx
  have hlt := pz_cls_lt hc
  have hok := (hR.2.2.1 _ _ hq).2 k hk
  rw [pz_tf_tg (by omega)] at hok
  rw [List.map_cons, pz_tv_heap h0 hx]
  have he := pz_wd_at (base := base) (stt := stt) (cA := cA) hq
  rw [pz_ce_o (by omega)] at he
  have h9 := kk H locs mls hR hS hl (pz_okl_c.mpr ⟨⟨ht3, hok⟩, (pz_okl_c.mp hs).2⟩)
  have hv : ((List.range N).map (fun j => pz_tv base stt (pz_tf ci j, X.2 x.toNat j)))[k]? = some (pz_tv base stt (pz_tf ci k, X.2 x.toNat k)) := by
    rw [List.getElem?_map, List.getElem?_range hk]
    rfl
  rw [List.map_cons] at h9
  generalize (List.range N).map (fun j => pz_tv base stt (pz_tf ci j, X.2 x.toNat j)) = fs at he hv
  generalize pz_tv base stt (pz_tf ci k, X.2 x.toNat k) = v at hv h9
  obtain ⟨g1, g2, g3, g4, g5, g6, -⟩ := h
  obtain ⟨r1, -⟩ := hR
  generalize pz_wd base stt cA X = ws at he r1
  have hlk := g5 _ hlink
  exact va_get (ref := (T k).1) g1 g2 g5 hin g4 g6 r1 x.toNat he hc k hk hlk (fun _ q => q) hv hd h9


section RW
variable {H : Heap} {locs : List Loc} {cells slots : Nat} {mls : Array Slot} {rest : List Value} {cl : List vw_C} {A : Nat → Prop} {a : Nat} {tys : List (ClassId × FieldType)} {ws : va_W} {H0 : Heap}
theorem pz_Wput (hexec : p.tables.exec = Jvm.exec) (hb : c.code = cc) {ref C : String} {T : u_T} {N ci index : Nat} {Ts : List Cond} (hts : ∀ w ∈ Ts, w.before args s = true) (hin : ∀ w ∈ u_ws C T N, w ∈ Ts) (ty0 : Nat → FieldType) (hty : ∀ k, k < N → parseFieldDescriptor (T k).2.2.1 = some (ty0 k)) (hnm : ∀ a, a < N → ∀ b, b < N → a ≠ b → (T a).2.1 ≠ (T b).2.1) (hown : s.vm.findClass own = some m.cls) (hK : va_K D cl tys s) (hP : va_P D cl ws H) (hD : va_D A ws) (hS0 : va_S A H0 H locs) (q0 : Nat) {fs : List Value} (he : ws[q0]? = some (a, .inr (ci, fs))) (hc : cl[ci]? = some (C, T, N)) (k : Nat) (hk : k < N) (hlink : (Cond.fieldLink own index ref (T k).2.1 (T k).2.2.1).before args s = true) (hsame : ∀ x, s.fieldFound? (T k).1 (T k).2.1 (T k).2.2.1 = some x → s.fieldFound? ref (T k).2.1 (T k).2.2.1 = some x) (hfin : (T k).2.2.2 = false ∨ ((T k).2.2.2 = true ∧ meth.name = "<init>" ∧ (T k).1 = own)) {ty : FieldType} {v : Value} (hd : parseFieldDescriptor (T k).2.2.1 = some ty) (hn : narrow ty v = v) (hfit : fits ty v = true) (hl : k < fs.length)
    (hdg : decode cc pc = .ok (.putfield index, 3)) (kk : ∀ (H1 : Heap) (locs1 : List Loc), va_P D cl (ws.set q0 (a, .inr (ci, fs.set k v))) H1 → H1.size = H.size → va_S A H0 H1 locs1 → W p l e R s m args below meth c H1 locs1 cells slots Q (F0 m (pc + 3) mls rest)) : W p l e R s m args below meth c H locs cells slots Q (F0 m pc mls (v :: .ref a :: rest)) := by
  have hap := va_apart (own := own) hts hin ty0 hty hnm hK hc
  obtain ⟨r, h1, cell, q1, q2, q3, q4⟩ := hP q0 _ he
  have hr : r = (C, T, N) := Option.some.inj (h1.symm.trans hc)
  subst hr
  obtain ⟨hS, hfc, kC, hkC, hkind⟩ := hK.1 ci _ hc
  obtain ⟨cf, kf, fi, f, hi, hsl⟩ := hS k hk
  have hlay := hts _ (hin _ (u_in_lay hk))
  unfold u_lay at hlay
  have hst := (u_facts hfc hkC (u_lays hts hin hk) hi).1
  have key : ∀ H' : Heap, H'[a]? = some (cell.setSlot f.slot v) → H'.size = H.size → (∀ q, q ≠ a → H'[q]? = H[q]?) → W p l e R s m args below meth c H' (locs ++ [⟨a, f.slot⟩]) cells slots Q (F0 m (pc + 3) mls rest) := by
    intro H' e1 e2 e3
    rw [hsl] at e1 ⊢
    exact kk H' _ (hP.set hD he ⟨_, hc, t_OB.to (V := updV (vp_V fs) k v) ⟨_, e1, q2, q3, t_set q4 hap hk v⟩ (fun j _ => vp_updV_set hl v j)⟩ e3) e2 (hS0.put e2 e3 (hD.2 q0 _ he))
  rcases hfin with hfin | ⟨hfin, hin2, hdecl⟩
  · rw [if_neg (by rw [hfin]; decide)] at hlay
    have h6 := u_store hfc hkC hkind hlay hi hd hn hfit
    exact W.putK hexec hb (f := f) ⟨hown, hlink, ⟨_, _, _, hsame _ hi⟩, hst⟩ (by rw [q2]; exact h6) q1 q3 (by rw [hsl]; exact k2_hasslot (q4 k hk)) rfl rfl hdg key
  · rw [if_pos hfin] at hlay
    have hcf : m.cls = cf := by
      obtain ⟨_, _, c', _, _, _, -, -, hf', -, -, -, hown2, -⟩ := Cond.laysFinal_spec hlay
      have e1 : c' = cf := by have := hi.symm.trans hf'; simp at this; exact this.1.symm
      rw [hdecl] at hown2
      rw [← e1]; exact Option.some.inj (hown.symm.trans hown2)
    have h6 := u_fits hfc hkC hkind (Or.inr hlay) hi hd hn hfit
    exact W.putFinK hexec hb hown hlink (hsame _ hi) hst hcf hin2 (by rw [q2]; exact h6) q1 q3 (by rw [hsl]; exact k2_hasslot (q4 k hk)) rfl rfl hdg key
theorem pz_Wiast (hexec : p.tables.exec = Jvm.exec) (hb : c.code = cc) (hK : va_K D cl tys s) (hP : va_P D cl ws H) (hD : va_D A ws) (hS : va_S A H0 H locs) (q0 t0 : Nat) {cA : ClassId} {n : Nat} {f : Nat → Int32} (ha : ws[q0]? = some (a, .inl (cA, n, .inl f))) (ht : tys[t0]? = some (cA, .int)) {i : Int32} {x : Int32} (hin : vp_in i n) (hdg : decode cc pc = .ok (.iastore, 1))
    (kk : ∀ (H1 : Heap) (locs1 : List Loc), va_P D cl (ws.set q0 (a, .inl (cA, n, .inl (upd f i.toNatClampNeg x)))) H1 → H1.size = H.size → va_S A H0 H1 locs1 → W p l e R s m args below meth c H1 locs1 cells slots Q (F0 m (pc + 1) mls rest)) : W p l e R s m args below meth c H locs cells slots Q (F0 m pc mls (.int x :: .int i :: .ref a :: rest)) := by
  refine W.iast hexec hb (hP q0 _ ha) ((hK.2 t0 _ ht).1 n (fun j => .int (f j))) (fun q => by cases q) (by show ¬ (i < 0 ∨ (arrV _ _ _).slots.size ≤ _); rw [arrV_size]; exact hin) rfl rfl hdg fun H1 e z oq => ?_
  refine kk H1 _ (hP.set hD ha ?_ oq) z (hS.put z oq (hD.2 q0 _ ha))
  show H1[a]? = some (vp_cell _ _)
  rw [e, vp_cell_i, vp_cell_i, arrV_store]
  congr 2
  funext q
  by_cases hq : q = i.toNatClampNeg
  · subst hq
    simp [updV, upd]
  · simp [updV, upd, hq]
theorem pz_Wlast (hexec : p.tables.exec = Jvm.exec) (hb : c.code = cc) (hK : va_K D cl tys s) (hP : va_P D cl ws H) (hD : va_D A ws) (hS : va_S A H0 H locs) (q0 t0 : Nat) {cA : ClassId} {n : Nat} {f : Nat → Int64} (ha : ws[q0]? = some (a, .inl (cA, n, .inr (.inl f)))) (ht : tys[t0]? = some (cA, .long)) {i : Int32} {x : Int64} (hin : vp_in i n) (hdg : decode cc pc = .ok (.lastore, 1))
    (kk : ∀ (H1 : Heap) (locs1 : List Loc), va_P D cl (ws.set q0 (a, .inl (cA, n, .inr (.inl (vp_updL f i.toNatClampNeg x))))) H1 → H1.size = H.size → va_S A H0 H1 locs1 → W p l e R s m args below meth c H1 locs1 cells slots Q (F0 m (pc + 1) mls rest)) : W p l e R s m args below meth c H locs cells slots Q (F0 m pc mls (.long x :: .int i :: .ref a :: rest)) := by
  refine W.last hexec hb (hP q0 _ ha) ((hK.2 t0 _ ht).1 n (fun j => .long (f j))) (fun q => by cases q) (by show ¬ (i < 0 ∨ (arrV _ _ _).slots.size ≤ _); rw [arrV_size]; exact hin) rfl rfl hdg fun H1 e z oq => ?_
  refine kk H1 _ (hP.set hD ha ?_ oq) z (hS.put z oq (hD.2 q0 _ ha))
  show H1[a]? = some (vp_cell _ _)
  rw [e, vp_cell_l, vp_cell_l, arrV_store]
  congr 2
  funext q
  by_cases hq : q = i.toNatClampNeg
  · subst hq
    simp [updV, vp_updL]
  · simp [updV, vp_updL, hq]
theorem pz_Waast (hexec : p.tables.exec = Jvm.exec) (hb : c.code = cc) (hK : va_K D cl tys s) (hP : va_P D cl ws H) (hD : va_D A ws) (hS : va_S A H0 H locs) (q0 t0 qk ci : Nat) {cA : ClassId} {r : vw_C} {n v : Nat} {vs : List Value} {f : Nat → Option Nat} (ha : ws[q0]? = some (a, .inl (cA, n, .inr (.inr (.inr (.inr f)))))) (ht : tys[t0]? = some (cA, .object r.1)) (hv : ws[qk]? = some (v, .inr (ci, vs))) (hc : cl[ci]? = some r) {i : Int32} (hin : vp_in i n) (hdg : decode cc pc = .ok (.aastore, 1))
    (kk : ∀ (H1 : Heap) (locs1 : List Loc), va_P D cl (ws.set q0 (a, .inl (cA, n, .inr (.inr (.inr (.inr (va_up f i.toNatClampNeg (some v)))))))) H1 → H1.size = H.size → va_S A H0 H1 locs1 → W p l e R s m args below meth c H1 locs1 cells slots Q (F0 m (pc + 1) mls rest)) : W p l e R s m args below meth c H locs cells slots Q (F0 m pc mls (.ref v :: .int i :: .ref a :: rest)) := by
  have hlt : i.toNatClampNeg < n := Nat.not_le.mp fun q => hin (Or.inr q)
  have h0 : ¬ i < 0 := fun q => hin (Or.inl q)
  obtain ⟨r', hr', cellV, g1, g2, g3, -⟩ := hP qk _ hv
  have hcls := (hK.1 ci r hc).2
  obtain ⟨kA, comp, k1, k2, k3, -⟩ := (hK.2 t0 _ ht).2
  have hcomp : comp = D.1 ci := Option.some.inj (k3.symm.trans hcls.1)
  subst hcomp
  obtain ⟨kC, hkC, -⟩ := hcls.2
  refine W.aast hexec hb (hP q0 _ ha) (fun q h => by cases h) (fun h => by cases h) k1 k2 rfl hkC ⟨h0, by show _ < (arrV _ _ _).slots.size; rw [arrV_size]; exact hlt⟩ g1 (fun q h => by rw [g3] at h; cases h) (by rw [g2]; exact hkC) (by rw [g2]; exact va_assign hcls) rfl rfl hdg fun H1 e z oq => ?_
  refine kk H1 _ (hP.set hD ha ?_ oq) z (hS.put z oq (hD.2 q0 _ ha))
  show H1[a]? = some (vp_cell _ _)
  rw [e, vp_cell_q, vp_cell_q, arrV_store]
  congr 2
  funext q
  by_cases hq : q = i.toNatClampNeg
  · subst hq
    simp [updV, va_up, va_rf]
  · simp [updV, va_up, hq]
end RW
theorem pz_set_map {N k : Nat} {f : Nat → Int} {z : Int} (g : Nat → Int → Value) (hk : k < N) : ((List.range N).map (fun j => g j (f j))).set k (g k z) = (List.range N).map (fun j => g j (if j = k then z else f j)) := by
  apply List.ext_getElem?
  intro i
  rw [List.getElem?_set]
  by_cases hi : k = i
  · subst hi
    simp [hk]
  · rw [if_neg hi, List.getElem?_map, List.getElem?_map]
    by_cases hN : i < N
    · have hi2 : ¬ i = k := fun q => hi q.symm
      rw [List.getElem?_range hN]
      simp [hi2]
    · rw [List.getElem?_eq_none (by simpa using hN)]
      rfl
theorem pz_up_fs {n N k : Nat} {f : Nat → Int} {z : Int} (hk : k < N) : ((List.range N).map (fun j => pz_tv base stt (pz_tf n j, f j))).set k (pz_tv base stt (pz_tf n k, z)) = (List.range N).map (fun j => pz_tv base stt (pz_tf n j, if j = k then z else f j)) := pz_set_map (fun j z => pz_tv base stt (pz_tf n j, z)) hk
/-- a field's store: the value fits its type -/
def pz_fit (ty : FieldType) (v : pz_V) : Prop := match ty with
  | .int => v.1 = 0
  | .boolean => v.1 = 0 ∧ (v.2 = 0 ∨ v.2 = 1)
  | .long => v.1 = 1
  | .object _ => v.1 = 2
  | .array _ => v.1 = 2
  | _ => False
theorem pz_fit_n {ty : FieldType} {v : pz_V} (h : pz_fit ty v) : narrow ty (pz_tv base stt v) = pz_tv base stt v ∧ fits ty (pz_tv base stt v) = true := by
  obtain ⟨t, z⟩ := v
  cases ty with
  | int => have e : t = 0 := h; subst e; exact ⟨rfl, rfl⟩
  | boolean =>
    obtain ⟨e, hz⟩ := h
    have e : t = 0 := e
    subst e
    have hz : z = 0 ∨ z = 1 := hz
    rcases hz with rfl | rfl
    · exact ⟨(by decide : narrow .boolean (.int (Int32.ofInt 0)) = .int (Int32.ofInt 0)), (by decide : fits .boolean (.int (Int32.ofInt 0)) = true)⟩
    · exact ⟨(by decide : narrow .boolean (.int (Int32.ofInt 1)) = .int (Int32.ofInt 1)), (by decide : fits .boolean (.int (Int32.ofInt 1)) = true)⟩
  | long => have e : t = 1 := h; subst e; exact ⟨rfl, rfl⟩
  | object n => have e : t = 2 := h; subst e; rw [pz_tv_rf]; cases pz_rf base stt z <;> exact ⟨rfl, rfl⟩
  | array n => have e : t = 2 := h; subst e; rw [pz_tv_rf]; cases pz_rf base stt z <;> exact ⟨rfl, rfl⟩
  | _ => exact h.elim
theorem pz_r_up {H1 : Heap} {k j : Nat} {z : Int} {sh : Nat × Nat} (hx2 : pz_okx ss stc X) (hq : X.1.1[k]? = some sh) (hz : pz_okv (pz_tg sh j, z)) (hP : va_P D pz_cls (pz_wd base stt cA (X.1, pz_up X.2 k j z)) H1) (hsz : base + X.1.1.length ≤ H1.size ∧ H1.size ≤ base + X.1.1.length + X.1.2.2.2.2) : pz_r base stt cA D ss stc (X.1, pz_up X.2 k j z) H1 :=
  ⟨hP, hsz, pz_okx_up hx2 hq hz⟩
theorem sn_putfield {idx ci k N : Nat} {x z : Int} {C : String} {T : u_T} {ty0 : Nat → FieldType} (h : pz_cx base stt cA D ss stc p R s m args c cc own nL) (hd : decode cc pc = .ok (.putfield idx, 3)) (hc : pz_cls[ci]? = some (C, T, N)) (hin : ∀ w ∈ u_ws C T N, w ∈ lw_g) (hty : ∀ k, k < N → parseFieldDescriptor (T k).2.2.1 = some (ty0 k)) (hnm : ∀ a, a < N → ∀ b, b < N → a ≠ b → (T a).2.1 ≠ (T b).2.1) (hk : k < N)
    (hlink : Cond.fieldLink own idx (T k).1 (T k).2.1 (T k).2.2.1 ∈ lw_g) (hf : (T k).2.2.2 = false ∨ ((T k).2.2.2 = true ∧ meth.name = "<init>" ∧ (T k).1 = own)) (hfit : pz_fit (ty0 k) (pz_tf ci k, z)) (hsh : pz_sh X x = some (ci, N)) (hx : x < 4096) (kk : pz_N base stt cA D ss stc p l e R s m args below meth c Q nL (pc + 3) ls st (X.1, pz_up X.2 x.toNat k z)) : pz_N base stt cA D ss stc p l e R s m args below meth c Q nL pc ls ((pz_tf ci k, z) :: (2, x) :: st) X := by
  intro H locs mls hR hS hl hs
  obtain ⟨h0, hq⟩ := pz_sh_heap hsh hx
  have hlt := pz_cls_lt hc
  have hz := (pz_okl_c.mp hs).1.2
  have hts := (pz_okl_c.mp (pz_okl_c.mp hs).2).2
  rw [List.map_cons, List.map_cons, pz_tv_heap h0 hx]
  have he := pz_wd_at (base := base) (stt := stt) (cA := cA) hq
  rw [pz_ce_o (by omega)] at he
  have hset := pz_wd_set (base := base) (stt := stt) (cA := cA) (M := pz_up X.2 x.toNat k z) (E := .inr (ci, ((List.range N).map (fun j => pz_tv base stt (pz_tf ci j, X.2 x.toNat j))).set k (pz_tv base stt (pz_tf ci k, z)))) hq (by rw [pz_ce_o (by omega), pz_up_at, pz_up_fs hk]) (fun a ha => pz_up_ne ha)
  have hl9 : k < ((List.range N).map (fun j => pz_tv base stt (pz_tf ci j, X.2 x.toNat j))).length := by rw [List.length_map, List.length_range]; exact hk
  have hD := pz_wd_D (base := base) (stt := stt) (cA := cA) (X := X)
  obtain ⟨n1, n2⟩ := pz_fit_n (base := base) (stt := stt) hfit
  have key : ∀ (H1 : Heap) (locs1 : List Loc), va_P D pz_cls (pz_wd base stt cA (X.1, pz_up X.2 x.toNat k z)) H1 → H1.size = H.size → va_S (pz_Z base) s.heap H1 locs1 → W p l e R s m args below meth c H1 locs1 X.1.2.2.1 X.1.2.2.2.1 Q (F0 m (pc + 3) mls (st.map (pz_tv base stt))) := fun H1 locs1 hP hsz hS1 =>
    kk H1 locs1 mls (pz_r_up hR.2.2 hq (by rw [pz_tf_tg (by omega)]; exact hz) hP (by rw [hsz]; exact hR.2.1)) hS1 hl hts
  rw [← hset] at key
  obtain ⟨r1, -⟩ := hR
  obtain ⟨g1, g2, g3, g4, g5, g6, -⟩ := h
  generalize (List.range N).map (fun j => pz_tv base stt (pz_tf ci j, X.2 x.toNat j)) = fs at he hl9 key
  generalize pz_tv base stt (pz_tf ci k, z) = v at n1 n2 key ⊢
  generalize pz_wd base stt cA X = ws at he r1 hD key
  have hlk := g5 _ hlink
  exact pz_Wput (ref := (T k).1) g1 g2 g5 hin ty0 hty hnm g4 g6 r1 hD hS x.toNat he hc k hk hlk (fun _ q => q) hf (hty k hk) n1 n2 hl9 hd key
theorem pz_sz {sh : Nat × Nat} {k : Nat} (h : pz_okx ss stc X) (hq : X.1.1[k]? = some sh) (hs : 100 ≤ sh.1) : sh.2 ≤ 60000 := by
  rcases (h.1 k sh hq).1 with ⟨a, -⟩ | ⟨-, -, b⟩
  · omega
  · exact b
theorem sn_iaload {x i : Int} {n : Nat} (h : pz_cx base stt cA D ss stc p R s m args c cc own nL) (hd : decode cc pc = .ok (.iaload, 1)) (hsh : pz_sh X x = some (100, n)) (hx : x < 4096) (hi : 0 ≤ i ∧ i < n) (kk : pz_N base stt cA D ss stc p l e R s m args below meth c Q nL (pc + 1) ls ((0, X.2 x.toNat i.toNat) :: st) X) : pz_N base stt cA D ss stc p l e R s m args below meth c Q nL pc ls ((0, i) :: (2, x) :: st) X := by
  intro H locs mls hR hS hl hs
  obtain ⟨h0, hq⟩ := pz_sh_heap hsh hx
  have hn := pz_sz hR.2.2 hq (by decide : 100 ≤ 100)
  have hn : n ≤ 60000 := hn
  obtain ⟨v1, v2⟩ := pz_in32 hi.1 hi.2 (by omega)
  have hok := (hR.2.2.1 _ _ hq).2 i.toNat (show i.toNat < n by omega)
  have h9 := kk H locs mls hR hS hl (pz_K0 hok (pz_okl_c.mp (pz_okl_c.mp hs).2).2)
  rw [List.map_cons, List.map_cons, pz_tv_heap h0 hx]
  have he := pz_wd_at (base := base) (stt := stt) (cA := cA) hq
  obtain ⟨r1, -⟩ := hR
  obtain ⟨g1, g2, g3, g4, g5, g6, -⟩ := h
  refine va_iald g1 g2 g6 r1 x.toNat 0 (f := fun j => Int32.ofInt (X.2 x.toNat j)) he rfl v1 hd ?_
  rw [v2]
  exact h9
theorem sn_laload {x i : Int} {n : Nat} (h : pz_cx base stt cA D ss stc p R s m args c cc own nL) (hd : decode cc pc = .ok (.laload, 1)) (hsh : pz_sh X x = some (101, n)) (hx : x < 4096) (hi : 0 ≤ i ∧ i < n) (kk : pz_N base stt cA D ss stc p l e R s m args below meth c Q nL (pc + 1) ls ((1, X.2 x.toNat i.toNat) :: st) X) : pz_N base stt cA D ss stc p l e R s m args below meth c Q nL pc ls ((0, i) :: (2, x) :: st) X := by
  intro H locs mls hR hS hl hs
  obtain ⟨h0, hq⟩ := pz_sh_heap hsh hx
  have hn := pz_sz hR.2.2 hq (by decide : 100 ≤ 101)
  have hn : n ≤ 60000 := hn
  obtain ⟨v1, v2⟩ := pz_in32 hi.1 hi.2 (by omega)
  have hok := (hR.2.2.1 _ _ hq).2 i.toNat (show i.toNat < n by omega)
  have h9 := kk H locs mls hR hS hl (pz_K1 hok (pz_okl_c.mp (pz_okl_c.mp hs).2).2)
  rw [List.map_cons, List.map_cons, pz_tv_heap h0 hx]
  have he := pz_wd_at (base := base) (stt := stt) (cA := cA) hq
  obtain ⟨r1, -⟩ := hR
  obtain ⟨g1, g2, g3, g4, g5, g6, -⟩ := h
  refine va_lald g1 g2 g6 r1 x.toNat 1 (f := fun j => Int64.ofInt (X.2 x.toNat j)) he rfl v1 hd ?_
  rw [v2]
  exact h9
theorem sn_ialoadS {x i : Int} {n : Nat} (h : pz_cx base stt cA D ss stc p R s m args c cc own nL) (hd : decode cc pc = .ok (.iaload, 1)) (hsh : pz_sh X x = some (110, n)) (hx : ¬ x < 4096) (hi : 0 ≤ i ∧ i < n) (kk : pz_N base stt cA D ss stc p l e R s m args below meth c Q nL (pc + 1) ls ((0, X.2 x.toNat i.toNat) :: st) X) : pz_N base stt cA D ss stc p l e R s m args below meth c Q nL pc ls ((0, i) :: (2, x) :: st) X := by
  intro H locs mls hR hS hl hs
  have hq := pz_sh_stat hsh hx
  rw [hR.2.2.2.2.1] at hq
  obtain ⟨g1, g2, g3, g4, g5, g6, g7, -⟩ := h
  obtain ⟨hn, -, hT, hc9⟩ := g7.2.1 _ _ hq
  have hn : n < 2147483648 := hn
  obtain ⟨v1, v2⟩ := pz_in32 hi.1 hi.2 hn
  have hcon := hR.2.2.2.2.2 _ i.toNat _ hq (show i.toNat < n by omega)
  rw [show 4096 + (x - 4096).toNat = x.toNat by omega] at hcon
  have hok := hc9 i.toNat (show i.toNat < n by omega)
  rw [← hcon] at hok
  have h9 := kk H locs mls hR hS hl (pz_K0 hok (pz_okl_c.mp (pz_okl_c.mp hs).2).2)
  rw [List.map_cons, List.map_cons, pz_tv_stat hx]
  exact va_ti g1 g2 hT hS v1 (v := .int (Int32.ofInt (X.2 x.toNat i.toNat))) (by rw [v2, hcon]) hd h9
theorem sn_caload {x i : Int} {n : Nat} (h : pz_cx base stt cA D ss stc p R s m args c cc own nL) (hd : decode cc pc = .ok (.caload, 1)) (hsh : pz_sh X x = some (112, n)) (hx : ¬ x < 4096) (hi : 0 ≤ i ∧ i < n) (kk : pz_N base stt cA D ss stc p l e R s m args below meth c Q nL (pc + 1) ls ((0, X.2 x.toNat i.toNat) :: st) X) : pz_N base stt cA D ss stc p l e R s m args below meth c Q nL pc ls ((0, i) :: (2, x) :: st) X := by
  intro H locs mls hR hS hl hs
  have hq := pz_sh_stat hsh hx
  rw [hR.2.2.2.2.1] at hq
  obtain ⟨g1, g2, g3, g4, g5, g6, g7, -⟩ := h
  obtain ⟨hn, -, hT, hc9⟩ := g7.2.1 _ _ hq
  have hn : n < 2147483648 := hn
  obtain ⟨v1, v2⟩ := pz_in32 hi.1 hi.2 hn
  have hcon := hR.2.2.2.2.2 _ i.toNat _ hq (show i.toNat < n by omega)
  rw [show 4096 + (x - 4096).toNat = x.toNat by omega] at hcon
  have hok := hc9 i.toNat (show i.toNat < n by omega)
  rw [← hcon] at hok
  have h9 := kk H locs mls hR hS hl (pz_K0 hok (pz_okl_c.mp (pz_okl_c.mp hs).2).2)
  rw [List.map_cons, List.map_cons, pz_tv_stat hx]
  exact va_tc g1 g2 hT hS v1 (v := .int (Int32.ofInt (X.2 x.toNat i.toNat))) (by rw [v2, hcon]) hd h9
end SN5
