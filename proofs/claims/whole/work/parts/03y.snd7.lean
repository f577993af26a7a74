/-! THE PURE MACHINE IS SOUND: copies and new cells -/
section SN7
variable {base : Nat} {stt : Nat → Nat} {cA : Nat → ClassId} {D : va_G} {ss : List (Nat × Nat)} {stc : Nat → Nat → Int}
variable {p : Program} {l : Launch} {e : Env} {R : Room} {s : State} {m : MethodId} {args : Array Value} {below : List Frame} {meth : Method} {c : Code} {Q : State → Prop} {cc : ByteArray} {own : String} {nL : Nat}
variable {pc : Nat} {ls st : List pz_V} {X : pz_X}
theorem pz_mapIdx_ext {α : Type} {l : List (Nat × Nat)} {f g : Nat → Nat × Nat → α} (h : ∀ (i : Nat) (x : Nat × Nat), l[i]? = some x → f i x = g i x) : l.mapIdx f = l.mapIdx g := by
  apply List.ext_getElem?
  intro i
  rw [List.getElem?_mapIdx, List.getElem?_mapIdx]
  cases hx : l[i]? with
  | none => rfl
  | some x => simp only [Option.map_some, h i x hx]
/-- a world with one cell more -/
theorem pz_wd_app {G : pz_G} {M : pz_M} {sh : Nat × Nat} (hM : ∀ a, a < X.1.1.length → M a = X.2 a) (hG : G.1 = X.1.1 ++ [sh]) : pz_wd base stt cA (G, M) = pz_wd base stt cA X ++ [(base + X.1.1.length, pz_ce base stt cA sh (M X.1.1.length))] := by
  unfold pz_wd
  show List.mapIdx _ G.1 = _
  rw [hG, List.mapIdx_concat]
  congr 1
  refine pz_mapIdx_ext fun i x hx => ?_
  have hi : i < X.1.1.length := (List.getElem?_eq_some_iff.mp hx).1
  show (base + i, pz_ce base stt cA x (M i)) = (base + i, pz_ce base stt cA x (X.2 i))
  rw [hM i hi]
theorem pz_okx_app {G : pz_G} {M : pz_M} {sh : Nat × Nat} (h : pz_okx ss stc X) (hl : X.1.1.length + 1 ≤ 4096) (hM : ∀ a, a ≠ X.1.1.length → M a = X.2 a) (hG : G.1 = X.1.1 ++ [sh]) (hG2 : G.2.1 = X.1.2.1) (hs : pz_oks sh) (hv : ∀ j, j < sh.2 → pz_okv (pz_tg sh j, M X.1.1.length j)) : pz_okx ss stc (G, M) := by
  obtain ⟨h1, h2, h3, h4⟩ := h
  refine ⟨fun k sh' hk => ?_, ?_, ?_, fun i j sh' hi hj => ?_⟩
  · have hk : G.1[k]? = some sh' := hk
    rw [hG] at hk
    by_cases hl2 : k < X.1.1.length
    · rw [List.getElem?_append_left hl2] at hk
      refine ⟨(h1 k sh' hk).1, fun j hj => ?_⟩
      show pz_okv (pz_tg sh' j, M k j)
      rw [hM k (by omega)]
      exact (h1 k sh' hk).2 j hj
    · rw [List.getElem?_append_right (by omega)] at hk
      have hz : k - X.1.1.length < 1 := (List.getElem?_eq_some_iff.mp hk).1
      have e : k = X.1.1.length := by omega
      subst e
      rw [Nat.sub_self] at hk
      cases hk
      exact ⟨hs, hv⟩
  · show G.1.length ≤ 4096
    rw [hG, List.length_append]
    exact hl
  · show G.2.1 = ss
    rw [hG2]
    exact h3
  · show M (4096 + i) j = stc i j
    rw [hM _ (by omega)]
    exact h4 i j sh' hi hj
/-- one cell more on the heap -/
theorem pz_r_app {G : pz_G} {M : pz_M} {sh : Nat × Nat} {H H1 : Heap} (hR : pz_r base stt cA D ss stc X H) (hl : X.1.1.length + 1 ≤ 4096) (hd : X.1.2.2.2.2 = 0) (hM : ∀ a, a ≠ X.1.1.length → M a = X.2 a) (hG : G.1 = X.1.1 ++ [sh]) (hG2 : G.2.1 = X.1.2.1) (hG3 : G.2.2.2.2 = 0) (hs : pz_oks sh) (hv : ∀ j, j < sh.2 → pz_okv (pz_tg sh j, M X.1.1.length j))
    (z1 : H1.size = H.size + 1) (o1 : ∀ q, q < H.size → H1[q]? = H[q]?) (hat : va_at D pz_cls (base + X.1.1.length, pz_ce base stt cA sh (M X.1.1.length)) H1) : pz_r base stt cA D ss stc (G, M) H1 := by
  refine ⟨?_, ?_, pz_okx_app hR.2.2 hl hM hG hG2 hs hv⟩
  · rw [pz_wd_app (fun a ha => hM a (by omega)) hG]
    refine (hR.1.kept (fun k q hk => o1 q.1 ((hR.1 k q hk).lt))).app (fun k q hk => ?_)
    have hz : k < 1 := (List.getElem?_eq_some_iff.mp hk).1
    rw [show k = 0 by omega] at hk
    cases hk
    exact hat
  · show base + G.1.length ≤ H1.size ∧ H1.size ≤ base + G.1.length + G.2.2.2.2
    have h9 := hR.2.1
    rw [hd] at h9
    rw [z1, hG, hG3, List.length_append, List.length_cons, List.length_nil]
    omega
theorem pz_S_app {H H1 : Heap} {locs : List Loc} (hS : va_S (pz_Z base) s.heap H locs) (z1 : H1.size = H.size + 1) (o1 : ∀ q, q < H.size → H1[q]? = H[q]?) : va_S (pz_Z base) s.heap H1 locs :=
  ⟨by rw [z1]; exact Nat.le_succ_of_le hS.1, fun x h1 h2 => (o1 x (Nat.lt_of_lt_of_le h1 hS.1)).trans (hS.2.1 x h1 h2), hS.2.2⟩
def pz_tt : FieldType → Nat
  | .long => 1
  | .object _ => 2
  | .array _ => 2
  | _ => 0
theorem pz_dflt {ty : FieldType} (h : ty = .int ∨ ty = .boolean ∨ ty = .long ∨ (∃ n, ty = .object n) ∨ ∃ t, ty = .array t) : defaultValue ty = pz_tv base stt (pz_tt ty, pz_df (pz_tt ty)) := by
  rcases h with rfl | rfl | rfl | ⟨n, rfl⟩ | ⟨t, rfl⟩ <;> rfl
theorem pz_df_ok (t : Nat) : pz_okv (t, pz_df t) := by
  match t with
  | 0 => exact ⟨by decide, by decide⟩
  | 1 => exact ⟨by decide, by decide⟩
  | t + 2 => trivial
theorem pz_nw_at {M : pz_M} {k : Nat} {f : Nat → Int} : pz_nw M k f k = f := by
  funext b
  simp [pz_nw]
theorem pz_nw_ne {M : pz_M} {k a : Nat} {f : Nat → Int} (h : a ≠ k) : pz_nw M k f a = M a := by
  funext b
  simp [pz_nw, h]
theorem sn_new {idx ci N : Nat} {C : String} {T : u_T} {ty0 : Nat → FieldType} (h : pz_cx base stt cA D ss stc p R s m args c cc own nL) (hd : decode cc pc = .ok (.new idx, 3)) (hc : pz_cls[ci]? = some (C, T, N)) (hin : ∀ w ∈ u_ws C T N, w ∈ lw_g) (hty : ∀ k, k < N → parseFieldDescriptor (T k).2.2.1 = some (ty0 k)) (htt : ∀ k, k < N → defaultValue (ty0 k) = pz_tv base stt (pz_tf ci k, pz_df (pz_tf ci k)))
    (hcl : Cond.classLink own idx C ∈ lw_g) (hins : Cond.instantiable C N ∈ lw_g) (hini : Cond.initialized C ∈ lw_g) (h1 : X.1.2.2.1 + 1 ≤ R.cells) (h2 : X.1.2.2.2.1 + N ≤ R.slots) (h3 : X.1.1.length + 1 ≤ 4096) (h4 : X.1.2.2.2.2 = 0) (kk : pz_N base stt cA D ss stc p l e R s m args below meth c Q nL (pc + 3) ls ((2, X.1.1.length) :: st) ((X.1.1 ++ [(ci, N)], X.1.2.1, X.1.2.2.1 + 1, X.1.2.2.2.1 + N, 0), pz_nw X.2 X.1.1.length (fun j => pz_df (pz_tf ci j)))) : pz_N base stt cA D ss stc p l e R s m args below meth c Q nL pc ls st X := by
  intro H locs mls hR hS hl hs
  have hclt := pz_cls_lt hc
  have hsz : H.size = base + X.1.1.length := by have h9 := hR.2.1; rw [h4] at h9; omega
  obtain ⟨g1, g2, g3, g4, g5, g6, -⟩ := h
  have hKn := g6.1 ci _ hc
  refine W.newcK g1 g2 g4 (g5 _ hcl) (g5 _ hins) (g5 _ hini) rfl hd h1 h2 hKn.2.1 hsz fun H1 kC hkC e1 z1 o1 => ?_
  rw [← hsz] at z1 o1
  have hat : va_at D pz_cls (base + X.1.1.length, pz_ce base stt cA (ci, N) (pz_nw X.2 X.1.1.length (fun j => pz_df (pz_tf ci j)) X.1.1.length)) H1 := by
    rw [pz_nw_at, pz_ce_o (by omega)]
    refine ⟨_, hc, (u_born ty0 g5 hin hKn hkC e1 hty).to fun k hk => ?_⟩
    rw [htt k hk]
    unfold vp_V
    rw [List.getD_eq_getElem?_getD, List.getElem?_map, List.getElem?_range hk]
    rfl
  have h9 := kk H1 locs mls (pz_r_app hR h3 h4 (fun a ha => pz_nw_ne ha) rfl rfl rfl (Or.inl ⟨by show ci < 100; omega, C, T, hc⟩) (fun j hj => by rw [pz_nw_at, pz_tf_tg (by omega)]; exact pz_df_ok _) z1 o1 hat) (pz_S_app hS z1 o1) hl (pz_K2 hs)
  rw [List.map_cons, pz_tv_heap (by omega) (by omega), Int.toNat_natCast] at h9
  exact h9
theorem sn_newarray {at0 : ArrayType} {k t0 : Nat} {n : Int} {ty : FieldType} (h : pz_cx base stt cA D ss stc p R s m args c cc own nL) (hd : decode cc pc = .ok (.newarray at0, 2)) (hk : (at0 = .int ∧ k = 100 ∧ t0 = 0) ∨ (at0 = .long ∧ k = 101 ∧ t0 = 1)) (hw : Cond.arrayClass (newarray.typeOf at0) ∈ lw_g) (hn : 0 ≤ n ∧ n ≤ 60000) (h1 : X.1.2.2.1 + 1 ≤ R.cells) (h2 : X.1.2.2.2.1 + n.toNat ≤ R.slots) (h3 : X.1.1.length + 1 ≤ 4096) (h4 : X.1.2.2.2.2 = 0)
    (kk : pz_N base stt cA D ss stc p l e R s m args below meth c Q nL (pc + 2) ls ((2, X.1.1.length) :: st) ((X.1.1 ++ [(k, n.toNat)], X.1.2.1, X.1.2.2.1 + 1, X.1.2.2.2.1 + n.toNat, 0), pz_nw X.2 X.1.1.length (fun _ => 0))) : pz_N base stt cA D ss stc p l e R s m args below meth c Q nL pc ls ((0, n) :: st) X := by
  intro H locs mls hR hS hl hs
  have hsz : H.size = base + X.1.1.length := by have h9 := hR.2.1; rw [h4] at h9; omega
  obtain ⟨g1, g2, g3, g4, g5, g6, -⟩ := h
  have hnn : pz_okv (0, n) := (pz_okl_c.mp hs).1.2
  have hcl : (Int32.ofInt n).toNatClampNeg = n.toNat := by
    show (Int32.ofInt n).toInt.toNat = n.toNat
    rw [pz_to32 hnn]
  refine va_newaK g1 g2 (g5 _ hw) rfl hd rfl (fun q => by have := (pz_lt32 hnn pz_zero32).mp q; omega) hcl (by rcases hk with ⟨rfl, -⟩ | ⟨rfl, -⟩ <;> (simp only [newarray.typeOf, componentBytes]; omega)) h1 h2 hsz fun H1 cA' e1 z1 o1 hAr hf => ?_
  rw [← hsz] at z1 o1
  have hat : va_at D pz_cls (base + X.1.1.length, pz_ce base stt cA (k, n.toNat) (pz_nw X.2 X.1.1.length (fun _ => 0) X.1.1.length)) H1 := by
    rw [pz_nw_at]
    rcases hk with ⟨rfl, rfl, rfl⟩ | ⟨rfl, rfl, rfl⟩
    · have hc9 : s.vm.findClass ("[" ++ (FieldType.int).toString) = some (cA 100) := (g6.2 0 _ rfl).2
      have e9 : cA' = cA 100 := Option.some.inj (hf.symm.trans hc9)
      subst e9
      exact e1
    · have hc9 : s.vm.findClass ("[" ++ (FieldType.long).toString) = some (cA 101) := (g6.2 1 _ rfl).2
      have e9 : cA' = cA 101 := Option.some.inj (hf.symm.trans hc9)
      subst e9
      exact e1
  have h9 := kk H1 locs mls (pz_r_app hR h3 h4 (fun a ha => pz_nw_ne ha) rfl rfl rfl (Or.inr (by rcases hk with ⟨-, rfl, -⟩ | ⟨-, rfl, -⟩ <;> exact ⟨by show 100 ≤ _; omega, by show _ ≤ 104; omega, by show n.toNat ≤ 60000; omega⟩)) (fun j hj => by
    rw [pz_nw_at]
    rcases hk with ⟨-, rfl, -⟩ | ⟨-, rfl, -⟩ <;> exact ⟨by decide, by decide⟩) z1 o1 hat) (pz_S_app hS z1 o1) hl (pz_K2 (pz_okl_c.mp hs).2)
  rw [List.map_cons, pz_tv_heap (by omega) (by omega), Int.toNat_natCast] at h9
  exact h9
theorem sn_anewarray {idx k t0 : Nat} {n : Int} {C : String} (h : pz_cx base stt cA D ss stc p R s m args c cc own nL) (hd : decode cc pc = .ok (.anewarray idx, 3)) (hk : 101 < k ∧ k ≤ 104) (ht : (pz_tys cA)[t0]? = some (cA k, .object C)) (hcl : Cond.classLink own idx C ∈ lw_g) (hov : Cond.arrayOver (.object C) ∈ lw_tbl) (hn : 0 ≤ n ∧ n ≤ 60000) (h1 : X.1.2.2.1 + 1 ≤ R.cells) (h2 : X.1.2.2.2.1 + n.toNat ≤ R.slots) (h3 : X.1.1.length + 1 ≤ 4096) (h4 : X.1.2.2.2.2 = 0)
    (kk : pz_N base stt cA D ss stc p l e R s m args below meth c Q nL (pc + 3) ls ((2, X.1.1.length) :: st) ((X.1.1 ++ [(k, n.toNat)], X.1.2.1, X.1.2.2.1 + 1, X.1.2.2.2.1 + n.toNat, 0), pz_nw X.2 X.1.1.length (fun _ => -1))) : pz_N base stt cA D ss stc p l e R s m args below meth c Q nL pc ls ((0, n) :: st) X := by
  intro H locs mls hR hS hl hs
  have hsz : H.size = base + X.1.1.length := by have h9 := hR.2.1; rw [h4] at h9; omega
  obtain ⟨g1, g2, g3, g4, g5, g6, g7, -⟩ := h
  have hnn : pz_okv (0, n) := (pz_okl_c.mp hs).1.2
  have hcl2 : (Int32.ofInt n).toNatClampNeg = n.toNat := by
    show (Int32.ofInt n).toInt.toNat = n.toNat
    rw [pz_to32 hnn]
  refine W.anew g1 g2 g4 (g5 _ hcl) (g7.2.2 _ hov rfl) rfl hd rfl (fun q => by have := (pz_lt32 hnn pz_zero32).mp q; omega) (by rw [hcl2]; omega) h1 (by rw [hcl2]; exact h2) fun cA' kA comp f1 f2 f3 f4 => ?_
  rw [hcl2]
  generalize hH1 : H.push ({ cls := cA', slots := Array.replicate n.toNat .null, vm := .none } : Cell) = H1
  have z1 : H1.size = H.size + 1 := by rw [← hH1, Array.size_push]
  have e1 : H1[H.size]? = some (arrV cA' n.toNat (fun _ => .null)) := by rw [← hH1, Array.getElem?_push_size, ← arrV_new]
  have o1 : ∀ q : Nat, q < H.size → H1[q]? = H[q]? := fun q hq => by rw [← hH1, Array.getElem?_push, if_neg (Nat.ne_of_lt hq)]
  obtain ⟨kA9, comp9, -, -, -, hc9⟩ := (g6.2 t0 _ ht).2
  have e9 : cA' = cA k := Option.some.inj (f1.symm.trans hc9)
  have hat : va_at D pz_cls (base + X.1.1.length, pz_ce base stt cA (k, n.toNat) (pz_nw X.2 X.1.1.length (fun _ => -1) X.1.1.length)) H1 := by
    rw [pz_nw_at, pz_ce_q hk.1, ← hsz, ← e9]
    exact e1
  have h9 := kk H1 locs mls (pz_r_app hR h3 h4 (fun a ha => pz_nw_ne ha) rfl rfl rfl (Or.inr ⟨by show 100 ≤ k; omega, hk.2, by show n.toNat ≤ 60000; omega⟩) (fun j hj => by
    unfold pz_tg
    rw [if_neg (by show ¬ k < 100; omega), if_neg (by show ¬ k = 100; omega), if_neg (by show ¬ k = 101; omega)]
    trivial) z1 o1 hat) (pz_S_app hS z1 o1) hl (pz_K2 (pz_okl_c.mp hs).2)
  rw [List.map_cons, pz_tv_heap (by omega) (by omega), Int.toNat_natCast, ← hsz] at h9
  exact h9
end SN7
