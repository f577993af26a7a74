/-! THE PURE MACHINE IS SOUND: stores into arrays, rows of references, lengths, copies, statics -/
section SN6
variable {base : Nat} {stt : Nat → Nat} {cA : Nat → ClassId} {D : va_G} {ss : List (Nat × Nat)} {stc : Nat → Nat → Int}
variable {p : Program} {l : Launch} {e : Env} {R : Room} {s : State} {m : MethodId} {args : Array Value} {below : List Frame} {meth : Method} {c : Code} {Q : State → Prop} {cc : ByteArray} {own : String} {nL : Nat}
variable {pc : Nat} {ls st : List pz_V} {X : pz_X}
theorem pz_ce_i {n : Nat} {f : Nat → Int} : pz_ce base stt cA (100, n) f = .inl (cA 100, n, .inl (fun j => Int32.ofInt (f j))) := rfl
theorem pz_ce_l {n : Nat} {f : Nat → Int} : pz_ce base stt cA (101, n) f = .inl (cA 101, n, .inr (.inl (fun j => Int64.ofInt (f j)))) := rfl
theorem pz_ce_q {k n : Nat} {f : Nat → Int} (h : 101 < k) : pz_ce base stt cA (k, n) f = .inl (cA k, n, .inr (.inr (.inr (.inr (fun j => pz_rf base stt (f j)))))) := by
  unfold pz_ce
  rw [if_neg (by show ¬ k < 100; omega), if_neg (by show ¬ k = 100; omega), if_neg (by show ¬ k = 101; omega)]
theorem pz_upd_i {f : Nat → Int} {j : Nat} {z : Int} : upd (fun q => Int32.ofInt (f q)) j (Int32.ofInt z) = fun q => Int32.ofInt (if q = j then z else f q) := by
  funext q
  unfold upd
  split <;> rfl
theorem pz_upd_l {f : Nat → Int} {j : Nat} {z : Int} : vp_updL (fun q => Int64.ofInt (f q)) j (Int64.ofInt z) = fun q => Int64.ofInt (if q = j then z else f q) := by
  funext q
  unfold vp_updL
  split <;> rfl
theorem pz_upd_q {f : Nat → Int} {j : Nat} {z : Int} : va_up (fun q => pz_rf base stt (f q)) j (pz_rf base stt z) = fun q => pz_rf base stt (if q = j then z else f q) := by
  funext q
  unfold va_up
  split <;> rfl
theorem sn_iastore {x i z : Int} {n : Nat} (h : pz_cx base stt cA D ss stc p R s m args c cc own nL) (hd : decode cc pc = .ok (.iastore, 1)) (hsh : pz_sh X x = some (100, n)) (hx : x < 4096) (hi : 0 ≤ i ∧ i < n) (kk : pz_N base stt cA D ss stc p l e R s m args below meth c Q nL (pc + 1) ls st (X.1, pz_up X.2 x.toNat i.toNat z)) : pz_N base stt cA D ss stc p l e R s m args below meth c Q nL pc ls ((0, z) :: (0, i) :: (2, x) :: st) X := by
  intro H locs mls hR hS hl hs
  obtain ⟨h0, hq⟩ := pz_sh_heap hsh hx
  have hn := pz_sz hR.2.2 hq (by decide : 100 ≤ 100)
  have hn : n ≤ 60000 := hn
  obtain ⟨v1, v2⟩ := pz_in32 hi.1 hi.2 (by omega)
  have hz := (pz_okl_c.mp hs).1.2
  have hts := (pz_okl_c.mp (pz_okl_c.mp (pz_okl_c.mp hs).2).2).2
  have he := pz_wd_at (base := base) (stt := stt) (cA := cA) hq
  rw [pz_ce_i] at he
  have hset := pz_wd_set (base := base) (stt := stt) (cA := cA) (M := pz_up X.2 x.toNat i.toNat z) (E := .inl (cA 100, n, .inl (upd (fun j => Int32.ofInt (X.2 x.toNat j)) i.toNat (Int32.ofInt z)))) hq (by rw [pz_ce_i, pz_up_at, pz_upd_i]) (fun a ha => pz_up_ne ha)
  have hD := pz_wd_D (base := base) (stt := stt) (cA := cA) (X := X)
  have key : ∀ (H1 : Heap) (locs1 : List Loc), va_P D pz_cls (pz_wd base stt cA (X.1, pz_up X.2 x.toNat i.toNat z)) H1 → H1.size = H.size → va_S (pz_Z base) s.heap H1 locs1 → W p l e R s m args below meth c H1 locs1 X.1.2.2.1 X.1.2.2.2.1 Q (F0 m (pc + 1) mls (st.map (pz_tv base stt))) := fun H1 locs1 hP hsz hS1 =>
    kk H1 locs1 mls (pz_r_up hR.2.2 hq hz hP (by rw [hsz]; exact hR.2.1)) hS1 hl hts
  rw [← hset, ← v2] at key
  obtain ⟨r1, -⟩ := hR
  obtain ⟨g1, g2, g3, g4, g5, g6, -⟩ := h
  rw [List.map_cons, List.map_cons, List.map_cons, pz_tv_heap h0 hx]
  generalize pz_wd base stt cA X = ws at he r1 hD key
  exact pz_Wiast g1 g2 g6 r1 hD hS x.toNat 0 he rfl v1 hd key
theorem sn_lastore {x i z : Int} {n : Nat} (h : pz_cx base stt cA D ss stc p R s m args c cc own nL) (hd : decode cc pc = .ok (.lastore, 1)) (hsh : pz_sh X x = some (101, n)) (hx : x < 4096) (hi : 0 ≤ i ∧ i < n) (kk : pz_N base stt cA D ss stc p l e R s m args below meth c Q nL (pc + 1) ls st (X.1, pz_up X.2 x.toNat i.toNat z)) : pz_N base stt cA D ss stc p l e R s m args below meth c Q nL pc ls ((1, z) :: (0, i) :: (2, x) :: st) X := by
  intro H locs mls hR hS hl hs
  obtain ⟨h0, hq⟩ := pz_sh_heap hsh hx
  have hn := pz_sz hR.2.2 hq (by decide : 100 ≤ 101)
  have hn : n ≤ 60000 := hn
  obtain ⟨v1, v2⟩ := pz_in32 hi.1 hi.2 (by omega)
  have hz := (pz_okl_c.mp hs).1.2
  have hts := (pz_okl_c.mp (pz_okl_c.mp (pz_okl_c.mp hs).2).2).2
  have he := pz_wd_at (base := base) (stt := stt) (cA := cA) hq
  rw [pz_ce_l] at he
  have hset := pz_wd_set (base := base) (stt := stt) (cA := cA) (M := pz_up X.2 x.toNat i.toNat z) (E := .inl (cA 101, n, .inr (.inl (vp_updL (fun j => Int64.ofInt (X.2 x.toNat j)) i.toNat (Int64.ofInt z))))) hq (by rw [pz_ce_l, pz_up_at, pz_upd_l]) (fun a ha => pz_up_ne ha)
  have hD := pz_wd_D (base := base) (stt := stt) (cA := cA) (X := X)
  have key : ∀ (H1 : Heap) (locs1 : List Loc), va_P D pz_cls (pz_wd base stt cA (X.1, pz_up X.2 x.toNat i.toNat z)) H1 → H1.size = H.size → va_S (pz_Z base) s.heap H1 locs1 → W p l e R s m args below meth c H1 locs1 X.1.2.2.1 X.1.2.2.2.1 Q (F0 m (pc + 1) mls (st.map (pz_tv base stt))) := fun H1 locs1 hP hsz hS1 =>
    kk H1 locs1 mls (pz_r_up hR.2.2 hq hz hP (by rw [hsz]; exact hR.2.1)) hS1 hl hts
  rw [← hset, ← v2] at key
  obtain ⟨r1, -⟩ := hR
  obtain ⟨g1, g2, g3, g4, g5, g6, -⟩ := h
  rw [List.map_cons, List.map_cons, List.map_cons, pz_tv_heap h0 hx]
  generalize pz_wd base stt cA X = ws at he r1 hD key
  exact pz_Wlast g1 g2 g6 r1 hD hS x.toNat 1 he rfl v1 hd key
theorem sn_aaload {x i : Int} {n k t0 : Nat} {C : String} (h : pz_cx base stt cA D ss stc p R s m args c cc own nL) (hd : decode cc pc = .ok (.aaload, 1)) (hk : 101 < k) (ht : (pz_tys cA)[t0]? = some (cA k, .object C) ∨ (pz_tys cA)[t0]? = some (cA k, .array .long)) (hsh : pz_sh X x = some (k, n)) (hx : x < 4096) (hi : 0 ≤ i ∧ i < n) (kk : pz_N base stt cA D ss stc p l e R s m args below meth c Q nL (pc + 1) ls ((2, X.2 x.toNat i.toNat) :: st) X) : pz_N base stt cA D ss stc p l e R s m args below meth c Q nL pc ls ((0, i) :: (2, x) :: st) X := by
  intro H locs mls hR hS hl hs
  obtain ⟨h0, hq⟩ := pz_sh_heap hsh hx
  have hn := pz_sz hR.2.2 hq (by show 100 ≤ k; omega)
  have hn : n ≤ 60000 := hn
  obtain ⟨v1, v2⟩ := pz_in32 hi.1 hi.2 (by omega)
  have h9 := kk H locs mls hR hS hl (pz_K2 (pz_okl_c.mp (pz_okl_c.mp hs).2).2)
  have he := pz_wd_at (base := base) (stt := stt) (cA := cA) hq
  rw [pz_ce_q hk] at he
  rw [List.map_cons, pz_tv_rf] at h9
  rw [List.map_cons, List.map_cons, pz_tv_heap h0 hx]
  obtain ⟨r1, -⟩ := hR
  obtain ⟨g1, g2, g3, g4, g5, g6, -⟩ := h
  generalize pz_wd base stt cA X = ws at he r1
  have hlt : (Int32.ofInt i).toNatClampNeg < n := Nat.not_le.mp fun q => v1 (Or.inr q)
  rcases ht with ht | ht
  · refine va_aldq g1 g2 g6 r1 x.toNat t0 he ht v1 hd ?_
    rw [v2]
    exact h9
  · refine W.aald (v := va_rf (pz_rf base stt (X.2 x.toNat i.toNat))) (ty := .array .long) g1 g2 (r1 x.toNat _ he) ((g6.2 t0 _ ht).1 n (fun j => va_rf (pz_rf base stt (X.2 x.toNat j)))) rfl (fun q => by cases q) (by show ¬ (_ ∨ (arrV _ _ _).slots.size ≤ _); rw [arrV_size]; exact v1) (by show (arrV _ _ _).slots[_]? = _; rw [arrV_read _ _ hlt, v2]) rfl rfl hd h9
theorem sn_aastore {x i z : Int} {n k t0 ci N : Nat} {r : vw_C} (h : pz_cx base stt cA D ss stc p R s m args c cc own nL) (hd : decode cc pc = .ok (.aastore, 1)) (hk : 101 < k) (ht : (pz_tys cA)[t0]? = some (cA k, .object r.1)) (hc : pz_cls[ci]? = some r) (hsh : pz_sh X x = some (k, n)) (hx : x < 4096) (hi : 0 ≤ i ∧ i < n) (hz : pz_sh X z = some (ci, N)) (hz4 : z < 4096) (kk : pz_N base stt cA D ss stc p l e R s m args below meth c Q nL (pc + 1) ls st (X.1, pz_up X.2 x.toNat i.toNat z)) : pz_N base stt cA D ss stc p l e R s m args below meth c Q nL pc ls ((2, z) :: (0, i) :: (2, x) :: st) X := by
  intro H locs mls hR hS hl hs
  obtain ⟨h0, hq⟩ := pz_sh_heap hsh hx
  obtain ⟨z0, zq⟩ := pz_sh_heap hz hz4
  have hn := pz_sz hR.2.2 hq (by show 100 ≤ k; omega)
  have hn : n ≤ 60000 := hn
  have hclt := pz_cls_lt hc
  obtain ⟨v1, v2⟩ := pz_in32 hi.1 hi.2 (by omega)
  have hts := (pz_okl_c.mp (pz_okl_c.mp (pz_okl_c.mp hs).2).2).2
  have he := pz_wd_at (base := base) (stt := stt) (cA := cA) hq
  have hez := pz_wd_at (base := base) (stt := stt) (cA := cA) zq
  rw [pz_ce_q hk] at he
  rw [pz_ce_o (by omega)] at hez
  have hset := pz_wd_set (base := base) (stt := stt) (cA := cA) (M := pz_up X.2 x.toNat i.toNat z) (E := .inl (cA k, n, .inr (.inr (.inr (.inr (va_up (fun j => pz_rf base stt (X.2 x.toNat j)) i.toNat (pz_rf base stt z))))))) hq (by rw [pz_ce_q hk, pz_up_at, pz_upd_q]) (fun a ha => pz_up_ne ha)
  have hD := pz_wd_D (base := base) (stt := stt) (cA := cA) (X := X)
  have hrf : pz_rf base stt z = some (base + z.toNat) := by
    unfold pz_rf pz_ad
    rw [if_neg (by omega), if_pos (by omega)]
  have key : ∀ (H1 : Heap) (locs1 : List Loc), va_P D pz_cls (pz_wd base stt cA (X.1, pz_up X.2 x.toNat i.toNat z)) H1 → H1.size = H.size → va_S (pz_Z base) s.heap H1 locs1 → W p l e R s m args below meth c H1 locs1 X.1.2.2.1 X.1.2.2.2.1 Q (F0 m (pc + 1) mls (st.map (pz_tv base stt))) := fun H1 locs1 hP hsz hS1 =>
    kk H1 locs1 mls (pz_r_up hR.2.2 hq (by unfold pz_tg; rw [if_neg (by show ¬ k < 100; omega), if_neg (by show ¬ k = 100; omega), if_neg (by show ¬ k = 101; omega)]; trivial) hP (by rw [hsz]; exact hR.2.1)) hS1 hl hts
  rw [← hset, ← v2, hrf] at key
  obtain ⟨r1, -⟩ := hR
  obtain ⟨g1, g2, g3, g4, g5, g6, -⟩ := h
  rw [List.map_cons, List.map_cons, List.map_cons, pz_tv_heap h0 hx, pz_tv_heap z0 hz4]
  generalize (List.range N).map (fun j => pz_tv base stt (pz_tf ci j, X.2 z.toNat j)) = fs at hez
  generalize pz_wd base stt cA X = ws at he hez r1 hD key
  exact pz_Waast g1 g2 g6 r1 hD hS x.toNat t0 z.toNat ci he ht hez hc v1 hd key
theorem pz_kind {sh : Nat × Nat} (h : pz_oks sh) (h1 : 100 ≤ sh.1) (f : Nat → Int) : ∃ (t0 : Nat) (ty : FieldType) (q : vp_A), pz_ce base stt cA sh f = .inl (cA sh.1, q) ∧ q.1 = sh.2 ∧ (pz_tys cA)[t0]? = some (cA sh.1, ty) := by
  obtain ⟨k, n⟩ := sh
  have hk : 100 ≤ k := h1
  rcases h with ⟨a, -⟩ | ⟨-, b, -⟩
  · have a : k < 100 := a
    omega
  have b : k ≤ 104 := b
  rcases (by omega : k = 100 ∨ k = 101 ∨ k = 102 ∨ k = 103 ∨ k = 104) with rfl | rfl | rfl | rfl | rfl
  · exact ⟨0, _, _, rfl, rfl, rfl⟩
  · exact ⟨1, _, _, rfl, rfl, rfl⟩
  · exact ⟨2, _, _, rfl, rfl, rfl⟩
  · exact ⟨3, _, _, rfl, rfl, rfl⟩
  · exact ⟨4, _, _, rfl, rfl, rfl⟩
theorem sn_alen {x : Int} {k n : Nat} (h : pz_cx base stt cA D ss stc p R s m args c cc own nL) (hd : decode cc pc = .ok (.arraylength, 1)) (hsh : pz_sh X x = some (k, n)) (hk : 100 ≤ k) (kk : pz_N base stt cA D ss stc p l e R s m args below meth c Q nL (pc + 1) ls ((0, n) :: st) X) : pz_N base stt cA D ss stc p l e R s m args below meth c Q nL pc ls ((2, x) :: st) X := by
  intro H locs mls hR hS hl hs
  have hts := (pz_okl_c.mp hs).2
  rw [List.map_cons]
  by_cases hx : x < 4096
  · obtain ⟨h0, hq⟩ := pz_sh_heap hsh hx
    have hn := pz_sz hR.2.2 hq (show 100 ≤ k from hk)
    have hn : n ≤ 60000 := hn
    have h9 := kk H locs mls hR hS hl (pz_K0 ⟨by omega, by omega⟩ hts)
    have he := pz_wd_at (base := base) (stt := stt) (cA := cA) hq
    obtain ⟨t0, ty, q, e1, e2, e3⟩ := pz_kind (base := base) (stt := stt) (cA := cA) (hR.2.2.1 _ _ hq).1 (show 100 ≤ k from hk) (X.2 x.toNat)
    rw [e1] at he
    rw [pz_tv_heap h0 hx]
    obtain ⟨r1, -⟩ := hR
    obtain ⟨g1, g2, g3, g4, g5, g6, -⟩ := h
    exact va_alen g1 g2 g6 r1 x.toNat t0 he e3 (v := Int32.ofInt n) (by rw [e2, ← Int32.ofInt_eq_ofNat]) hd h9
  · have hq := pz_sh_stat hsh hx
    rw [hR.2.2.2.2.1] at hq
    obtain ⟨g1, g2, g3, g4, g5, g6, g7, -⟩ := h
    obtain ⟨hn, -, hT, -⟩ := g7.2.1 _ _ hq
    have hn : n < 2147483648 := hn
    have h9 := kk H locs mls hR hS hl (pz_K0 ⟨by omega, by omega⟩ hts)
    rw [pz_tv_stat hx]
    exact va_tlen g1 g2 hT hS (v := Int32.ofInt n) (by rw [← Int32.ofInt_eq_ofNat]) hd h9
theorem sn_getstatic {idx i : Nat} {q : String × String} (h : pz_cx base stt cA D ss stc p R s m args c cc own nL) (hd : decode cc pc = .ok (.getstatic idx, 3)) (hq : pz_snm[i]? = some q) (hlink : Cond.fieldLinkNest own idx "CatCourt" q.1 q.2 "CatCourt" ∈ lw_tbl) (kk : pz_N base stt cA D ss stc p l e R s m args below meth c Q nL (pc + 3) ls ((2, ((4096 + i : Nat) : Int)) :: st) X) : pz_N base stt cA D ss stc p l e R s m args below meth c Q nL pc ls st X := by
  intro H locs mls hR hS hl hs
  have h9 := kk H locs mls hR hS hl (pz_K2 hs)
  rw [List.map_cons, pz_tv_stat (by omega), show (((4096 + i : Nat) : Int) - 4096).toNat = i by omega] at h9
  obtain ⟨g1, g2, g3, g4, g5, g6, g7, -⟩ := h
  exact va_getsN g1 g2 (g7.1 i q hq) hS g4 (va_Nw.use rfl (g7.2.2 _ hlink rfl)) (fun _ r => r) hd h9
end SN6
