section LC3
variable {base : Nat} {stt : Nat → Nat} {cA : Nat → ClassId} {D : va_G} {ss : List (Nat × Nat)} {stc : Nat → Nat → Int} {l : Launch} {d sa : Nat} {s0 : State} {A0 : Array Value}
def lc_y : MethodName := ⟨"CatCourtLaw", "cat", "(LCatCourt;II[J)I"⟩
def lc_ws : List Cond := Cond.codeWith lc_y method_3_code 5 (some .int) [(0, 10, 13, 13)] :: lw_g
def lc_rm (d : Nat) : Room := { frames := d + 20, cells := 1, slots := 6, locals := 64 * (d + 20) }
theorem lc_met (hl : l.stackTraces = false) (ht : ∀ w ∈ tables_1, w.before A0 s0 = true) (hr1 : tw_r1.before A0 s0 = true) (hr2 : tw_r2.before A0 s0 = true) (hstr : vk_R "CatCourt" 160 tw_text sa s0) (hb0 : base = s0.heap.size)
    {as : List pz_V} {X Y : pz_X} {rv : Option pz_V} (h : pz_cL d 297 as X = some (rv, Y)) (hc : X.1.2.2.1 = 0) (hs : X.1.2.2.2.1 = 0) :
    Met l lc_y lc_ws (lc_rm d) (fun v U => pz_Pc base stt cA D ss stc as X v U ∧ tw_env s0 U) (pz_Qc base stt cA D ss stc rv Y) 1 6 (pz_Z base) := by
  unfold pz_cL at h
  rw [if_pos rfl] at h
  split at h
  next x p0 p1 o =>
    split at h
    next hg =>
      obtain ⟨rfl, h1, h6, h9⟩ := hg
      obtain ⟨⟨sh, ss2, c0, s1, dd⟩, M⟩ := X
      have h1 : sh = pz_SH := h1
      have hc : c0 = 0 := hc
      have hs : s1 = 0 := hs
      have h6 : M 0 6 = 9 := h6
      have h9 : M 9 0 = 10 := h9
      subst h1 hc hs
      refine va_MetW (cc := method_3_code) (maxL := 5) (ret := some .int) (hh := [(0, 10, 13, 13)]) (ws' := lw_g) (by decide +kernel) rfl ?_
      intro p e s m args below meth c s₁ B hml hv
      obtain ⟨⟨rfl, hok, hR, hK, hst, hbase⟩, henv⟩ := hv
      have hts := atoms_spec (ws := lc_ws) B.pre
      have hcx : pz_cx base stt cA D ss stc p (lc_rm d) s m (([(2, 0), (0, p0), (0, p1), (2, o)] : List pz_V).map (pz_tv base stt)).toArray c method_3_code "CatCourtLaw" 5 :=
        ⟨B.exec, B.bytes, hml, findClass_of_methodNamed (x := lc_y) B.named, fun w hw => hts w (List.mem_cons_of_mem _ hw), hK, hst, hbase, by show 1 ≤ d + 20; omega, by show 64 ≤ 64 * (d + 20); omega⟩
      have hname : meth.name = "cat" := (name_of_methodNamed B.named B.method).1
      unfold lc2 at h
      split at h
      next hin =>
        split at h
        next v Z hcal =>
          split at h
          next hsh =>
            split at h
            next ho =>
              have e9 := Option.some.inj h
              cases e9
              obtain ⟨k, hk⟩ := pz_go_some.mp (lc_run (d := d) (ss := ss2) hcal hsh ho)
              have hN := pz_run_snd (base := base) (stt := stt) (cA := cA) (D := D) (ss := ss) (stc := stc) (p := p) (l := l) (e := e) (R := lc_rm d) (s := s) (m := m) (args := (([(2, 0), (0, p0), (0, p1), (2, o)] : List pz_V).map (pz_tv base stt)).toArray) (below := below) (meth := meth) (c := c) (Q := MQ below (pz_Qc base stt cA D ss stc (some (0, 0)) ((Z.1.1, ss2, 0, 0, Z.1.2.2.2.2), pz_up Z.2 o.toNat 0 v)) (([(2, 0), (0, p0), (0, p1), (2, o)] : List pz_V).map (pz_tv base stt)).toArray s 1 6 (pz_Z base)) (mi := pz_mi) (SP := fun _ => False) (rt := some .int) (C := pz_cal d) (bk := pz_bk bl_Lw_cat) (rc := 1) (rs := 6) (dp := d) (q := (some (0, 0), ((Z.1.1, ss2, 0, 0, Z.1.2.2.2.2), pz_up Z.2 o.toNat 0 v))) hcx (fun pc => by rw [hname]; exact lc_okl pc) (pz_cs d) (by show d + 1 ≤ d + 20; omega) (by show 64 * (d + 1) ≤ 64 * (d + 20); omega) (Nat.le_refl _) (Nat.le_refl _) (fun _ _ _ q => q.elim) (fun q1 q2 => pz_En_of hcx B.returns B.notSynchronized q1 q2) k 0 [] _ [] _ trivial hk
              have hW := hN s.heap [] _ hR va_S.rf (pz_lr_entry (n := 5) hok (by show 4 ≤ 5; omega)) (fun v hv => by cases hv)
              rw [lg_entry_eq]
              exact hW
            next => cases h
          next => cases h
        next => cases h
      next hout =>
        have e9 := Option.some.inj h
        cases e9
        obtain ⟨m9, meth9, c9, n9, t1, t2, -, -, t5, -, -, -⟩ := Cond.codeWith_spec (hts _ List.mem_cons_self)
        cases Option.some.inj (B.named.symm.trans n9)
        cases Option.some.inj (t1.symm.trans B.method)
        cases Option.some.inj (t2.symm.trans (Stand.of_body B).code)
        obtain ⟨x, hx1, hx2⟩ : ∃ x, c.exceptionTable.toList = [x] ∧ (x.startPc, x.endPc, x.handlerPc, x.catchType) = (0, 10, 13, 13) := by
          cases hcs : c.exceptionTable.toList with
          | nil => rw [hcs] at t5; cases t5
          | cons a r =>
            rw [hcs] at t5
            have z1 := List.cons.inj t5
            have z2 := List.map_eq_nil_iff.mp z1.2
            subst z2
            exact ⟨a, rfl, z1.1⟩
        have y1 : x.startPc = 0 := congrArg (fun q => q.1) hx2
        have y2 : x.endPc = 10 := congrArg (fun q => q.2.1) hx2
        have y3 : x.handlerPc = 13 := congrArg (fun q => q.2.2.1) hx2
        have y4 : x.catchType = 13 := congrArg (fun q => q.2.2.2) hx2
        have hN : pz_N base stt cA D ss stc p l e (lc_rm d) s m (([(2, 0), (0, p0), (0, p1), (2, o)] : List pz_V).map (pz_tv base stt)).toArray below meth c (MQ below (pz_Qc base stt cA D ss stc (some (0, 1)) ((pz_SH, ss2, 0, 0, dd + 1), M)) (([(2, 0), (0, p0), (0, p1), (2, o)] : List pz_V).map (pz_tv base stt)).toArray s 1 6 (pz_Z base)) 5 5 [(2, 0), (0, p0), (0, p1), (2, o), (9, 0)] [(0, p1), (0, p0), (2, 0), (0, 0), (2, o)] ((pz_SH, ss2, 0, 0, dd), M) := by
          refine sn_thrC (as := [(0, p0), (0, p1)]) (rest := [(0, 0), (2, o)]) (r := 0) (ci := 10) (N := 17) (y := I_CC_cat.1) (bts := I_CC_cat.2.1) (n2 := 3) (rt := some .int) (rm := tw_rm 0) (idx := 7) (np := 2) (x := x) hcx hb0 henv (by decide +kernel) (cat_thr (d := 0) hl ht hr1 hr2 hstr hb0 h6 h9 hout) rfl rfl ⟨by show 0 + 10 + 1 ≤ d + 20; omega, by show 8 + (3 + 11) + 64 * (0 + 10) ≤ 64 * (d + 20); omega⟩ (Nat.le_refl 1) (Nat.le_refl 6) oI_CC_cat.2.1 oI_CC_cat.2.2.1 (lw_g_at 1000 (by decide +kernel) rfl) (lw_g_at 1001 (by decide +kernel) rfl) (lw_g_at 999 (by decide +kernel) rfl) ⟨by decide, by decide, by decide +kernel⟩ rfl (by show 1 + (1 + 0) ≤ 8; omega) h_0 (by decide) rfl rfl hx1 (by simp [y1, y2]) (by rw [y4]; decide) (by rw [y4]; exact lw_g_at 998 (by decide +kernel) rfl) (tw_word henv (by decide +kernel) (ht _ (List.mem_of_getElem? (i := 1005) (by decide +kernel)))) ?_
          intro H locs mls q hR1 hS1 hl1
          rw [y3]
          refine lv_astore hcx.1 hcx.2.1 (i := 4) (nL := 5) (by decide +kernel) (pz_lr_has hl1) (by decide) rfl (fun mls' _ => ?_)
          refine lv_iconst hcx.1 hcx.2.1 (n := 1) (v := 1) (by decide +kernel) (by decide) ?_
          exact (pz_En_of (q := (some (0, 1), ((pz_SH, ss2, 1, 6, dd + 1), M))) hcx B.returns B.notSynchronized (Nat.le_refl 1) (Nat.le_refl 6)) H locs mls' 16 [(0, 1)] hR1 hS1 (fun v hv => by cases List.mem_singleton.mp hv; exact ⟨by decide, by show (-2147483648 : Int) ≤ 1 ∧ (1 : Int) < 2147483648; omega⟩) rfl ⟨by decide +kernel, Or.inl rfl⟩
        obtain ⟨k, hk⟩ := lc_to5 (d := d) (dd := dd) (M := M) (ss := ss2) (p0 := p0) (p1 := p1) (o := o)
        have hW := (pz_rn_snd (rt := some .int) (mi := pz_mi) (dp := d) hcx (fun pc => by rw [hname]; exact lc_okl pc) (pz_cs d) (by show d + 1 ≤ d + 20; omega) (by show 64 * (d + 1) ≤ 64 * (d + 20); omega) (Nat.le_refl _) (Nat.le_refl _) hN k 0 [] _ [] _ trivial hk) s.heap [] _ hR va_S.rf (pz_lr_entry (n := 5) hok (by show 4 ≤ 5; omega)) (fun v hv => by cases hv)
        rw [lg_entry_eq]
        exact hW
    next => cases h
  next => cases h
end LC3
