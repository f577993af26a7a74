section CT2
def tw_text : String := "no such cat, or nothing such of it"
def tw_Q (base : Nat) (stt : Nat → Nat) (cA : Nat → ClassId) (D : va_G) (ss : List (Nat × Nat)) (stc : Nat → Nat → Int) (X : pz_X) : Array Value → State → Outcome → State → Prop := fun _ st o t => ∃ (q : Addr) (ce : Cell) (L : List Loc), o = .threw q ∧ t.heap[q]? = some ce ∧ ce.vm = .none ∧ st.vm.findClass tw_E = some ce.cls ∧ pz_r base stt cA D ss stc ((X.1.1, X.1.2.1, X.1.2.2.1, X.1.2.2.2.1, X.1.2.2.2.2 + 1), X.2) t.heap ∧ (∀ z : Nat, z < base → t.heap[z]? = st.heap[z]?) ∧ st.heap.size ≤ t.heap.size ∧ st.WarmedH t.vm ∧ st.sameButNew ({ t with vm := st.vm } : State) L 1 6 ∧ ∀ z ∈ L, base ≤ z.base
def tw_rm (d : Nat) : Room := { frames := d + 10, cells := 1, slots := 6, locals := 64 * (d + 10) }
variable {base : Nat} {stt : Nat → Nat} {cA : Nat → ClassId} {D : va_G} {ss ss2 : List (Nat × Nat)} {stc : Nat → Nat → Int} {l : Launch} {d dd sa : Nat} {M : pz_M} {p0 p1 : Int} {s0 : State} {A0 : Array Value}
theorem cat_thr (hl : l.stackTraces = false) (ht : ∀ w ∈ tables_1, w.before A0 s0 = true) (hr1 : tw_r1.before A0 s0 = true) (hr2 : tw_r2.before A0 s0 = true) (hstr : vk_R "CatCourt" 160 tw_text sa s0) (hb0 : base = s0.heap.size)
    (h6 : M 0 6 = 9) (h9 : M 9 0 = 10) (hg : ¬((0 ≤ p0 ∧ p0 < M 10 141) ∧ 0 ≤ p1 ∧ p1 < 7)) :
    MetFree l I_CC_cat.1 (headSpec (pz_ws I_CC_cat.1 I_CC_cat.2.1 3 (some .int)) (tw_rm d)) (fun v U => pz_Pc base stt cA D ss stc [(2, 0), (0, p0), (0, p1)] ((pz_SH, ss2, 0, 0, dd), M) v U ∧ tw_env s0 U) (fun _ _ _ _ _ => True) (tw_Q base stt cA D ss stc ((pz_SH, ss2, 0, 0, dd), M)) := by
  refine MetFree.of_bodyS (code := I_CC_cat.2.1) (maxLocals := 3) (ret := some .int) (by decide +kernel) ?_ ?_
  · intro args s m h hn
    obtain ⟨meth, c, h1, h2, h3, h4, h5, h6, -, -⟩ := Cond.code_spec hn (atoms_spec (ws := pz_ws I_CC_cat.1 I_CC_cat.2.1 3 (some .int)) h _ List.mem_cons_self)
    exact ⟨meth, c, h1, h2, h3, h4, h5, h6⟩
  · intro p e s m args below meth c s₁ B hml hP _
    obtain ⟨⟨rfl, hok, hR, hK, hst, hbase⟩, henv⟩ := hP
    have hts := atoms_spec (ws := pz_ws I_CC_cat.1 I_CC_cat.2.1 3 (some .int)) B.pre
    have hcx : pz_cx base stt cA D ss stc p (tw_rm d) s m (([(2, 0), (0, p0), (0, p1)] : List pz_V).map (pz_tv base stt)).toArray c I_CC_cat.2.1 I_CC_cat.1.cls 3 :=
      ⟨B.exec, B.bytes, hml, findClass_of_methodNamed B.named, fun w hw => hts w (List.mem_cons_of_mem _ hw), hK, hst, hbase, by show 1 ≤ d + 10; omega, by show 64 ≤ 64 * (d + 10); omega⟩
    have hname : meth.name = I_CC_cat.1.name := (name_of_methodNamed B.named B.method).1
    have htab : ∀ x ∈ c.exceptionTable.toList, False := by
      obtain ⟨meth9, c9, h1, h2, -, -, -, -, h7, -⟩ := Cond.code_spec B.named (hts _ List.mem_cons_self)
      cases Option.some.inj (h1.symm.trans B.method)
      cases Option.some.inj (h2.symm.trans (Stand.of_body B).code)
      intro x hx
      rw [Array.isEmpty_iff.mp h7] at hx
      cases hx
    have hN : pz_N base stt cA D ss stc p l e (tw_rm d) s m (([(2, 0), (0, p0), (0, p1)] : List pz_V).map (pz_tv base stt)).toArray below meth c (fun t => ∃ o, t.status = .running ∧ Ended t below o ∧ tw_Q base stt cA D ss stc ((pz_SH, ss2, 0, 0, dd), M) (([(2, 0), (0, p0), (0, p1)] : List pz_V).map (pz_tv base stt)).toArray s o t) 3 21 [(2, 0), (0, p0), (0, p1)] [] ((pz_SH, ss2, 0, 0, dd), M) := by
      intro H locs mls hR1 hS hlr _ T hT Xs
      subst hT
      have he : tw_env s0 (tw_s s T) := ⟨henv.1, Nat.le_trans henv.2.1 hS.1, fun q hq => (hS.2.1 q (Nat.lt_of_lt_of_le hq henv.2.1) (fun h => absurd h (by show ¬ base ≤ q; omega))).trans (henv.2.2 q hq)⟩
      obtain ⟨U, ce, st, r1, r2, r3, r4, r5, r6, r7, r8, r9, r10⟩ := tw_throw (cls := tw_E) (names := tw_names) (own := "CatCourt") (text := tw_text) (ik := 158) (is := 160) (ic := 162) (ix := 13) (sa := sa) (pc := 21) (ls := mls) (rest := []) Xs B.exec B.bytes ((show e.platform.stackTraces = l.stackTraces by rw [Xs.admits.platform]).trans hl) (rx := prog_22_method_4_code) (by decide +kernel) (by decide +kernel) (by decide +kernel) (by decide +kernel) (findClass_of_methodNamed B.named) (by decide +kernel) (by decide +kernel)
        (tw_word he (by decide +kernel) (ht _ (List.mem_of_getElem? (i := 1003) (by decide +kernel)))) (tw_word he (by decide +kernel) (ht _ (List.mem_of_getElem? (i := 17) (by decide +kernel)))) (tw_words he ht hr1 hr2) (vk_R.warm he.1 hstr)
        (hlr.1.trans hml.symm) (by decide +kernel) (by decide +kernel) (by decide +kernel) (by decide +kernel) (by decide +kernel) (fun x hx => (htab x hx).elim) (by show 2 + 3 < d + 10; omega) (by show 0 + (13 * (2 + 1) + 43) ≤ 64 * (d + 10); omega) (by show 0 + 1 ≤ 1; omega) (by show 0 + 6 ≤ 6; omega) B.notSynchronized
      refine ⟨U, st, .threw T.heap.size, r1, r2, T.heap.size, ce, locs, rfl, r5, r6, r7, ?_, ?_, Nat.le_trans hS.1 r8, r3, r4, hS.2.2⟩
      · refine ⟨hR1.1.kept (fun k q hk => r10 q.1 ((hR1.1 k q hk).lt)), ?_, hR1.2.2⟩
        have h8 := hR1.2.1
        show base + pz_SH.length ≤ U.heap.size ∧ U.heap.size ≤ base + pz_SH.length + (dd + 1)
        have h8 : base + pz_SH.length ≤ T.heap.size ∧ T.heap.size ≤ base + pz_SH.length + dd := h8
        omega
      · intro z hz
        have h7 : z < s.heap.size := Nat.lt_of_lt_of_le hz hbase
        exact (r10 z (Nat.lt_of_lt_of_le h7 hS.1)).trans (hS.2.1 z h7 (fun h => absurd h (by show ¬ base ≤ z; omega)))
    obtain ⟨k, hk⟩ := cat_to21 (d := d) (dd := dd) (M := M) (ss := ss2) (p0 := p0) (p1 := p1) h6 h9 hg
    have hW := (pz_rn_snd (l := l) (e := e) (below := below) (meth := meth) (rt := some .int) (mi := pz_mi) (dp := d + 2) hcx (fun pc => by rw [hname]; exact o_CC_cat.2 pc) (pz_cs (d + 2)) (by show d + 2 + 1 ≤ d + 10; omega) (by show 64 * (d + 2 + 1) ≤ 64 * (d + 10); omega) (Nat.le_refl _) (Nat.le_refl _) hN k 0 [] _ [] _ trivial hk) s.heap [] _ hR va_S.rf (pz_lr_entry (n := 3) hok (Nat.le_of_eq rfl)) (fun v hv => by cases hv)
    have hh0 : s₁.heap = s.heap := by rw [B.state]; rfl
    obtain ⟨t, a1, o, b1, b2, b3⟩ := hW s₁ hh0 (Stand.of_body B)
    exact ⟨t, o, by rw [lg_entry_eq]; exact a1, b1, b2, b3⟩
end CT2
