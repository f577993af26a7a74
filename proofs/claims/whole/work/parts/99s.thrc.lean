section LC2
variable {base : Nat} {stt : Nat → Nat} {cA : Nat → ClassId} {D : va_G} {ss : List (Nat × Nat)} {stc : Nat → Nat → Int} {p : Program} {l : Launch} {e : Env} {R : Room} {s : State} {m : MethodId} {args : Array Value} {below : List Frame} {meth : Method} {c : Code} {Q : State → Prop} {cc : ByteArray} {own : String} {nL pc : Nat} {ls : List pz_V} {X : pz_X}
variable {y : MethodName} {bts : ByteArray} {n2 : Nat} {rt : Option FieldType} {rm : Room} {idx np : Nat}
/-- a call that throws, caught by the one row of this method's table -/
theorem sn_thrC {s0 : State} {as rest : List pz_V} {r : Int} {ci N : Nat} {q : vw_C} (h : pz_cx base stt cA D ss stc p R s m args c cc own nL) (hb : base = s0.heap.size) (he : tw_env s0 s) (hd : decode cc pc = .ok (.invokevirtual idx, 3))
    (hM : MetFree l y (headSpec (pz_ws y bts n2 rt) rm) (fun v U => pz_Pc base stt cA D ss stc ((2, r) :: as) (pz_z X) v U ∧ tw_env s0 U) (fun _ _ _ _ _ => True) (tw_Q base stt cA D ss stc (pz_z X)))
    (hrc : rm.cells = 1) (hrs : rm.slots = 6) (hRo : rm.frames + 1 ≤ R.frames ∧ 8 + (n2 + 11) + rm.locals ≤ R.locals) (hc1 : X.1.2.2.1 + 1 ≤ R.cells) (hc2 : X.1.2.2.2.1 + 6 ≤ R.slots) (hcode : Cond.code y bts n2 rt ∈ lw_g) (hini : Cond.initialized y.cls ∈ lw_g) (hin : Cond.instanceMethod y ∈ lw_g) (hsel : Cond.selects y.cls y y ∈ lw_g) (hlk : Cond.methodLink own idx y ∈ lw_g)
    (hy : y.cls ≠ "java/lang/invoke/MethodHandle" ∧ y.cls ≠ "java/lang/invoke/VarHandle" ∧ (parseMethodDescriptor y.desc).map (fun d => d.parameters.length) = some np) (hnp : as.length = np) (hw : pz_wt rest ≤ 8) (hsh : pz_sh X r = some (ci, N)) (hr4 : r < 4096) (hcl : pz_cls[ci]? = some q) (hq : q.1 = y.cls)
    {x : ExceptionTableEntry} (ht : c.exceptionTable.toList = [x]) (hx : covers x pc = true) (h0 : x.catchType ≠ 0) (hkl : Cond.classLink own x.catchType tw_E ∈ lw_g) (hcast : (Cond.castable tw_E tw_E).before args s = true)
    (kk : ∀ (H : Heap) (locs : List Loc) (mls : Array Slot) (q : Addr), pz_r base stt cA D ss stc ((X.1.1, X.1.2.1, X.1.2.2.1 + 1, X.1.2.2.2.1 + 6, X.1.2.2.2.2 + 1), X.2) H → va_S (pz_Z base) s.heap H locs → pz_lr base stt mls nL ls → W p l e R s m args below meth c H locs (X.1.2.2.1 + 1) (X.1.2.2.2.1 + 6) Q (F0 m x.handlerPc mls [.ref q])) :
    pz_N base stt cA D ss stc p l e R s m args below meth c Q nL pc ls (as.reverse ++ (2, r) :: rest) X := by
  intro H locs mls hR hS hl hs
  have hoka : pz_okl ((2, r) :: as) := fun v hv => by
    rcases List.mem_cons.mp hv with e | e
    · exact hs v (List.mem_append_right _ (e ▸ List.mem_cons_self))
    · exact hs v (List.mem_append_left _ (List.mem_reverse.mpr e))
  have hokr : pz_okl rest := fun v hv => hs v (List.mem_append_right _ (List.mem_cons_of_mem _ hv))
  have hwt := pz_wt_eq (base := base) (stt := stt) rest hokr
  have hp := tw_preS h hb he hR hS hoka
  have hG : GoodIn lw_g (pz_ws y bts n2 rt) := pz_good (fun w hw => by rcases List.mem_cons.mp hw with e | e; exact e ▸ hcode; exact e)
  obtain ⟨g1, g2, g3, g4, g5, g6, g7, g8, -⟩ := id h
  obtain ⟨r0, rq⟩ := pz_sh_heap hsh hr4
  have hclt := pz_cls_lt hcl
  have hwd := pz_wd_at (base := base) (stt := stt) (cA := cA) rq
  rw [pz_ce_o (by omega)] at hwd
  have hrecv := va_recv g6 hR.1 hcl hwd
  rw [hq] at hrecv
  have e8 : ((2, r) :: as).map (pz_tv base stt) = .ref (base + r.toNat) :: as.map (pz_tv base stt) := by rw [List.map_cons, pz_tv_heap r0 hr4]
  rw [e8] at hp
  have e9 : (as.reverse ++ (2, r) :: rest).map (pz_tv base stt) = (as.map (pz_tv base stt)).reverse ++ .ref (base + r.toNat) :: rest.map (pz_tv base stt) := by rw [List.map_append, List.map_reverse, List.map_cons, pz_tv_heap r0 hr4]
  rw [e9]
  obtain ⟨cellB, hcB, hoB, hclB⟩ := hrecv
  intro T hT X0
  subst hT
  obtain ⟨mk, methM, hnamed, hmethM, hstM, habM⟩ := Cond.instanceMethod_spec (g5 _ hin)
  obtain ⟨methM', cM, hmethM', -, -, -, -, -, -, hsigM⟩ := Cond.code_spec hnamed (g5 _ hcode)
  cases hmethM.symm.trans hmethM'
  obtain ⟨c2, r2, m2, w1, w2, w3, w4, kP, hkP, hkPi⟩ := Cond.selects_spec (g5 _ hsel)
  cases hclB.symm.trans w1
  cases (State.methodFound?_of_named hnamed ⟨hy.1, hy.2.1⟩).symm.trans w2
  cases hnamed.symm.trans w3
  have hselP : selectMethod e.platform s.vm cellB.cls mk = .method mk := by rw [Launch.admits_selectMethod X0.admits]; exact w4
  have hlen : (as.map (pz_tv base stt)).length = methM.sig.parameters.length := by
    have h2 := hy.2.2
    rw [hsigM] at h2
    rw [List.length_map, hnp]
    exact (Option.some.inj h2).symm
  obtain ⟨v1, X1, st1⟩ := X0.invokevirtual g1 g4 (g5 _ hlk) hnamed hmethM hstM hkP hkPi ⟨hy.1, hy.2.1⟩ (a := base + r.toNat) (cell := cellB) hcB (fun z h => by rw [h] at hoB; cases hoB) hselP hmethM habM hkP hkPi (g := F0 m pc mls ((as.map (pz_tv base stt)).reverse ++ .ref (base + r.toNat) :: rest.map (pz_tv base stt))) rfl (argsL := as.map (pz_tv base stt)) (rest := rest.map (pz_tv base stt)) hlen rfl (by rw [g2]; exact hd)
  generalize hU : T.setVm v1 = U at X1 st1
  have hUh : U.heap = T.heap := by rw [← hU]; rfl
  have st1' : ∀ target, (∀ acts, Steps p.tables e below (doInvoke e (U.setTop (F0 m pc mls (rest.map (pz_tv base stt)))) acts mk (.ref (base + r.toNat) :: as.map (pz_tv base stt)).toArray).1 target) → Steps p.tables e below (T.setTop (F0 m pc mls ((as.map (pz_tv base stt)).reverse ++ .ref (base + r.toNat) :: rest.map (pz_tv base stt)))) target := st1
  generalize hg : F0 m pc mls (rest.map (pz_tv base stt)) = g at st1'
  have hgm : g.method = m := by rw [← hg]
  have hgp : g.pc = pc := by rw [← hg]
  have hgl : g.locals.size = c.maxLocals := by rw [← hg]; exact hl.1.trans g3.symm
  have hgr : 2 * g.monitorRoom + (g.stack.map fun v => v.category).sum ≤ 8 := by rw [← hg]; exact lv_room (by rw [hwt]; exact hw)
  have hws : ∀ w ∈ pz_ws y bts n2 rt, w.before (.ref (base + r.toNat) :: as.map (pz_tv base stt)).toArray U = true := fun w hw => pay_in g5 hG w hw _ _ X1.warmed
  have hn : U.methodNamed? y = some mk := X1.named hnamed
  obtain ⟨methY, cY, hmY, hcY, -, hlY, -, -, -, -⟩ := Cond.code_spec hn (hws _ List.mem_cons_self)
  obtain ⟨kY, hkY, -⟩ := className_of_methodNamed hn
  have hinitY : kY.init = .initialized := Cond.initialized_spec (findClass_of_methodNamed hn) hkY (word_at (a' := #[]) X1.warmed (good_of_word (List.mem_filter.mp hini).2) (g5 _ hini))
  have hAt : At U g.method c below := by rw [hgm]; exact X1.here
  have happ : (headSpec (pz_ws y bts n2 rt) rm).appliesLoose y e.platform (U.calling g mk (.ref (base + r.toNat) :: as.map (pz_tv base stt)).toArray) = true :=
    Spec.appliesLoose_calling (g := g) hAt (by rw [g2, hgp]; exact hd) hn hkY hinitY (X1.room_calling (g := g) (R' := rm) hgl hmY hcY hRo.1 (by rw [hlY]; have h9 := hRo.2; omega) (by rw [hrc]; exact hc1) (by rw [hrs]; exact hc2)) (atoms_intro hws)
  obtain ⟨mid, hmid⟩ := hAt.above
  have hfr : (U.setTop g).frames = (.java g :: mid) ++ below := by rw [State.frames_setTop' g hAt.top, hmid]; rfl
  obtain ⟨o, s₂, hsteps, -, hend, hq9⟩ := Steps.callFree hM p X1.admits X1.cas X1.clock (acts := []) hfr happ (hp.1 _ U g mk (hp.2 U hUh X1.warmed)) trivial
  have hq9 : tw_Q base stt cA D ss stc (pz_z X) (.ref (base + r.toNat) :: as.map (pz_tv base stt)).toArray (U.calling g mk (.ref (base + r.toNat) :: as.map (pz_tv base stt)).toArray) o s₂ := hq9
  obtain ⟨a, ce, L, rfl, q1, q2, q3, q4, q5, q6, q7, q8, q9⟩ := hq9
  have hend : s₂.frames = .throwing a :: (U.setTop g).frames := hend
  obtain ⟨e2, p2, p3, p4, p5, p6⟩ := q8
  have hW' : U.WarmedH s₂.vm := q7
  have e3 : s₂ = ({ (U.calling g mk (.ref (base + r.toNat) :: as.map (pz_tv base stt)).toArray).setFrames s₂.frames with heap := s₂.heap, slotsUsed := s₂.slotsUsed } : State).setVm s₂.vm := by
    have h9 : s₂ = ({ s₂ with vm := (U.calling g mk (.ref (base + r.toNat) :: as.map (pz_tv base stt)).toArray).vm } : State).setVm s₂.vm := rfl
    rw [e2] at h9
    exact h9
  obtain ⟨g₀, hg0⟩ := Option.isSome_iff_exists.mp hAt.top
  obtain ⟨fr, hfr0⟩ := State.topJava?_eq_some.mp hg0
  have hs₂ : s₂ = ((({ U with heap := s₂.heap, slotsUsed := s₂.slotsUsed } : State).setVm s₂.vm).setTop g).pushFrame (.throwing a) := by
    have hr' : (({ U with heap := s₂.heap, slotsUsed := s₂.slotsUsed } : State).setVm s₂.vm).frames = .java g₀ :: fr := hfr0
    refine e3.trans ?_
    rw [hend, State.frames_setTop' g hAt.top, State.calling_eq hAt.top, State.setFrames_setFrames, State.pushFrame, State.frames_setTop _ hr', State.setTop_of_frames _ hr', State.setFrames_setFrames, hfr0]
    rfl
  have hsame : U.sameButNew ({ U with heap := s₂.heap, slotsUsed := s₂.slotsUsed } : State) L 1 6 := by
    refine ⟨?_, p2, p3, p4, p5, p6⟩
    obtain ⟨t, ht, -⟩ := State.frames_cons hfr0
    show ({ U with heap := s₂.heap, slotsUsed := s₂.slotsUsed } : State) = { U.setFrames U.frames with heap := s₂.heap, slotsUsed := s₂.slotsUsed }
    rw [State.setFrames_self ht]
  have X2 : Stand p l e R s m args below meth c (({ U with heap := s₂.heap, slotsUsed := s₂.slotsUsed } : State).setVm s₂.vm) (locs ++ L) (X.1.2.2.1 + 1) (X.1.2.2.2.1 + 6) :=
    ⟨X1.admits, X1.cas, X1.clock, X1.frames, X1.room, X1.hears, X1.method, X1.code, (X1.here.setHeapUsed s₂.heap s₂.slotsUsed).setVm hW'.alike, X1.tail, State.WarmedH.trans X1.warmed hW', X1.limits, X1.bytes, X1.same.trans (hsame.setVm s.vm)⟩
  obtain ⟨v3, X3, st3⟩ := tw_catch X2 (own := own) (E := tw_E) (ce := ce) (q := a) (pc := pc) (ls := mls) (rest := rest.map (pz_tv base stt)) g4 ht hx h0 (g5 _ hkl) hcast q1 q2 (by rw [← X1.warmed.alike.findClass]; exact q3)
  have hS' : va_S (pz_Z base) s.heap s₂.heap (locs ++ L) := by
    refine ⟨Nat.le_trans hS.1 ?_, fun z z1 z2 => ?_, fun z hz => ?_⟩
    · have h9 : U.heap.size ≤ s₂.heap.size := q6
      rw [hUh] at h9
      exact h9
    · have h9 : s₂.heap[z]? = U.heap[z]? := q5 z (by unfold pz_Z at z2; omega)
      rw [h9, hUh]
      exact hS.2.1 z z1 z2
    · rcases List.mem_append.mp hz with h | h
      · exact hS.2.2 z h
      · exact q9 z h
  obtain ⟨t, a1, b1⟩ := kk s₂.heap (locs ++ L) mls a q4 hS' hl ((({ U with heap := s₂.heap, slotsUsed := s₂.slotsUsed } : State).setVm s₂.vm).setVm v3) rfl X3
  refine ⟨t, st1' t (fun acts => ?_), b1⟩
  rw [doInvoke_state]
  refine hsteps.trans ?_
  rw [hs₂, ← hg]
  exact st3.trans a1
end LC2
