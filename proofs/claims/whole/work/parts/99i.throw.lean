section TW1
variable {p : Program} {l : Launch} {e : Env} {R : Room} {s : State} {m : MethodId} {args : Array Value} {below : List Frame} {meth : Method} {c : Code} {T : State} {locs : List Loc} {cells slots : Nat}
/-- the method's first state with the heap of now -/
def tw_s (s T : State) : State := { s with heap := T.heap, slotsUsed := T.slotsUsed }
/-- seen from the heap of now: nothing written yet, nothing made yet -/
theorem tw_now (X : Stand p l e R s m args below meth c T locs cells slots) {R' : Room} (h1 : R'.frames ≤ R.frames) (h2 : R'.locals ≤ R.locals) (h3 : cells + R'.cells ≤ R.cells) (h4 : slots + R'.slots ≤ R.slots) : Stand p l e R' (tw_s s T) m args below meth c T [] 0 0 := by
  have hb := X.book
  obtain ⟨e1, e2, e3, e4, e5, e6⟩ := X.same
  refine ⟨X.admits, X.cas, X.clock, X.frames, ?_, X.hears, X.method, X.code, X.here, X.tail, X.warmed, X.limits, X.bytes, ?_⟩
  · have h := X.room
    have e3' : T.heap.size ≤ s.heap.size + cells := e3
    have e4' : T.slotsUsed = s.slotsUsed + ((T.heap.toList.drop s.heap.size).map (·.slots.size)).sum := e4
    have e5' : ((T.heap.toList.drop s.heap.size).map (·.slots.size)).sum ≤ slots := e5
    unfold State.hasRoom at h ⊢
    simp only [Bool.and_eq_true, decide_eq_true_eq] at h ⊢
    have g1 : (tw_s s T).localsInUse = s.localsInUse := rfl
    have g2 : (tw_s s T).frames = s.frames := rfl
    have g3 : (tw_s s T).me = s.me := rfl
    have g4 : (tw_s s T).heap = T.heap := rfl
    have g5 : (tw_s s T).slotsUsed = T.slotsUsed := rfl
    have g6 : (tw_s s T).slotsTrue = true := hb
    rw [g1, g2, g3, g4, g5]
    obtain ⟨⟨⟨⟨h0, ha⟩, hc⟩, hd⟩, hx⟩ := h
    exact ⟨⟨⟨⟨by omega, by omega, by omega, by omega, by omega, ha.2.2.2.2⟩, by omega⟩, by omega⟩, g6⟩
  · refine ⟨?_, Nat.le_refl _, Nat.le_refl _, ?_, ?_, fun a c hc => ⟨c, hc, rfl, rfl, fun _ _ => rfl⟩⟩
    · exact e1
    · show T.slotsUsed = T.slotsUsed + ((T.heap.toList.drop T.heap.size).map (·.slots.size)).sum
      rw [List.drop_eq_nil_of_le (by simp)]
      simp
    · show ((T.heap.toList.drop T.heap.size).map (·.slots.size)).sum ≤ 0
      rw [List.drop_eq_nil_of_le (by simp)]
      simp
end TW1
section TW4
variable {p : Program} {l : Launch} {e : Env} {R : Room} {s : State} {m : MethodId} {args : Array Value} {below : List Frame} {meth : Method} {c : Code} {W : State} {cells slots : Nat}
/-- a constructor with a message, whose own link to its parent's bears any number; then athrow -/
theorem tw_ctor (X : Stand p l e R s m args below meth c W [] cells slots) (hexec : p.tables.exec = Jvm.exec) (htr : e.platform.stackTraces = false) {own cls : String} {names : List String} {ic ix : Nat} {rx : ByteArray}
    (x0 : decode rx 0 = .ok (.aload_n 0, 1)) (x1 : decode rx 1 = .ok (.aload_n 1, 1)) (x2 : decode rx 2 = .ok (.invokespecial ix, 3)) (x5 : decode rx 5 = .ok (.return_, 1))
    (hown : s.vm.findClass own = some m.cls) (hfit : Bundle.fit cls = true) (hnm : ∀ n ∈ names, Bundle.fit n = true) (hw : ∀ w ∈ Bundle.ownAtomsX own ic cls ix rx names, w.before args s = true)
    {a : Addr} {cX : ClassId} {kX : Class} (hfX : s.vm.findClass cls = some cX) (hkX : s.vm.classes[cX]? = some kX) (hcell : W.heap[a]? = some (freshCell cX kX)) (hnew : s.heap.size ≤ a) {msg : Value} (hmsg : msg.isRef = true)
    {g : JFrame} (hg : g.method = m) (hsz : g.locals.size = c.maxLocals) (hl1 : g.locked = none) (hl2 : g.entered = []) {rest : List Value} (hst : g.stack = msg :: .ref a :: .ref a :: rest)
    (d6 : decode c.code g.pc = .ok (.invokespecial ic, 3)) (d9 : decode c.code (g.pc + 3) = .ok (.athrow, 1)) (hout : ∀ x ∈ c.exceptionTable.toList, covers x (g.pc + 3) = false)
    (hfr : names.length + 3 < R.frames) (hlo : 2 * g.monitorRoom + ((Value.ref a :: rest).map fun v => v.category).sum + (13 * (names.length + 1) + 42) ≤ R.locals) (hlk : meth.locks = false) :
    ∃ (U : State) (ce : Cell), Steps p.tables e below (W.setTop g) U ∧ U.status = .running ∧ Ended U below (.threw a) ∧ s.WarmedH U.vm ∧ s.sameButNew ({ U with vm := s.vm } : State) [] cells slots ∧ U.heap[a]? = some ce ∧ ce.vm = .none ∧ s.vm.findClass cls = some ce.cls := by
  have p1 : e.platform.frameOwnsMonitors = true := by rw [X.admits.platform]
  have p2 : e.platform.finalization = false := by rw [X.admits.platform]
  have p3 : e.platform.magicAccessors = ({} : Platform).magicAccessors := by rw [X.admits.platform]
  have w : ∀ x, x ∈ Bundle.ownAtomsX own ic cls ix rx names → x.holds args s none s [] = true := hw
  obtain ⟨T, Z0, L, -, Y⟩ := ThrowableC.of_atoms (args := args) p1 p2 p3 (fun x hx => hw x (by simp [Bundle.ownAtomsX, hx]))
  obtain ⟨Z, M, LZ, LM, hZ⟩ := Init0T.ofS_atoms (args := args) p3 L Y (fun x hx => hw x (by simp [Bundle.ownAtomsX, hx]))
  obtain ⟨P1, Ps, hlen, L1, hL, hP, hk1, hk2⟩ := Bundle.chainSX (args := args) p3 hZ x0 x1 x2 x5 names cls hfit hnm (fun x hx => hw x (by simp [Bundle.ownAtomsX, hx]))
  have hcl : s.vm.findClass cls = some P1.m.cls := findClass_of_methodNamed hP
  cases Option.some.inj (hfX.symm.trans hcl)
  obtain ⟨c1, k1, f1, hk, hord, -, -, -⟩ := Cond.instantiable_spec (w (.instantiable cls 6) (by simp [Bundle.ownAtomsX]))
  cases Option.some.inj (f1.symm.trans hcl)
  cases Option.some.inj (hkX.symm.trans hk)
  have s0 : selectMethod e.platform s.vm P1.m.cls T.fill0 = .method T.fill0 := by
    obtain ⟨_, _, _, q1, q2, q3, q4, -⟩ := Cond.selects_spec (w (.selects cls Bundle.tFill0 Bundle.tFill0) (by simp [Bundle.ownAtomsX]))
    cases Option.some.inj (q1.symm.trans hcl)
    cases Option.some.inj (q2.symm.trans (State.methodFound?_of_named Y.fill0 (by decide)))
    cases Option.some.inj (q3.symm.trans Y.fill0)
    rw [Launch.admits_selectMethod X.admits]; exact q4
  have s1 : selectMethod e.platform s.vm P1.m.cls T.fill = .method T.fill := by
    obtain ⟨_, _, _, q1, q2, q3, q4, -⟩ := Cond.selects_spec (w (.selects cls Bundle.tFill Bundle.tFill) (by simp [Bundle.ownAtomsX]))
    cases Option.some.inj (q1.symm.trans hcl)
    cases Option.some.inj (q2.symm.trans (State.methodFound?_of_named Y.fill (by decide)))
    cases Option.some.inj (q3.symm.trans Y.fill)
    rw [Launch.admits_selectMethod X.admits]; exact q4
  -- the statics of Throwable, as they lie now
  obtain ⟨cS, hcS, hiss⟩ := Y.statics
  obtain ⟨u0, hu0⟩ := Cond.staticRefV Y.unassigned L.unassignedStatic L.statics hcS hiss (w (.isRef (.static Bundle.tN "UNASSIGNED_STACK" Bundle.steD)) (by simp [Bundle.ownAtomsX]))
  obtain ⟨u1, hu1⟩ := Cond.staticRefV Y.sentinel L.sentinelStatic L.statics hcS hiss (w (.isRef (.static Bundle.tN "SUPPRESSED_SENTINEL" Bundle.listD)) (by simp [Bundle.ownAtomsX]))
  obtain ⟨cN, hcN, heN, -, hslots⟩ := X.same.2.2.2.2.2 T.aS cS hcS
  have hcN : W.heap[T.aS]? = some cN := hcN
  have hsl : ∀ i, cN.slots[i]? = cS.slots[i]? := fun i => hslots i (fun h => nomatch h)
  have hunk : cN.vm ≠ .unknown := fun hu => by
    rw [heN] at hu
    rw [show cS.vm = .unknown from hu] at hiss
    cases hiss
  have hne : T.aS ≠ a := fun he => absurd (Array.getElem?_eq_some_iff.mp hcS).1 (by rw [he]; exact Nat.not_lt.mpr hnew)
  -- where the fields lie
  obtain ⟨i198, j198, fB, b1, b2, b3, b4, -, nB, tB, ffB⟩ := Cond.ownField (t := .object "java/lang/Object") Y.found L.cls (by decide +kernel) (w (.fieldLink Bundle.tN 198 Bundle.tN "backtrace" "Ljava/lang/Object;") (by simp [Bundle.ownAtomsX])) (w (.lays Bundle.tN Bundle.tN "backtrace" "Ljava/lang/Object;") (by simp [Bundle.ownAtomsX])) e.platform p3
  obtain ⟨iM, ffM⟩ := Y.msg
  obtain ⟨tC, dC, gC, mC⟩ := Cond.laysAt hcl hk Y.cause (w (.lays cls Bundle.tN "cause" "Ljava/lang/Throwable;") (by simp [Bundle.ownAtomsX]))
  obtain ⟨tS, dS, gS, mS⟩ := Cond.laysAt hcl hk Y.stack (w (.lays cls Bundle.tN "stackTrace" Bundle.steD) (by simp [Bundle.ownAtomsX]))
  obtain ⟨tP, dP, gP, mP⟩ := Cond.laysAt hcl hk Y.supp (w (.lays cls Bundle.tN "suppressedExceptions" Bundle.listD) (by simp [Bundle.ownAtomsX]))
  obtain ⟨tM, dM, gM, mM⟩ := Cond.laysAt hcl hk ffM (w (.lays cls Bundle.tN "detailMessage" "Ljava/lang/String;") (by simp [Bundle.ownAtomsX]))
  obtain ⟨tBk, dB, gB, mB⟩ := Cond.laysAt hcl hk ffB (w (.lays cls Bundle.tN "backtrace" "Ljava/lang/Object;") (by simp [Bundle.ownAtomsX]))
  have a1 := Cond.laysApart gB gC mB mC (by rw [nB, Y.causeName]; decide)
  have a2 := Cond.laysApart gB gS mB mS (by rw [nB, Y.stackName]; decide)
  have a3 := Cond.laysApart gB gP mB mP (by rw [nB, Y.suppName]; decide)
  have skip : SkipFacts T e.platform s (fun u => u) u0 ((preparedCellV T.toThrowableT (freshCell P1.m.cls kX) a u0 u1).withEntry W.cur) :=
    ⟨{ ci198 := i198, i198 := j198, fBack := fB }, ⟨b1, b2, b3, b4⟩, by
      have h9 := fresh_default (c := P1.m.cls) tBk
      rw [tB] at h9
      simpa [preparedCellV, Cell.setSlot, Cell.withEntry, Array.getElem?_setIfInBounds, a1, a2, a3, a1.symm, a2.symm, a3.symm, defaultValue] using h9, fun _ _ => rfl⟩
  -- the call, the chain, the throw
  obtain ⟨tm, mY, cY, kY, v1, hn1, -, -, -, -, -, -, -, hW1, st1⟩ := Steps.initColdS (tb := p.tables) (e := e) (below := below) (s := s) (U := W) X.here hexec X.warmed p3 hown (t := Bundle.initS cls) rfl rfl (Bundle.fit_spec hfit).2
    (w (.methodLink own ic (Bundle.initS cls)) (by simp [Bundle.ownAtomsX])) (hw (.instanceMethod (Bundle.initS cls)) (by cases names <;> simp [Bundle.ownAtomsX, Bundle.chainSAtomsX, Bundle.passSAtoms])) (bytes := rx) (maxL := 2) (hw (.code (Bundle.initS cls) rx 2 none) (by cases names <;> simp [Bundle.ownAtomsX, Bundle.chainSAtomsX, Bundle.passSAtoms]))
    (f := g) hg (a := a) (msg := msg) (rest := .ref a :: rest) hst d6
  cases Option.some.inj (hn1.symm.trans hP)
  obtain ⟨v2, X2, st2⟩ := (X.noted hW1).ctorMessageOffV hexec (g := { g with stack := .ref a :: rest }) hg hsz T L Z LZ M LM (P1 :: Ps)
    (fun P h9 => by rcases List.mem_cons.mp h9 with rfl | h9; exact L1; exact hL P h9) ⟨hk1, hk2⟩ (u0 := u0) (sen := u1) (self := a) hmsg (cell := freshCell P1.m.cls kX) (cellS := cN)
    hcell (fun _ => by simp) (by simp) rfl rfl s0 s1 hcN hne hunk (by rw [hsl]; exact hu0) (by rw [hsl]; exact hu1)
    (Takes.of_laid hk hord tC (by rw [Y.causeType]; rfl)) (Takes.of_laid hk hord tS (by rw [Y.stackType]; exact fits_refV_array _ u0)) (Takes.of_laid hk hord tP (by rw [Y.suppType]; exact fits_refV_object _ u1))
    (Takes.of_laid hk hord tM (by rw [Y.msgType]; exact fits_refV_object _ ⟨msg, hmsg⟩)) Y.objLocals skip htr [] d6
    (by simp only [List.length_cons, hlen]; omega) (by simp only [List.length_cons, hlen]; exact hlo)
  obtain ⟨go, r1, r2, r3, r4⟩ := X2.athrowLeaves hexec (g := { g with stack := .ref a :: rest, pc := g.pc + 3 }) hg hl1 hl2 hout (a := a) (rest := rest) rfl d9
  have hlt : a < ((W.setVm v1).setVm v2).heap.size := (Array.getElem?_eq_some_iff.mp hcell).1
  have hU := heapAt_setCell_self (s := (W.setVm v1).setVm v2) (plainBareV T.toThrowableT (freshCell P1.m.cls kX) a u0 u1 msg) hlt
  refine ⟨_, _, st1 _ (fun acts => ?_), r1, r2, r3, r4.weaken (fun y hy hlt' => ?_) (Nat.le_refl _) (Nat.le_refl _), hU, rfl, hcl⟩
  · rw [doInvoke_state]
    exact st2 _ go
  · exfalso
    have hb : y.base = a := by
      simp only [List.nil_append, List.mem_cons, List.not_mem_nil, or_false] at hy
      rcases hy with rfl | rfl | rfl | rfl | rfl <;> rfl
    rw [hb] at hlt'
    exact Nat.not_lt.mpr hnew hlt'
end TW4
section TW2
variable {p : Program} {l : Launch} {e : Env} {R : Room} {s : State} {m : MethodId} {args : Array Value} {below : List Frame} {meth : Method} {c : Code} {T : State} {locs : List Loc} {cells slots : Nat}
theorem tw_frames (X : Stand p l e R s m args below meth c T locs cells slots) (F : List Frame) : (T.setVm s.vm).setFrames F = { (s.setFrames F) with heap := T.heap, slotsUsed := T.slotsUsed } := by
  have h := congrArg (fun z => State.setFrames z F) X.same.1
  refine h.trans ?_
  show ({ ((s.setFrames (T.setVm s.vm).frames).setFrames F) with heap := T.heap, slotsUsed := T.slotsUsed } : State) = _
  rw [State.setFrames_setFrames]
/-- new E("text") made and thrown, out of this method -/
theorem tw_throw (X : Stand p l e R s m args below meth c T locs cells slots) (hexec : p.tables.exec = Jvm.exec) {cc : ByteArray} (hb : c.code = cc) (htr : e.platform.stackTraces = false) {own cls text : String} {names : List String} {ik is ic ix sa pc : Nat} {rx : ByteArray} {ls : Array Slot} {rest : List Value}
    (x0 : decode rx 0 = .ok (.aload_n 0, 1)) (x1 : decode rx 1 = .ok (.aload_n 1, 1)) (x2 : decode rx 2 = .ok (.invokespecial ix, 3)) (x5 : decode rx 5 = .ok (.return_, 1))
    (hown : s.vm.findClass own = some m.cls) (hfit : Bundle.fit cls = true) (hnm : ∀ n ∈ names, Bundle.fit n = true)
    (hkl : (Cond.classLink own ik cls).before args (tw_s s T) = true) (hini : (Cond.initialized cls).before args (tw_s s T) = true) (hw : ∀ w ∈ Bundle.ownAtomsX own ic cls ix rx names, w.before args (tw_s s T) = true) (hstr : vk_R own is text sa (tw_s s T))
    (hsz : ls.size = c.maxLocals) (d0 : decode cc pc = .ok (.new ik, 3)) (d3 : decode cc (pc + 3) = .ok (.dup, 1)) (d4 : decode cc (pc + 4) = .ok (.ldc is, 2)) (d6 : decode cc (pc + 6) = .ok (.invokespecial ic, 3)) (d9 : decode cc (pc + 9) = .ok (.athrow, 1))
    (hout : ∀ x ∈ c.exceptionTable.toList, covers x (pc + 9) = false) (hfr : names.length + 3 < R.frames) (hlo : (rest.map fun v => v.category).sum + (13 * (names.length + 1) + 43) ≤ R.locals) (h3 : cells + 1 ≤ R.cells) (h4 : slots + 6 ≤ R.slots) (hlk : meth.locks = false) :
    ∃ (U : State) (ce : Cell), Steps p.tables e below (T.setTop (F0 m pc ls rest)) U ∧ U.status = .running ∧ Ended U below (.threw T.heap.size) ∧ s.WarmedH U.vm ∧ s.sameButNew ({ U with vm := s.vm } : State) locs (cells + 1) (slots + 6) ∧
      U.heap[T.heap.size]? = some ce ∧ ce.vm = .none ∧ s.vm.findClass cls = some ce.cls ∧ T.heap.size ≤ U.heap.size ∧ U.heap.size ≤ T.heap.size + 1 ∧ ∀ q, q < T.heap.size → U.heap[q]? = T.heap[q]? := by
  have Y := tw_now X (R' := { frames := R.frames, locals := R.locals, cells := 1, slots := 6 }) (Nat.le_refl _) (Nat.le_refl _) h3 h4
  have hown' : (tw_s s T).vm.findClass own = some m.cls := hown
  have hins : (Cond.instantiable cls 6).before args (tw_s s T) = true := hw _ (by simp [Bundle.ownAtomsX])
  obtain ⟨vm1, cX, kX, hf, hk, -, -, X1, go⟩ := Y.newCold hexec (own := own) (C := cls) (index := ik) (n := 6) hown' hkl hins hini (g := F0 m pc ls rest) rfl (by rw [hb]; exact d0) (Nat.le_refl _) (Nat.le_refl _)
  generalize hT1 : (T.setVm vm1).pushCell { cls := cX, slots := kX.instanceTypes.map defaultValue, vm := .none } = T1 at X1 go
  have hc1 : T1.heap[T.heap.size]? = some (freshCell cX kX) := by rw [← hT1]; exact State.heap_pushCell_size _ _
  have d3' : decode c.code (pc + 3) = .ok (.dup, 1) := by rw [hb]; exact d3
  have d4' : decode c.code (pc + 4) = .ok (.ldc is, 2) := by rw [hb]; exact d4
  have hcat : (Value.ref T.heap.size).category = 1 := rfl
  obtain ⟨U, ce, st, r1, r2, r3, r4, r5, r6, r7⟩ := tw_ctor X1 hexec htr (own := own) (cls := cls) (names := names) (ic := ic) x0 x1 x2 x5 hown' hfit hnm hw hf hk hc1 (Nat.le_refl _) (msg := .ref sa) rfl
    (g := { method := m, pc := pc + 6, locals := ls, stack := .ref sa :: .ref T.heap.size :: .ref T.heap.size :: rest, locked := none }) rfl hsz rfl rfl (rest := rest) rfl
    (by rw [hb]; exact d6) (by rw [hb]; exact d9) hout hfr (by simp only [List.map_cons, List.sum_cons, hcat]; show 2 * 0 + _ + _ ≤ R.locals; omega) hlk
  have k1 : (T.setVm s.vm).sameButNew ({ U with vm := s.vm } : State) [] (0 + 1) (0 + 6) := by
    refine ⟨?_, r4.2⟩
    rw [tw_frames X]
    exact r4.1
  have k2 := X.same.trans k1
  rw [List.append_nil] at k2
  refine ⟨U, ce, ?_, r1, r2, r3, k2, r5, r6, r7, r4.2.1, r4.2.2.1, fun q hq => ?_⟩
  · refine go _ ?_
    show Steps p.tables e below (T1.setTop { method := m, pc := pc + 3, locals := ls, stack := .ref T.heap.size :: rest, locked := none }) _
    jvm_step X1.here [X1.here.top, hexec, d3', Value.category]
    exact X1.ldcString hexec (own := own) (text := text) (index := is) (a := sa) hown' hstr.1 hstr.2 (g := { method := m, pc := pc + 4, locals := ls, stack := .ref T.heap.size :: .ref T.heap.size :: rest, locked := none }) rfl d4' _ st
  · obtain ⟨c0, hc0⟩ : ∃ c0, T.heap[q]? = some c0 := ⟨_, Array.getElem?_eq_getElem hq⟩
    obtain ⟨c', b1, b2, b3, b4⟩ := r4.2.2.2.2.2 q c0 hc0
    have b1 : U.heap[q]? = some c' := b1
    rw [b1, hc0, b2]
    have : c'.slots = c0.slots := Array.ext_getElem? (fun i => b4 i (fun h => nomatch h))
    rw [this]
end TW2
section TW5
variable {p : Program} {l : Launch} {e : Env} {R : Room} {s : State} {m : MethodId} {args : Array Value} {below : List Frame} {meth : Method} {c : Code} {T : State} {locs : List Loc} {cells slots : Nat}
/-- thrown over this frame, and caught by the one row of its table -/
theorem tw_catch (X : Stand p l e R s m args below meth c T locs cells slots) {own E : String} {ce : Cell} {q : Addr} {pc : Nat} {ls : Array Slot} {rest : List Value} (hown : s.vm.findClass own = some m.cls) {x : ExceptionTableEntry} (ht : c.exceptionTable.toList = [x]) (hx : covers x pc = true) (h0 : x.catchType ≠ 0)
    (hlink : (Cond.classLink own x.catchType E).before args s = true) (hcast : (Cond.castable E E).before args s = true) (hcell : T.heap[q]? = some ce) (hv : ce.vm = .none) (hcl : s.vm.findClass E = some ce.cls) :
    ∃ vm1 : Vm, Stand p l e R s m args below meth c (T.setVm vm1) locs cells slots ∧ Steps p.tables e below ((T.setTop (F0 m pc ls rest)).pushFrame (.throwing q)) ((T.setVm vm1).setTop (F0 m x.handlerPc ls [.ref q])) := by
  have p3 : e.platform.magicAccessors = ({} : Platform).magicAccessors := by rw [X.admits.platform]
  obtain ⟨k3, k4, f3, f4, hasg⟩ := Cond.castable_spec hcast
  cases Option.some.inj (f3.symm.trans hcl)
  obtain ⟨k5, f5, g5⟩ := Cond.classLink_spec hown hlink e.platform p3
  cases Option.some.inj (f4.symm.trans f5)
  obtain ⟨v, X1, st⟩ := X.thenCaughtThrough q (g := F0 m pc ls rest) rfl (Steps.refl _) hcell (by rw [hv]; rfl) (by obtain ⟨k9, h9, -⟩ := Vm.findClass_spec hcl; exact ⟨k9, h9⟩) [] x [] ht (fun z hz => nomatch hz) hx (Or.inr ⟨h0, k4, g5, hasg⟩)
  exact ⟨v, X1, st⟩
end TW5
section TW6
/-- a later state of the same run: what lay there at first lies there still -/
def tw_env (s0 U : State) : Prop := s0.WarmedH U.vm ∧ s0.heap.size ≤ U.heap.size ∧ ∀ q : Nat, q < s0.heap.size → U.heap[q]? = s0.heap[q]?
theorem tw_env_t {s0 U V : State} (h : tw_env s0 U) (hW : U.WarmedH V.vm) (hs : U.heap.size ≤ V.heap.size) (hq : ∀ q : Nat, q < s0.heap.size → V.heap[q]? = U.heap[q]?) : tw_env s0 V :=
  ⟨State.WarmedH.trans h.1 hW, Nat.le_trans h.2.1 hs, fun q g => (hq q g).trans (h.2.2 q g)⟩
theorem tw_ls {s0 U : State} {C n d : String} {A B : Array Value} (h : tw_env s0 U) (hw : (Cond.laysStatic C n d).before A s0 = true) : (Cond.laysStatic C n d).before B U = true := by
  obtain ⟨c, k, i, f, a, cell, h1, h2, h3, h4, h5, h6, h7, h8, h9⟩ := Cond.laysStatic_spec hw
  obtain ⟨k', hi', he⟩ := State.fieldFound?_setVm h.1.alike h2
  show (Cond.laysStatic C n d).holds B U none U [] = true
  exact Cond.laysStatic_of (by rw [h.1.alike.findClass]; exact h1) hi' h3 (by rw [he]; exact h4) (by rw [h.2.2 a (Array.getElem?_eq_some_iff.mp h5).1]; exact h5) h6 h7 h8 (by rw [he]; exact h9)
theorem tw_ir {s0 U : State} {C n d : String} {A B : Array Value} (h : tw_env s0 U) (hl : (Cond.laysStatic C n d).before A s0 = true) (hini : (Cond.initialized C).before A s0 = true) (hr : (Cond.isRef (.static C n d)).before A s0 = true) : (Cond.isRef (.static C n d)).before B U = true := by
  have z := va_Zqof (A := fun q => s0.heap.size ≤ q) hl hini hr (fun a ha => by show ¬ s0.heap.size ≤ a; omega)
  have z1 := (va_Zq.moved h.1.alike z).kept (H1 := U.heap) (fun a h1 _ => h.2.2 a h1)
  rcases z1 with ⟨_, _, _, _, _, _, h1, h2, h3, h4, h5, h6, h7, -⟩ | ⟨t, _, _, _, _, _, _, h1, h2, h3, h4, h5, h6, h7, -⟩
  · have he : (Term.static C n d).eval B U none [] U = some .null := by simp [Term.eval, State.fieldNamed?, h1, h2, h4, h5, h6, h7]
    simp [Cond.before, Cond.holds, Cond.value, he]
  · have he : (Term.static C n d).eval B U none [] U = some (.ref t) := by simp [Term.eval, State.fieldNamed?, h1, h2, h4, h5, h6, h7]
    simp [Cond.before, Cond.holds, Cond.value, he]
/-- a word of the tables that any warming leaves: good, or of the two kinds beside -/
def tw_ok (w : Cond) : Bool := goodWord w || (match w with
  | .declares _ => true
  | .castable _ _ => true
  | .laysStatic _ _ _ => true
  | _ => false)
theorem tw_word {s0 U : State} {w : Cond} {A B : Array Value} (h : tw_env s0 U) (hk : tw_ok w = true) (hw : w.before A s0 = true) : w.before B U = true := by
  unfold tw_ok at hk
  rw [Bool.or_eq_true] at hk
  rcases hk with hk | hk
  · exact word_at h.1 (good_of_word hk) hw
  · cases w with
    | declares x => exact va_tabs rfl (rfl : U.vm = U.vm) (va_Nw.warmD h.1 (va_tabs rfl (rfl : s0.vm = s0.vm) hw))
    | castable x y => exact va_tabs rfl (rfl : U.vm = U.vm) (va_Nw.warmC h.1 (va_tabs rfl (rfl : s0.vm = s0.vm) hw))
    | laysStatic x y z => exact tw_ls h hw
    | _ => cases hk
def tw_names : List String := ["java/lang/RuntimeException", "java/lang/Exception"]
def tw_E : String := "java/util/NoSuchElementException"
def tw_ws : List Cond := Bundle.ownAtomsX "CatCourt" 162 tw_E 13 prog_22_method_4_code tw_names
def tw_r1 : Cond := .isRef (.static Bundle.tN "UNASSIGNED_STACK" Bundle.steD)
def tw_r2 : Cond := .isRef (.static Bundle.tN "SUPPRESSED_SENTINEL" Bundle.listD)
set_option maxRecDepth 100000 in
theorem tw_ws_in : tw_ws.all (fun w => decide (w = tw_r1) || decide (w = tw_r2) || (tw_ok w && decide (w ∈ tables_1))) = true := by decide +kernel
theorem tw_words {s0 U : State} {A B : Array Value} (h : tw_env s0 U) (ht : ∀ w ∈ tables_1, w.before A s0 = true) (h1 : tw_r1.before A s0 = true) (h2 : tw_r2.before A s0 = true) : ∀ w ∈ tw_ws, w.before B U = true := by
  intro w hw
  have h9 := List.all_eq_true.mp tw_ws_in w hw
  simp only [Bool.or_eq_true, Bool.and_eq_true, decide_eq_true_eq] at h9
  rcases h9 with (rfl | rfl) | ⟨g1, g2⟩
  · exact tw_ir h (ht _ (List.mem_of_getElem? (i := 1030) (by decide +kernel))) (ht _ (List.mem_of_getElem? (i := 14) (by decide +kernel))) h1
  · exact tw_ir h (ht _ (List.mem_of_getElem? (i := 1032) (by decide +kernel))) (ht _ (List.mem_of_getElem? (i := 14) (by decide +kernel))) h2
  · exact tw_word h g1 (ht w g2)
end TW6
