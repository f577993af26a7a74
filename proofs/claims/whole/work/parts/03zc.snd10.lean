/-! THE PURE MACHINE IS SOUND: calls -/
def pz_Pc (base : Nat) (stt : Nat → Nat) (cA : Nat → ClassId) (D : va_G) (ss : List (Nat × Nat)) (stc : Nat → Nat → Int) (as : List pz_V) (X : pz_X) : Array Value → State → Prop := fun v U =>
  v = (as.map (pz_tv base stt)).toArray ∧ pz_okl as ∧ pz_r base stt cA D ss stc X U.heap ∧ va_K D pz_cls (pz_tys cA) U ∧ pz_st base stt ss stc U ∧ base ≤ U.heap.size
def pz_Qc (base : Nat) (stt : Nat → Nat) (cA : Nat → ClassId) (D : va_G) (ss : List (Nat × Nat)) (stc : Nat → Nat → Int) (rv : Option pz_V) (Y : pz_X) : Array Value → State → Outcome → State → Prop := fun _ st oc t =>
  oc = .returned (rv.map (pz_tv base stt)) ∧ pz_r base stt cA D ss stc Y t.heap ∧ (∀ q, q < base → t.heap[q]? = st.heap[q]?) ∧ st.heap.size ≤ t.heap.size ∧ ∀ v, rv = some v → v.1 < 3 ∧ pz_okv v
def pz_ws (y : MethodName) (bts : ByteArray) (n : Nat) (rt : Option FieldType) : List Cond := Cond.code y bts n rt :: lw_g
theorem pz_st_moved {base : Nat} {stt : Nat → Nat} {ss : List (Nat × Nat)} {stc : Nat → Nat → Int} {u U : State} (hW : u.WarmedH U.vm) (hq : ∀ a : Nat, a < u.heap.size → ¬ pz_Z base a → U.heap[a]? = u.heap[a]?) (h : pz_st base stt ss stc u) : pz_st base stt ss stc U :=
  ⟨fun i q hi => ((h.1 i q hi).kept hq).moved hW.alike, fun i sh hi => ⟨(h.2.1 i sh hi).1, (h.2.1 i sh hi).2.1, ((h.2.1 i sh hi).2.2.1.kept hq).moved hW.alike, (h.2.1 i sh hi).2.2.2⟩, pz_xw_warm hW h.2.2⟩
theorem pz_blind {base : Nat} {stt : Nat → Nat} {cA : Nat → ClassId} {D : va_G} {ss : List (Nat × Nat)} {stc : Nat → Nat → Int} {as : List pz_V} {X : pz_X} : FrameBlind (pz_Pc base stt cA D ss stc as X) := by
  intro a U g mk h
  obtain ⟨h1, h2, h3, h4, h5, h6⟩ := h
  exact ⟨h1, h2, h3, va_K.moved (u := U) (U := U.calling g mk a) (Vm.Alike.refl _) h4, pz_st_moved (u := U) (U := U.calling g mk a) (State.WarmedH.refl U) (fun _ _ _ => rfl) h5, h6⟩
theorem pz_good {L : List Cond} (h : ∀ w ∈ L, w ∈ lw_g) : GoodIn lw_g L := fun w hw => ⟨h w hw, good_of_word (List.mem_filter.mp (h w hw)).2⟩
section SN10
variable {base : Nat} {stt : Nat → Nat} {cA : Nat → ClassId} {D : va_G} {ss : List (Nat × Nat)} {stc : Nat → Nat → Int}
variable {p : Program} {l : Launch} {e : Env} {R : Room} {s : State} {m : MethodId} {args : Array Value} {below : List Frame} {meth : Method} {c : Code} {Q : State → Prop} {cc : ByteArray} {own : String} {nL : Nat}
variable {pc : Nat} {ls st : List pz_V} {X : pz_X}
theorem pz_r_b {X Y : pz_X} {mc ms : Nat} {H : Heap} (hX : X.1.2.1 = ss) (hY : pz_r base stt cA D ss stc Y H) : pz_r base stt cA D ss stc (pz_b X Y mc ms) H :=
  ⟨hY.1, hY.2.1, hY.2.2.1, hY.2.2.2.1, hX, hY.2.2.2.2.2⟩
theorem pz_r_z {X : pz_X} {H : Heap} (h : pz_r base stt cA D ss stc X H) : pz_r base stt cA D ss stc (pz_z X) H := h
theorem pz_after {H : Heap} {locs : List Loc} {mls : Array Slot} {mc ms : Nat} {rv : Option pz_V} {Y : pz_X} {rest : List pz_V} {st0 : List Value} {a : Array Value} (hr : va_Run p l e R s m args below meth c H locs X.1.2.2.1 X.1.2.2.2.1 mc ms (F0 m pc mls st0) (rest.map (pz_tv base stt)) (pz_Qc base stt cA D ss stc rv Y a) (pz_Z base))
    (hR : pz_r base stt cA D ss stc X H) (hS : va_S (pz_Z base) s.heap H locs) (hl : pz_lr base stt mls nL ls) (hrest : pz_okl rest) (kk : pz_N base stt cA D ss stc p l e R s m args below meth c Q nL (pc + 3) ls (rv.toList ++ rest) (pz_b X Y mc ms)) : W p l e R s m args below meth c H locs X.1.2.2.1 X.1.2.2.2.1 Q (F0 m pc mls st0) := by
  intro T hT Xs
  obtain ⟨v, st₀, t, T', L, h0, X', hL, e1, e2, ⟨hv, hY, hold, hsz, hok⟩, gs⟩ := hr T hT Xs
  have hv : v = rv.map (pz_tv base stt) := Outcome.returned.inj hv
  subst hv
  have hS' : va_S (pz_Z base) s.heap T'.heap (locs ++ L) := by
    refine ⟨?_, fun q q1 q2 => ?_, fun q hq => ?_⟩
    · rw [e1]
      rw [h0] at hsz
      exact Nat.le_trans hS.1 hsz
    · rw [e1, hold q (by unfold pz_Z at q2; omega), h0]
      exact hS.2.1 q q1 q2
    · rcases List.mem_append.mp hq with h | h
      · exact hS.2.2 q h
      · exact hL q h
  have hokr : pz_okl (rv.toList ++ rest) := by
    intro w hw
    rcases List.mem_append.mp hw with h | h
    · cases rv with
      | none => cases h
      | some x =>
        rw [Option.toList_some, List.mem_singleton] at h
        subst h
        exact hok w rfl
    · exact hrest w h
  obtain ⟨t2, a1, b1⟩ := kk T'.heap (locs ++ L) mls (pz_r_b hR.2.2.2.2.1 (by rw [e1]; exact hY)) hS' hl hokr T' rfl X'
  refine ⟨t2, gs t2 ?_, b1⟩
  have e9 : ((rv.map (pz_tv base stt)).toList ++ rest.map (pz_tv base stt)) = (rv.toList ++ rest).map (pz_tv base stt) := by
    cases rv <;> simp
  show Steps p.tables e below (T'.setTop (F0 m (pc + 3) mls ((rv.map (pz_tv base stt)).toList ++ rest.map (pz_tv base stt)))) t2
  rw [e9]
  exact a1
/-- what a call finds at the callee's start -/
theorem pz_preS {H : Heap} {locs : List Loc} {as : List pz_V} (h : pz_cx base stt cA D ss stc p R s m args c cc own nL) (hR : pz_r base stt cA D ss stc X H) (hS : va_S (pz_Z base) s.heap H locs) (hok : pz_okl as) : PreS s H (pz_Pc base stt cA D ss stc as (pz_z X)) (as.map (pz_tv base stt)) := by
  refine ⟨pz_blind, fun U hU hW => ⟨rfl, hok, by rw [hU]; exact hR, va_K.moved hW.alike h.2.2.2.2.2.1, pz_st_moved hW (fun a h1 h2 => ?_) h.2.2.2.2.2.2.1, ?_⟩⟩
  · rw [hU]
    exact hS.2.1 a h1 h2
  · rw [hU]
    exact Nat.le_trans h.2.2.2.2.2.2.2.1 hS.1
variable {y : MethodName} {bts : ByteArray} {n2 : Nat} {rt : Option FieldType} {rm : Room} {mc ms : Nat} {rv : Option pz_V} {Y : pz_X} {idx np : Nat}
theorem sn_callS {as rest : List pz_V} (h : pz_cx base stt cA D ss stc p R s m args c cc own nL) (hd : decode cc pc = .ok (.invokestatic idx, 3)) (hM : Met l y (pz_ws y bts n2 rt) rm (pz_Pc base stt cA D ss stc as (pz_z X)) (pz_Qc base stt cA D ss stc rv Y) mc ms (pz_Z base))
    (hrc : rm.cells = mc) (hrs : rm.slots = ms) (hRo : rm.frames + 1 ≤ R.frames ∧ 8 + (n2 + 11) + rm.locals ≤ R.locals) (hc1 : X.1.2.2.1 + mc ≤ R.cells) (hc2 : X.1.2.2.2.1 + ms ≤ R.slots) (hcode : Cond.code y bts n2 rt ∈ lw_g) (hini : Cond.initialized y.cls ∈ lw_g) (hst : Cond.static y ∈ lw_g) (hlk : Cond.methodLink own idx y ∈ lw_g ∨ ∃ host, Cond.methodLinkNest own idx y host ∈ lw_tbl)
    (hy : y.cls ≠ "java/lang/invoke/MethodHandle" ∧ y.cls ≠ "java/lang/invoke/VarHandle" ∧ (parseMethodDescriptor y.desc).map (fun d => d.parameters.length) = some np) (hnp : as.length = np) (hw : pz_wt rest ≤ 8) (kk : pz_N base stt cA D ss stc p l e R s m args below meth c Q nL (pc + 3) ls (rv.toList ++ rest) (pz_b X Y mc ms)) : pz_N base stt cA D ss stc p l e R s m args below meth c Q nL pc ls (as.reverse ++ rest) X := by
  intro H locs mls hR hS hl hs
  have hoka : pz_okl as := fun v hv => hs v (List.mem_append_left _ (List.mem_reverse.mpr hv))
  have hokr : pz_okl rest := fun v hv => hs v (List.mem_append_right _ hv)
  have hwt := pz_wt_eq (base := base) (stt := stt) rest hokr
  have hp := pz_preS h hR hS hoka
  have hG : GoodIn lw_g (pz_ws y bts n2 rt) := pz_good (fun w hw => by rcases List.mem_cons.mp hw with e | e; exact e ▸ hcode; exact e)
  obtain ⟨g1, g2, g3, g4, g5, g6, g7, -⟩ := id h
  have e9 : (as.reverse ++ rest).map (pz_tv base stt) = (as.map (pz_tv base stt)).reverse ++ rest.map (pz_tv base stt) := by rw [List.map_append, List.map_reverse]
  rw [e9]
  refine pz_after (nL := nL) (ls := ls) (a := (as.map (pz_tv base stt)).toArray) ?_ hR hS hl hokr kk
  rcases hlk with hlk | ⟨host, hlk⟩
  · exact va_runS (S := ⟨g1, g2, g3, g4, g5⟩) hM ⟨callB_of (n := np) g5 hG rfl hrc hrs (g5 _ hini) (g5 _ hlk) hy hRo, g5 _ hst⟩ hp rfl (by rw [List.length_map]; exact hnp) hl.1 rfl (lv_room (by rw [hwt]; exact hw)) hd ⟨hc1, hc2⟩
  · exact va_runSN (S := ⟨g1, g2, g3, g4, g5⟩) (host := host) hM ⟨va_cnB (n := np) g5 hG rfl hrc hrs (g7.2.2 _ hlk rfl) (g5 _ hini) hy hRo, g5 _ hst, trivial⟩ hp rfl (by rw [List.length_map]; exact hnp) hl.1 rfl (lv_room (by rw [hwt]; exact hw)) hd ⟨hc1, hc2⟩
end SN10
