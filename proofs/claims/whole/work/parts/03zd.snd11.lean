/-! THE PURE MACHINE IS SOUND: calls on objects, ends -/
section SN11
variable {base : Nat} {stt : Nat → Nat} {cA : Nat → ClassId} {D : va_G} {ss : List (Nat × Nat)} {stc : Nat → Nat → Int}
variable {p : Program} {l : Launch} {e : Env} {R : Room} {s : State} {m : MethodId} {args : Array Value} {below : List Frame} {meth : Method} {c : Code} {Q : State → Prop} {cc : ByteArray} {own : String} {nL : Nat}
variable {pc : Nat} {ls st : List pz_V} {X : pz_X}
variable {y : MethodName} {bts : ByteArray} {n2 : Nat} {rt : Option FieldType} {rm : Room} {mc ms : Nat} {rv : Option pz_V} {Y : pz_X} {idx np : Nat}
theorem sn_callV {as rest : List pz_V} {r : Int} {ci N : Nat} {q : vw_C} (h : pz_cx base stt cA D ss stc p R s m args c cc own nL) (hd : decode cc pc = .ok (.invokevirtual idx, 3)) (hM : Met l y (pz_ws y bts n2 rt) rm (pz_Pc base stt cA D ss stc ((2, r) :: as) (pz_z X)) (pz_Qc base stt cA D ss stc rv Y) mc ms (pz_Z base))
    (hrc : rm.cells = mc) (hrs : rm.slots = ms) (hRo : rm.frames + 1 ≤ R.frames ∧ 8 + (n2 + 11) + rm.locals ≤ R.locals) (hc1 : X.1.2.2.1 + mc ≤ R.cells) (hc2 : X.1.2.2.2.1 + ms ≤ R.slots) (hcode : Cond.code y bts n2 rt ∈ lw_g) (hini : Cond.initialized y.cls ∈ lw_g) (hin : Cond.instanceMethod y ∈ lw_g) (hsel : Cond.selects y.cls y y ∈ lw_g) (hlk : Cond.methodLink own idx y ∈ lw_g)
    (hy : y.cls ≠ "java/lang/invoke/MethodHandle" ∧ y.cls ≠ "java/lang/invoke/VarHandle" ∧ (parseMethodDescriptor y.desc).map (fun d => d.parameters.length) = some np) (hnp : as.length = np) (hw : pz_wt rest ≤ 8) (hsh : pz_sh X r = some (ci, N)) (hr4 : r < 4096) (hcl : pz_cls[ci]? = some q) (hq : q.1 = y.cls) (kk : pz_N base stt cA D ss stc p l e R s m args below meth c Q nL (pc + 3) ls (rv.toList ++ rest) (pz_b X Y mc ms)) : pz_N base stt cA D ss stc p l e R s m args below meth c Q nL pc ls (as.reverse ++ (2, r) :: rest) X := by
  intro H locs mls hR hS hl hs
  have hoka : pz_okl ((2, r) :: as) := fun v hv => by
    rcases List.mem_cons.mp hv with e | e
    · exact hs v (List.mem_append_right _ (e ▸ List.mem_cons_self))
    · exact hs v (List.mem_append_left _ (List.mem_reverse.mpr e))
  have hokr : pz_okl rest := fun v hv => hs v (List.mem_append_right _ (List.mem_cons_of_mem _ hv))
  have hwt := pz_wt_eq (base := base) (stt := stt) rest hokr
  have hp := pz_preS h hR hS hoka
  have hG : GoodIn lw_g (pz_ws y bts n2 rt) := pz_good (fun w hw => by rcases List.mem_cons.mp hw with e | e; exact e ▸ hcode; exact e)
  obtain ⟨g1, g2, g3, g4, g5, g6, g7, -⟩ := id h
  obtain ⟨r0, rq⟩ := pz_sh_heap hsh hr4
  have hclt := pz_cls_lt hcl
  have he := pz_wd_at (base := base) (stt := stt) (cA := cA) rq
  rw [pz_ce_o (by omega)] at he
  have hrecv := va_recv g6 hR.1 hcl he
  rw [hq] at hrecv
  have e8 : ((2, r) :: as).map (pz_tv base stt) = .ref (base + r.toNat) :: as.map (pz_tv base stt) := by rw [List.map_cons, pz_tv_heap r0 hr4]
  rw [e8] at hp
  have e9 : (as.reverse ++ (2, r) :: rest).map (pz_tv base stt) = (as.map (pz_tv base stt)).reverse ++ .ref (base + r.toNat) :: rest.map (pz_tv base stt) := by rw [List.map_append, List.map_reverse, List.map_cons, pz_tv_heap r0 hr4]
  rw [e9]
  refine pz_after (nL := nL) (ls := ls) (a := (Value.ref (base + r.toNat) :: as.map (pz_tv base stt)).toArray) ?_ hR hS hl hokr kk
  exact va_runV (S := ⟨g1, g2, g3, g4, g5⟩) (C := y.cls) hM ⟨callB_of (n := np) g5 hG rfl hrc hrs (g5 _ hini) (g5 _ hlk) hy hRo, g5 _ hin, g5 _ hsel⟩ ⟨hp.1, hrecv, hp.2⟩ rfl (by rw [List.length_map]; exact hnp) hl.1 rfl (lv_room (by rw [hwt]; exact hw)) hd ⟨hc1, hc2⟩
theorem sn_callI {as rest : List pz_V} {r : Int} {N ci : Nat} (h : pz_cx base stt cA D ss stc p R s m args c cc own nL) (hd : decode cc pc = .ok (.invokespecial idx, 3)) (hM : Met l y (pz_ws y bts n2 none) rm (pz_Pc base stt cA D ss stc ((2, r) :: as) (pz_z X)) (pz_Qc base stt cA D ss stc rv Y) mc ms (pz_Z base))
    (hrc : rm.cells = mc) (hrs : rm.slots = ms) (hRo : rm.frames + 1 ≤ R.frames ∧ 8 + (n2 + 11) + rm.locals ≤ R.locals) (hc1 : X.1.2.2.1 + mc ≤ R.cells) (hc2 : X.1.2.2.2.1 + ms ≤ R.slots) (hcode : Cond.code y bts n2 none ∈ lw_g) (hini : Cond.initialized y.cls ∈ lw_g) (hin : Cond.instanceMethod y ∈ lw_g) (hlk : Cond.methodLink own idx y ∈ lw_g ∨ ∃ host, Cond.methodLinkNest own idx y host ∈ lw_tbl) (hy1 : y.name = "<init>")
    (hy : y.cls ≠ "java/lang/invoke/MethodHandle" ∧ y.cls ≠ "java/lang/invoke/VarHandle" ∧ (parseMethodDescriptor y.desc).map (fun d => d.parameters.length) = some np) (hnp : as.length = np) (hw : pz_wt rest ≤ 8) (hr0 : 0 ≤ r) (hr4 : r < 4096) (kk : pz_N base stt cA D ss stc p l e R s m args below meth c Q nL (pc + 3) ls (rv.toList ++ rest) (pz_b X Y mc ms)) : pz_N base stt cA D ss stc p l e R s m args below meth c Q nL pc ls (as.reverse ++ (2, r) :: rest) X := by
  intro H locs mls hR hS hl hs
  have hoka : pz_okl ((2, r) :: as) := fun v hv => by
    rcases List.mem_cons.mp hv with e | e
    · exact hs v (List.mem_append_right _ (e ▸ List.mem_cons_self))
    · exact hs v (List.mem_append_left _ (List.mem_reverse.mpr e))
  have hokr : pz_okl rest := fun v hv => hs v (List.mem_append_right _ (List.mem_cons_of_mem _ hv))
  have hwt := pz_wt_eq (base := base) (stt := stt) rest hokr
  have hp := pz_preS h hR hS hoka
  have hG : GoodIn lw_g (pz_ws y bts n2 none) := pz_good (fun w hw => by rcases List.mem_cons.mp hw with e | e; exact e ▸ hcode; exact e)
  obtain ⟨g1, g2, g3, g4, g5, g6, g7, -⟩ := id h
  have e8 : ((2, r) :: as).map (pz_tv base stt) = .ref (base + r.toNat) :: as.map (pz_tv base stt) := by rw [List.map_cons, pz_tv_heap hr0 hr4]
  rw [e8] at hp
  have e9 : (as.reverse ++ (2, r) :: rest).map (pz_tv base stt) = (as.map (pz_tv base stt)).reverse ++ .ref (base + r.toNat) :: rest.map (pz_tv base stt) := by rw [List.map_append, List.map_reverse, List.map_cons, pz_tv_heap hr0 hr4]
  rw [e9]
  refine pz_after (nL := nL) (ls := ls) (a := (Value.ref (base + r.toNat) :: as.map (pz_tv base stt)).toArray) ?_ hR hS hl hokr kk
  rcases hlk with hlk | ⟨host, hlk⟩
  · exact va_runI (S := ⟨g1, g2, g3, g4, g5⟩) hM ⟨callB_of (n := np) g5 hG rfl hrc hrs (g5 _ hini) (g5 _ hlk) hy hRo, hy1, g5 _ hin⟩ hp rfl (by rw [List.length_map]; exact hnp) hl.1 rfl (lv_room (by rw [hwt]; exact hw)) hd ⟨hc1, hc2⟩
  · exact va_runIN (S := ⟨g1, g2, g3, g4, g5⟩) (host := host) hM ⟨va_cnB (n := np) g5 hG rfl hrc hrs (g7.2.2 _ hlk rfl) (g5 _ hini) hy hRo, hy1, g5 _ hin⟩ hp rfl (by rw [List.length_map]; exact hnp) hl.1 rfl (lv_room (by rw [hwt]; exact hw)) hd ⟨hc1, hc2⟩
theorem sn_objInit {rest : List pz_V} {r : Int} (h : pz_cx base stt cA D ss stc p R s m args c cc own nL) (hd : decode cc pc = .ok (.invokespecial idx, 3)) (hlk : Cond.methodLink own idx objectInit ∈ lw_g) (hin : Cond.instanceMethod objectInit ∈ lw_g) (hco : Cond.code objectInit ⟨#[0xb1]⟩ 1 none ∈ lw_g) (hw : pz_wt rest ≤ 8) (hr0 : 0 ≤ r) (kk : pz_N base stt cA D ss stc p l e R s m args below meth c Q nL (pc + 3) ls rest X) : pz_N base stt cA D ss stc p l e R s m args below meth c Q nL pc ls ((2, r) :: rest) X := by
  intro H locs mls hR hS hl hs
  have hokr := (pz_okl_c.mp hs).2
  have hwt := pz_wt_eq (base := base) (stt := stt) rest hokr
  obtain ⟨g1, g2, g3, g4, g5, g6, -, -, g9, g10⟩ := id h
  have h9 := kk H locs mls hR hS hl hokr
  rw [List.map_cons, show pz_tv base stt (2, r) = .ref (pz_ad base stt r.toNat) from if_neg (by omega)]
  exact W.objInit g1 g2 g4 (g5 _ hlk) (g5 _ hin) (g5 _ hco) rfl (by show mls.size = _; rw [g3]; exact hl.1) rfl hd g9 (by show 2 * 0 + _ + 12 ≤ _; rw [hwt]; omega) h9
/-- how the pure machine's end is the method's -/
def pz_En (base : Nat) (stt : Nat → Nat) (cA : Nat → ClassId) (D : va_G) (ss : List (Nat × Nat)) (stc : Nat → Nat → Int) (p : Program) (l : Launch) (e : Env) (R : Room) (s : State) (m : MethodId) (args : Array Value) (below : List Frame) (meth : Method) (c : Code) (Q : State → Prop) (cc : ByteArray) (rt : Option FieldType) (q : Option pz_V × pz_X) : Prop :=
  ∀ (H : Heap) (locs : List Loc) (mls : Array Slot) (pc : Nat) (st : List pz_V), pz_r base stt cA D ss stc q.2 H → va_S (pz_Z base) s.heap H locs → pz_okl st → q.1.toList = st →
    (match q.1 with
      | none => rt = none ∧ decode cc pc = .ok (.return_, 1)
      | some (0, z) => decode cc pc = .ok (.ireturn, 1) ∧ (rt = some .int ∨ (rt = some .boolean ∧ (z = 0 ∨ z = 1)))
      | some (1, _) => decode cc pc = .ok (.lreturn, 1) ∧ rt = some .long
      | some (_, _) => decode cc pc = .ok (.areturn, 1) ∧ ((∃ n, rt = some (.object n)) ∨ ∃ t, rt = some (.array t))) →
    W p l e R s m args below meth c H locs q.2.1.2.2.1 q.2.1.2.2.2.1 Q (F0 m pc mls (st.map (pz_tv base stt)))
/-- a method's own end -/
theorem pz_En_of {rt : Option FieldType} {q : Option pz_V × pz_X} {mc ms : Nat} (h : pz_cx base stt cA D ss stc p R s m args c cc own nL) (hr : meth.sig.returnType = rt) (hlocks : meth.locks = false) (h1 : q.2.1.2.2.1 ≤ mc) (h2 : q.2.1.2.2.2.1 ≤ ms) : pz_En base stt cA D ss stc p l e R s m args below meth c (MQ below (pz_Qc base stt cA D ss stc q.1 q.2) args s mc ms (pz_Z base)) cc rt q := by
  obtain ⟨rv, Y⟩ := q
  intro H locs mls pc st hR hS hok hst hm
  have hst : rv.toList = st := hst
  refine W.widen h1 h2 ?_
  have hqc : ∀ t : State, t.heap = H → s.WarmedH t.vm → pz_Qc base stt cA D ss stc rv Y args s (.returned (rv.map (pz_tv base stt))) t := by
    intro t ht _
    refine ⟨rfl, by rw [ht]; exact hR, fun q hq => ?_, by rw [ht]; exact hS.1, fun v hv => ?_⟩
    · rw [ht]
      exact hS.2.1 q (Nat.lt_of_lt_of_le hq h.2.2.2.2.2.2.2.1) (by unfold pz_Z; omega)
    · subst hv
      exact hok v (by rw [← hst]; exact List.mem_singleton.mpr rfl)
  have hf : ∀ q ∈ locs, pz_Z base q.base := hS.2.2
  match rv, hst, hm, hqc, hok with
  | none, hst, hm, hqc, _ =>
    subst hst
    obtain ⟨hm1, hm2⟩ := hm
    exact W.vret h.1 h.2.1 (hr.trans hm1) hqc hf hm2 hlocks
  | some (0, z), hst, hm, hqc, hok =>
    subst hst
    obtain ⟨hm1, hm2⟩ := hm
    rcases hm2 with hm2 | ⟨hm2, hz⟩
    · exact W.zret (ty := .int) h.1 h.2.1 (hr.trans hm2) rfl hqc hf hm1 hlocks
    · refine W.zret (ty := .boolean) h.1 h.2.1 (hr.trans hm2) ?_ hqc hf hm1 hlocks
      rcases hz with rfl | rfl
      · exact (by decide : narrow .boolean (.int (Int32.ofInt 0)) = .int (Int32.ofInt 0))
      · exact (by decide : narrow .boolean (.int (Int32.ofInt 1)) = .int (Int32.ofInt 1))
  | some (1, z), hst, hm, hqc, hok =>
    subst hst
    obtain ⟨hm1, hm2⟩ := hm
    exact W.lret h.1 h.2.1 (hr.trans hm2) hqc hf hm1 hlocks
  | some (t + 2, z), hst, hm, hqc, hok =>
    subst hst
    obtain ⟨hm1, hm2⟩ := hm
    have hv : pz_tv base stt (t + 2, z) = .null ∨ ∃ a, pz_tv base stt (t + 2, z) = .ref a := by
      show (if z < 0 then _ else _) = _ ∨ ∃ a, (if z < 0 then _ else _) = _
      split
      · exact Or.inl rfl
      · exact Or.inr ⟨_, rfl⟩
    rcases hm2 with ⟨n, hm2⟩ | ⟨n, hm2⟩
    · exact W.aret h.1 h.2.1 (hr.trans hm2) (Or.inl ⟨n, rfl⟩) hv hqc hf hm1 hlocks
    · exact W.aret h.1 h.2.1 (hr.trans hm2) (Or.inr ⟨n, rfl⟩) hv hqc hf hm1 hlocks
end SN11
