section SN20
variable {base : Nat} {stt : Nat → Nat} {cA : Nat → ClassId} {D : va_G} {ss : List (Nat × Nat)} {stc : Nat → Nat → Int} {p : Program} {l : Launch} {e : Env} {R : Room} {s : State} {m : MethodId} {args : Array Value} {below : List Frame} {meth : Method} {c : Code} {Q : State → Prop} {cc : ByteArray} {own : String} {nL pc : Nat} {ls : List pz_V} {X : pz_X}
variable {y : MethodName} {bts : ByteArray} {n2 : Nat} {rt : Option FieldType} {rm : Room} {mc ms : Nat} {rv : Option pz_V} {Y : pz_X} {idx np : Nat} {hh : List (Nat × Nat × Nat × Nat)}
theorem tw_preS {s0 : State} {H : Heap} {locs : List Loc} {as : List pz_V} (h : pz_cx base stt cA D ss stc p R s m args c cc own nL) (hb : base = s0.heap.size) (he : tw_env s0 s) (hR : pz_r base stt cA D ss stc X H) (hS : va_S (pz_Z base) s.heap H locs) (hok : pz_okl as) : PreS s H (fun v U => pz_Pc base stt cA D ss stc as (pz_z X) v U ∧ tw_env s0 U) (as.map (pz_tv base stt)) := by
  obtain ⟨h1, h2⟩ := pz_preS h hR hS hok
  refine ⟨fun a U g mk hP => ⟨h1 a U g mk hP.1, hP.2⟩, fun U hU hW => ⟨h2 U hU hW, tw_env_t he hW (by rw [hU]; exact hS.1) (fun q hq => ?_)⟩⟩
  rw [hU]
  exact hS.2.1 q (Nat.lt_of_lt_of_le hq he.2.1) (fun h => absurd h (by show ¬ base ≤ q; omega))
end SN20
section SN21
variable {base : Nat} {stt : Nat → Nat} {cA : Nat → ClassId} {D : va_G} {ss : List (Nat × Nat)} {stc : Nat → Nat → Int} {p : Program} {l : Launch} {e : Env} {R : Room} {s : State} {m : MethodId} {args : Array Value} {below : List Frame} {meth : Method} {c : Code} {Q : State → Prop} {cc : ByteArray} {own : String} {nL pc : Nat} {ls : List pz_V} {X : pz_X}
variable {y : MethodName} {bts : ByteArray} {n2 : Nat} {rt : Option FieldType} {rm : Room} {mc ms : Nat} {rv : Option pz_V} {Y : pz_X} {idx np : Nat} {hh : List (Nat × Nat × Nat × Nat)}
/-- a static call of a method with a table of handlers -/
theorem sn_callSW {s0 : State} {as rest : List pz_V} (h : pz_cx base stt cA D ss stc p R s m args c cc own nL) (hb : base = s0.heap.size) (he : tw_env s0 s) (hd : decode cc pc = .ok (.invokestatic idx, 3)) (hM : Met l y (Cond.codeWith y bts n2 rt hh :: lw_g) rm (fun v U => pz_Pc base stt cA D ss stc as (pz_z X) v U ∧ tw_env s0 U) (pz_Qc base stt cA D ss stc rv Y) mc ms (pz_Z base))
    (hrc : rm.cells = mc) (hrs : rm.slots = ms) (hRo : rm.frames + 1 ≤ R.frames ∧ 8 + (n2 + 11) + rm.locals ≤ R.locals) (hc1 : X.1.2.2.1 + mc ≤ R.cells) (hc2 : X.1.2.2.2.1 + ms ≤ R.slots) (hcode : Cond.codeWith y bts n2 rt hh ∈ lw_g) (hini : Cond.initialized y.cls ∈ lw_g) (hst : Cond.static y ∈ lw_g) (hlk : Cond.methodLink own idx y ∈ lw_g)
    (hy : y.cls ≠ "java/lang/invoke/MethodHandle" ∧ y.cls ≠ "java/lang/invoke/VarHandle" ∧ (parseMethodDescriptor y.desc).map (fun d => d.parameters.length) = some np) (hnp : as.length = np) (hw : pz_wt rest ≤ 8) (kk : pz_N base stt cA D ss stc p l e R s m args below meth c Q nL (pc + 3) ls (rv.toList ++ rest) (pz_b X Y mc ms)) : pz_N base stt cA D ss stc p l e R s m args below meth c Q nL pc ls (as.reverse ++ rest) X := by
  intro H locs mls hR hS hl hs
  have hoka : pz_okl as := fun v hv => hs v (List.mem_append_left _ (List.mem_reverse.mpr hv))
  have hokr : pz_okl rest := fun v hv => hs v (List.mem_append_right _ hv)
  have hwt := pz_wt_eq (base := base) (stt := stt) rest hokr
  have hp := tw_preS h hb he hR hS hoka
  have hG : GoodIn lw_g (Cond.codeWith y bts n2 rt hh :: lw_g) := pz_good (fun w hw => by rcases List.mem_cons.mp hw with e | e; exact e ▸ hcode; exact e)
  obtain ⟨g1, g2, g3, g4, g5, g6, g7, -⟩ := id h
  have e9 : (as.reverse ++ rest).map (pz_tv base stt) = (as.map (pz_tv base stt)).reverse ++ rest.map (pz_tv base stt) := by rw [List.map_append, List.map_reverse]
  rw [e9]
  refine pz_after (nL := nL) (ls := ls) (a := (as.map (pz_tv base stt)).toArray) ?_ hR hS hl hokr kk
  have hK : Back l R p e below s args y 3 8 (PreOf R mc ms (fun v U => pz_Pc base stt cA D ss stc as (pz_z X) v U ∧ tw_env s0 U)) (PostOf (pz_Qc base stt cA D ss stc rv Y) mc ms (pz_Z base)) := va_backW (hh := hh) (bytes := bts) (maxL := n2) (ret := rt) hM hp.1 hrc hrs hRo.1 hRo.2 (pay_in g5 hG) List.mem_cons_self (fun a' U hW => word_at hW (good_of_word (List.mem_filter.mp hini).2) (g5 _ hini))
  intro T hT X1
  obtain ⟨mk, methM, cM, hn, hm1, -, -, -, -, -, -, hsig⟩ := Cond.codeWith_spec (g5 _ hcode)
  have hstt : methM.isStatic = true := Cond.static_spec hn hm1 (g5 _ hst)
  obtain ⟨kP, hkP, -⟩ := className_of_methodNamed hn
  have hinit : kP.init = .initialized := Cond.initialized_spec (findClass_of_methodNamed hn) hkP (g5 _ hini)
  have hlen : (as.map (pz_tv base stt)).length = methM.sig.parameters.length := by
    have h2 := hy.2.2
    rw [hsig] at h2
    rw [List.length_map, hnp]
    exact (Option.some.inj h2).symm
  obtain ⟨v1, X2, st1⟩ := X1.invokestatic g1 g4 (g5 _ hlk) hn hm1 hstt hkP hinit ⟨hy.1, hy.2.1⟩ (g := F0 m pc mls ((as.map (pz_tv base stt)).reverse ++ rest.map (pz_tv base stt))) rfl (argsL := as.map (pz_tv base stt)) (rest := rest.map (pz_tv base stt)) hlen rfl (by rw [g2]; exact hd)
  obtain ⟨v, ⟨U2, l2, c2, n9⟩, X3, ⟨g', mk', t, L, e1, e2, hq, q1, hL, q2, q3⟩, st2⟩ := hK m meth c ⟨T.setVm v1, locs, X.1.2.2.1, X.1.2.2.2.1⟩ { F0 m pc mls ((as.map (pz_tv base stt)).reverse ++ rest.map (pz_tv base stt)) with stack := rest.map (pz_tv base stt) } (.invokestatic idx) mk (as.map (pz_tv base stt)).toArray X2 rfl (hl.1.trans g3.symm) (by rw [g2]; exact hd) (lv_room (by rw [hwt]; exact hw)) (X2.named hn) ⟨hc1, hc2, hp.2 (T.setVm v1) hT X2.warmed⟩
  dsimp only [Pt.U, Pt.locs, Pt.cells, Pt.slots] at X3 e1 e2 q1 q2 q3 st2
  subst q1; subst q2; subst q3
  exact ⟨v, (T.setVm v1).calling g' mk' (as.map (pz_tv base stt)).toArray, t, U2, L, hT, X3, hL, e1, e2, hq, fun target h9 => st1 _ fun acts => by rw [doInvoke_state]; exact st2.trans h9⟩
end SN21
