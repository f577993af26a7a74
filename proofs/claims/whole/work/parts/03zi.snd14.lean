/-! THE PURE MACHINE IS SOUND: a method's contract out of its pure run -/
section SN14
variable {base : Nat} {stt : Nat → Nat} {cA : Nat → ClassId} {D : va_G} {ss : List (Nat × Nat)} {stc : Nat → Nat → Int} {l : Launch}
theorem pz_met_of {mi : Nat → Option pz_I} {I : pz_I} {C : Nat → List pz_V → pz_X → pz_A} {bk : Nat → List pz_E} {d : Nat} {as : List pz_V} {X Y : pz_X} {rv : Option pz_V} (hp : plainName I.1.cls = true) (hB : ∀ pc, pz_okL mi (fun _ => False) I.1.cls I.1.name I.2.1 I.2.2.2.1 pc (bk pc)) (hC : pz_Cs base stt cA D ss stc l mi d C) (hn : (pz_en as).length ≤ I.2.2.1) (h1 : X.1.2.2.1 = 0) (h2 : X.1.2.2.2.1 = 0)
    (hg : pz_go pz_tf C bk I.2.2.2.2.2.1 I.2.2.2.2.2.2 0 [] (pz_el I.2.2.1 as) [] X = some (rv, Y)) : Met l I.1 (pz_ws I.1 I.2.1 I.2.2.1 I.2.2.2.1) (pz_rm (d + 1) I) (pz_Pc base stt cA D ss stc as X) (pz_Qc base stt cA D ss stc rv Y) I.2.2.2.2.2.1 I.2.2.2.2.2.2 (pz_Z base) := by
  obtain ⟨k, hk⟩ := pz_go_some.mp hg
  refine Met.ofW (cc := I.2.1) (maxL := I.2.2.1) (ret := I.2.2.2.1) hp rfl ?_
  intro p e s m args below meth c s₁ B hml hv
  obtain ⟨rfl, hok, hR, hK, hst, hbase⟩ := hv
  have hts := atoms_spec (ws := pz_ws I.1 I.2.1 I.2.2.1 I.2.2.2.1) B.pre
  have hcx : pz_cx base stt cA D ss stc p (pz_rm (d + 1) I) s m (as.map (pz_tv base stt)).toArray c I.2.1 I.1.cls I.2.2.1 :=
    ⟨B.exec, B.bytes, hml, findClass_of_methodNamed B.named, fun w hw => hts w (List.mem_cons_of_mem _ hw), hK, hst, hbase, by show 1 ≤ d + 1; omega, by show 64 ≤ 64 * (d + 1); omega⟩
  have hname : meth.name = I.1.name := (name_of_methodNamed B.named B.method).1
  have hN := pz_run_snd (base := base) (stt := stt) (cA := cA) (D := D) (ss := ss) (stc := stc) (p := p) (l := l) (e := e) (R := pz_rm (d + 1) I) (s := s) (m := m) (args := (as.map (pz_tv base stt)).toArray) (below := below) (meth := meth) (c := c) (Q := MQ below (pz_Qc base stt cA D ss stc rv Y) (as.map (pz_tv base stt)).toArray s I.2.2.2.2.2.1 I.2.2.2.2.2.2 (pz_Z base)) (mi := mi) (SP := fun _ => False) (rt := I.2.2.2.1) (C := C) (bk := bk) (rc := I.2.2.2.2.2.1) (rs := I.2.2.2.2.2.2) (dp := d) (q := (rv, Y)) hcx (fun pc => by rw [hname]; exact hB pc) hC (Nat.le_refl _) (Nat.le_refl _) (Nat.le_refl _) (Nat.le_refl _) (fun _ _ _ q => q.elim) (fun q1 q2 => pz_En_of hcx B.returns B.notSynchronized q1 q2) k 0 [] (pz_el I.2.2.1 as) [] X trivial hk
  have hW := hN s.heap [] _ hR va_S.rf (pz_lr_entry hok hn) (fun v hv => by cases hv)
  rw [h1, h2] at hW
  rw [lg_entry_eq]
  exact hW
end SN14
