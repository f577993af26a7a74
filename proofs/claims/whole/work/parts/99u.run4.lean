/-! THE LAW'S RUN: its own callee, at 427 -/
def ck427 : Nat → List pz_E → Bool
  | _, [] => true
  | pc, en :: r => (!(pc == 427) || decide (en.2 = ((3, 297, 4, 1, 6, 0) : Nat × Nat × Nat × Nat × Nat × Int))) && ck427 (pc + en.2.1) r
set_option maxRecDepth 100000 in
theorem lw_427 (pc : Nat) : ck427 pc (pz_bk bl_Lw_law pc) = true := by
  refine pz_lookup (P := fun pc su => ck427 pc su = true) (fun _ => rfl) (fun q hq => ?_) pc
  exact List.all_eq_true.mp (show bl_Lw_law.all (fun q => ck427 q.1 q.2) = true by decide +kernel) q hq
section SN427
variable {base : Nat} {stt : Nat → Nat} {cA : Nat → ClassId} {D : va_G} {ss : List (Nat × Nat)} {stc : Nat → Nat → Int} {p : Program} {l : Launch} {e : Env} {R : Room} {s : State} {m : MethodId} {args : Array Value} {below : List Frame} {meth : Method} {c : Code} {Q : State → Prop} {cc : ByteArray} {own : String} {nL : Nat}
theorem pz_run_snd4 {mi : Nat → Option pz_I} {rt : Option FieldType} {C : Nat → List pz_V → pz_X → pz_A} {bk : Nat → List pz_E} {rc rs dp : Nat} {q : Option pz_V × pz_X} (h : pz_cx base stt cA D ss stc p R s m args c cc own nL) (hB : ∀ pc, pz_okL mi (fun pc => pc = 427) own meth.name cc rt pc (bk pc)) (hC : pz_Cs base stt cA D ss stc l mi dp C) (hRf : dp + 1 ≤ R.frames) (hRl : 64 * (dp + 1) ≤ R.locals) (hrc : rc ≤ R.cells) (hrs : rs ≤ R.slots)
    (hSP : ∀ (as rest : List pz_V) (ls : List pz_V) (X Y : pz_X) (rv : Option pz_V), C 297 as (pz_z X) = some (rv, Y) → as.length = 4 → pz_wt rest ≤ 8 → X.1.2.2.1 + 1 ≤ R.cells → X.1.2.2.2.1 + 6 ≤ R.slots → pz_N base stt cA D ss stc p l e R s m args below meth c Q nL (427 + 3) ls (rv.toList ++ rest) (pz_b X Y 1 6) → pz_N base stt cA D ss stc p l e R s m args below meth c Q nL 427 ls (as.reverse ++ rest) X) (hB2 : ∀ pc, ck427 pc (bk pc) = true)
    (hEn : q.2.1.2.2.1 ≤ rc → q.2.1.2.2.2.1 ≤ rs → pz_En base stt cA D ss stc p l e R s m args below meth c Q cc rt q) : ∀ (k pc : Nat) (su : List pz_E) (ls st : List pz_V) (X : pz_X), pz_okL mi (fun pc => pc = 427) own meth.name cc rt pc su → ck427 pc su = true → pz_run pz_tf C bk rc rs k pc su ls st X = some q → pz_N base stt cA D ss stc p l e R s m args below meth c Q nL pc ls st X
  | 0, _, _, _, _, _, _, _, hr => by simp [pz_run] at hr
  | k + 1, pc, [], ls, st, X, _, _, hr => by
    rw [pz_run] at hr
    exact pz_run_snd4 h hB hC hRf hRl hrc hrs hSP hB2 hEn k pc (bk pc) ls st X (hB pc) (hB2 pc) hr
  | k + 1, pc, en :: r, ls, st, X, ho, hg, hr => by
    obtain ⟨hE, hL⟩ := ho
    rw [ck427, Bool.and_eq_true] at hg
    obtain ⟨hg1, hg2⟩ := hg
    rw [pz_run] at hr
    cases hs : pz_stp pz_tf rc rs en pc ls st X with
    | none => rw [hs] at hr; cases hr
    | some o =>
      refine pz_step h hE hC hRf hRl hrc hrs (fun hp => ?_) hs ?_
      · have hp : pc = 427 := hp
        subst hp
        obtain ⟨i, e2⟩ := en
        have h9 : e2 = ((3, 297, 4, 1, 6, 0) : Nat × Nat × Nat × Nat × Nat × Int) := by simpa using hg1
        subst h9
        exact hSP
      rw [hs] at hr
      match o, hs, hr with
      | .inl (ls', st', X'), hs, hr => exact pz_run_snd4 h hB hC hRf hRl hrc hrs hSP hB2 hEn k _ r ls' st' X' hL hg2 hr
      | .inr (.inl (pc', ls', st', X')), hs, hr => exact pz_run_snd4 h hB hC hRf hRl hrc hrs hSP hB2 hEn k pc' [] ls' st' X' trivial rfl hr
      | .inr (.inr (.inl q')), hs, hr =>
        have e1 : q' = q := Option.some.inj hr
        subst e1
        exact hEn
      | .inr (.inr (.inr (y, as, rest, mc, ms))), hs, hr =>
        have e3 := pz_okE_call hE hs
        dsimp only at hr
        cases hc : C y as (pz_z X) with
        | none => rw [hc] at hr; cases hr
        | some w =>
          obtain ⟨rv, Y⟩ := w
          rw [hc] at hr
          rw [e3] at hL hg2
          exact ⟨rv, Y, hc, pz_run_snd4 h hB hC hRf hRl hrc hrs hSP hB2 hEn k _ r ls _ _ hL hg2 hr⟩
end SN427
