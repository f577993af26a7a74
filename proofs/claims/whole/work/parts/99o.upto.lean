/-! A RUN UP TO A PLACE, and what follows from it -/
def pz_rn (tf : Nat → Nat → Nat) (C : Nat → List pz_V → pz_X → pz_A) (bk : Nat → List pz_E) (rc rs : Nat) : Nat → Nat → List pz_E → List pz_V → List pz_V → pz_X → Option (Nat × List pz_V × List pz_V × pz_X)
  | 0, pc, _, ls, st, X => some (pc, ls, st, X)
  | k + 1, pc, [], ls, st, X => pz_rn tf C bk rc rs k pc (bk pc) ls st X
  | k + 1, pc, e :: r, ls, st, X => match pz_stp tf rc rs e pc ls st X with
    | some (.inl (ls', st', X')) => pz_rn tf C bk rc rs k (pc + e.2.1) r ls' st' X'
    | some (.inr (.inl (pc', ls', st', X'))) => pz_rn tf C bk rc rs k pc' [] ls' st' X'
    | some (.inr (.inr (.inr (y, as, rest, mc, ms)))) => match C y as (pz_z X) with
      | none => none
      | some (v, X') => pz_rn tf C bk rc rs k (pc + 3) r ls (v.toList ++ rest) (pz_b X X' mc ms)
    | _ => none
section PRN
variable {base : Nat} {stt : Nat → Nat} {cA : Nat → ClassId} {D : va_G} {ss : List (Nat × Nat)} {stc : Nat → Nat → Int} {p : Program} {l : Launch} {e : Env} {R : Room} {s : State} {m : MethodId} {args : Array Value} {below : List Frame} {meth : Method} {c : Code} {Q : State → Prop} {cc : ByteArray} {own : String} {nL : Nat}
theorem pz_rn_snd {mi : Nat → Option pz_I} {rt : Option FieldType} {C : Nat → List pz_V → pz_X → pz_A} {bk : Nat → List pz_E} {rc rs dp : Nat} {pc2 : Nat} {ls2 st2 : List pz_V} {X2 : pz_X} (h : pz_cx base stt cA D ss stc p R s m args c cc own nL) (hB : ∀ pc, pz_okL mi (fun _ => False) own meth.name cc rt pc (bk pc)) (hC : pz_Cs base stt cA D ss stc l mi dp C) (hRf : dp + 1 ≤ R.frames) (hRl : 64 * (dp + 1) ≤ R.locals) (hrc : rc ≤ R.cells) (hrs : rs ≤ R.slots)
    (K : pz_N base stt cA D ss stc p l e R s m args below meth c Q nL pc2 ls2 st2 X2) : ∀ (k pc : Nat) (su : List pz_E) (ls st : List pz_V) (X : pz_X), pz_okL mi (fun _ => False) own meth.name cc rt pc su → pz_rn pz_tf C bk rc rs k pc su ls st X = some (pc2, ls2, st2, X2) → pz_N base stt cA D ss stc p l e R s m args below meth c Q nL pc ls st X
  | 0, pc, su, ls, st, X, _, hr => by
    have e9 : (pc, ls, st, X) = (pc2, ls2, st2, X2) := Option.some.inj hr
    cases e9
    exact K
  | k + 1, pc, [], ls, st, X, _, hr => by
    rw [pz_rn] at hr
    exact pz_rn_snd h hB hC hRf hRl hrc hrs K k pc (bk pc) ls st X (hB pc) hr
  | k + 1, pc, en :: r, ls, st, X, ho, hr => by
    obtain ⟨hE, hL⟩ := ho
    rw [pz_rn] at hr
    cases hs : pz_stp pz_tf rc rs en pc ls st X with
    | none => rw [hs] at hr; cases hr
    | some o =>
      refine pz_step h hE hC hRf hRl hrc hrs (fun q => q.elim) hs ?_
      rw [hs] at hr
      match o, hs, hr with
      | .inl (ls', st', X'), hs, hr => exact pz_rn_snd h hB hC hRf hRl hrc hrs K k _ r ls' st' X' hL hr
      | .inr (.inl (pc', ls', st', X')), hs, hr => exact pz_rn_snd h hB hC hRf hRl hrc hrs K k pc' [] ls' st' X' trivial hr
      | .inr (.inr (.inl q')), hs, hr => cases hr
      | .inr (.inr (.inr (y, as, rest, mc, ms))), hs, hr =>
        have e3 := pz_okE_call hE hs
        dsimp only at hr
        cases hc : C y as (pz_z X) with
        | none => rw [hc] at hr; cases hr
        | some w =>
          obtain ⟨rv, Y⟩ := w
          rw [hc] at hr
          rw [e3] at hL
          exact ⟨rv, Y, hc, pz_rn_snd h hB hC hRf hRl hrc hrs K k _ r ls _ _ hL hr⟩
end PRN
section CT1
variable {d dd : Nat} {M : pz_M} {ss : List (Nat × Nat)} {p0 p1 : Int}
theorem cat_to21 (h6 : M 0 6 = 9) (h9 : M 9 0 = 10) (hg : ¬((0 ≤ p0 ∧ p0 < M 10 141) ∧ 0 ≤ p1 ∧ p1 < 7)) : ∃ k, pz_rn pz_tf (pz_cal (d + 2)) (pz_bk bl_CC_cat) 1 6 k 0 [] [(2, 0), (0, p0), (0, p1)] [] ((pz_SH, ss, 0, 0, dd), M) = some (21, [(2, 0), (0, p0), (0, p1)], [], ((pz_SH, ss, 0, 0, dd), M)) := by
  have b : pz_bk bl_CC_cat 0 = [(.aload_n 0, 1, 0, 0, 0, 0, 0), (.getfield 45, 3, 10, 6, 2, 0, 0), (.iload_n 1, 1, 1, 0, 0, 0, 0), (.invokevirtual 155, 3, 17, 1, 0, 0, 0), (.ifCond .eq 13, 3, 21, 0, 0, 0, 0), (.iload_n 2, 1, 2, 0, 0, 0, 0), (.ifCond .lt 9, 3, 21, 0, 0, 0, 0), (.iload_n 2, 1, 2, 0, 0, 0, 0), (.bipush 7, 2, 0, 0, 0, 0, 7), (.if_icmp .lt 13, 3, 31, 0, 0, 0, 0)] := rfl
  have q := c_Co_hasCat (d := d) (ss := ss) (dd := dd) (M := M) (r := 9) (c := p0) h_9 (by rw [show (9 : Int).toNat = 9 from rfl, h9]; exact h_10) (by decide)
  rw [show (9 : Int).toNat = 9 from rfl, h9, show (10 : Int).toNat = 10 from rfl] at q
  have g0 : pz_sh ((pz_SH, ss, 0, 0, dd), M) 0 = some (10, 17) := h_0
  have g9 : pz_sh ((pz_SH, ss, 0, 0, dd), M) 9 = some (0, 1) := h_9
  by_cases a : 0 ≤ p0 ∧ p0 < M 10 141
  · rw [if_pos a] at q
    by_cases n1 : p1 < 0
    · refine ⟨8, ?_⟩
      simp [pz_rn, b, pz_stp, pz_ld, pz_nx, pz_r1, pz_gf, g0, g9, h6, pz_cl, pz_wt, pz_z, q, pz_b, pz_u1, pz_u2, pz_c1, pz_jp, n1]
    · refine ⟨11, ?_⟩
      have n2 : ¬ p1 < 7 := fun h => hg ⟨a, by omega, h⟩
      simp [pz_rn, b, pz_stp, pz_ld, pz_nx, pz_r1, pz_gf, g0, g9, h6, pz_cl, pz_wt, pz_z, q, pz_b, pz_u1, pz_u2, pz_c1, pz_jp, n1, n2]
  · rw [if_neg a] at q
    refine ⟨6, ?_⟩
    simp [pz_rn, b, pz_stp, pz_ld, pz_nx, pz_r1, pz_gf, g0, g9, h6, pz_cl, pz_wt, pz_z, q, pz_b, pz_u1, pz_u2, pz_c1, pz_jp]
end CT1
