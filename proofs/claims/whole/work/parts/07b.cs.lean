/-! THE CONTRACTS of all methods, at every depth -/
set_option maxRecDepth 40000 in
theorem pz_cs {base : Nat} {stt : Nat → Nat} {cA : Nat → ClassId} {D : va_G} {ss : List (Nat × Nat)} {stc : Nat → Nat → Int} {l : Launch} : ∀ d : Nat, pz_Cs base stt cA D ss stc l pz_mi d (pz_cal d)
  | 0 => by
    intro y I as X rv Y _ _ _ h
    cases h
  | d + 1 => by
    intro y I as X rv Y hI h1 h2 h
    unfold pz_cal at h
    have hI2 : pz_mis[y]? = some I := hI
    rw [hI2] at h
    cases hb : pz_bls[y]? with
    | none =>
      rw [hb] at h
      have hy : y < 296 := (List.getElem?_eq_some_iff.mp hI2).1
      have hy2 : 296 ≤ y := by
        have := List.getElem?_eq_none_iff.mp hb
        exact this
      omega
    | some bl =>
      rw [hb] at h
      dsimp only at h
      split at h
      next hn =>
        have hm : (bl, I) ∈ pz_msL := by
          rw [← pz_msL_eq]
          refine List.mem_of_getElem? (i := y) ?_
          rw [List.getElem?_zip_eq_some]
          exact ⟨hb, hI2⟩
        obtain ⟨m1, m2⟩ := pz_msL_ok _ hm
        exact pz_met_of m1 m2 (pz_cs d) hn h1 h2 h
      next => cases h
