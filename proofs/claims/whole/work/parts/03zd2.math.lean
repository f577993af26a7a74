/-! THE PURE MACHINE IS SOUND: Math.max, min, abs -/
section SNM
variable {base : Nat} {stt : Nat → Nat} {cA : Nat → ClassId} {D : va_G} {ss : List (Nat × Nat)} {stc : Nat → Nat → Int}
variable {p : Program} {l : Launch} {e : Env} {R : Room} {s : State} {m : MethodId} {args : Array Value} {below : List Frame} {meth : Method} {c : Code} {Q : State → Prop} {cc : ByteArray} {own : String} {nL : Nat}
variable {pc idx : Nat} {ls st : List pz_V} {X : pz_X}
theorem pz_mx32 {x y : Int} (hx : pz_okv (0, x)) (hy : pz_okv (0, y)) : (if Int32.ofInt x < Int32.ofInt y then Int32.ofInt y else Int32.ofInt x) = Int32.ofInt (max x y) := by
  simp only [pz_lt32 hx hy]
  split
  · rw [show max x y = y by omega]
  · rw [show max x y = x by omega]
theorem pz_mn32 {x y : Int} (hx : pz_okv (0, x)) (hy : pz_okv (0, y)) : (if Int32.ofInt y < Int32.ofInt x then Int32.ofInt y else Int32.ofInt x) = Int32.ofInt (min x y) := by
  simp only [pz_lt32 hy hx]
  split
  · rw [show min x y = y by omega]
  · rw [show min x y = x by omega]
theorem pz_mx64 {x y : Int} (hx : pz_okv (1, x)) (hy : pz_okv (1, y)) : (if Int64.ofInt y < Int64.ofInt x then Int64.ofInt x else Int64.ofInt y) = Int64.ofInt (max x y) := by
  simp only [pz_lt64 hy hx]
  split
  · rw [show max x y = x by omega]
  · rw [show max x y = y by omega]
theorem pz_mn64 {x y : Int} (hx : pz_okv (1, x)) (hy : pz_okv (1, y)) : (if Int64.ofInt y < Int64.ofInt x then Int64.ofInt y else Int64.ofInt x) = Int64.ofInt (min x y) := by
  simp only [pz_lt64 hy hx]
  split
  · rw [show min x y = y by omega]
  · rw [show min x y = x by omega]
theorem sn_max {x y : Int} (h : pz_cx base stt cA D ss stc p R s m args c cc own nL) (hd : decode cc pc = .ok (.invokestatic idx, 3)) (hlk : Cond.methodLink own idx Lib.Math.max.name ∈ lw_g) (hst : Cond.static Lib.Math.max.name ∈ lw_g) (hini : Cond.initialized "java/lang/Math" ∈ lw_g) (hco : Cond.code Lib.Math.max.name Lib.Math.max.code 2 (some .int) ∈ lw_g) (hw : pz_wt st ≤ 8) (h1 : X.1.2.2.1 ≤ R.cells) (h2 : X.1.2.2.2.1 ≤ R.slots) (kk : pz_N base stt cA D ss stc p l e R s m args below meth c Q nL (pc + 3) ls ((0, max x y) :: st) X) : pz_N base stt cA D ss stc p l e R s m args below meth c Q nL pc ls ((0, y) :: (0, x) :: st) X := by
  intro H locs mls hR hS hl hs
  have a1 := pz_okl_c.mp hs
  have a2 := pz_okl_c.mp a1.2
  have hy : pz_okv (0, y) := a1.1.2
  have hx : pz_okv (0, x) := a2.1.2
  have hwt := pz_wt_eq (base := base) (stt := stt) st a2.2
  have hm : pz_okv (0, max x y) := by
    obtain ⟨q1, q2⟩ := hx
    obtain ⟨q3, q4⟩ := hy
    exact ⟨by omega, by omega⟩
  have h9 := kk H locs mls hR hS hl (pz_okl_c.mpr ⟨⟨(by decide : (0 : Nat) < 3), hm⟩, a2.2⟩)
  obtain ⟨g1, g2, g3, g4, g5, g6, -, -, g9, g10⟩ := h
  refine va_mmax g1 g2 (by rw [g3, hl.1]) g4 (g5 _ hlk) (g5 _ hst) (g5 _ hini) (g5 _ hco) g9 (by rw [hwt]; omega) h1 h2 hd ?_
  rw [pz_mx32 hx hy]
  exact h9
theorem sn_min {x y : Int} (h : pz_cx base stt cA D ss stc p R s m args c cc own nL) (hd : decode cc pc = .ok (.invokestatic idx, 3)) (hlk : Cond.methodLink own idx Lib.Math.min.name ∈ lw_g) (hst : Cond.static Lib.Math.min.name ∈ lw_g) (hini : Cond.initialized "java/lang/Math" ∈ lw_g) (hco : Cond.code Lib.Math.min.name Lib.Math.min.code 2 (some .int) ∈ lw_g) (hw : pz_wt st ≤ 8) (h1 : X.1.2.2.1 ≤ R.cells) (h2 : X.1.2.2.2.1 ≤ R.slots) (kk : pz_N base stt cA D ss stc p l e R s m args below meth c Q nL (pc + 3) ls ((0, min x y) :: st) X) : pz_N base stt cA D ss stc p l e R s m args below meth c Q nL pc ls ((0, y) :: (0, x) :: st) X := by
  intro H locs mls hR hS hl hs
  have a1 := pz_okl_c.mp hs
  have a2 := pz_okl_c.mp a1.2
  have hy : pz_okv (0, y) := a1.1.2
  have hx : pz_okv (0, x) := a2.1.2
  have hwt := pz_wt_eq (base := base) (stt := stt) st a2.2
  have hm : pz_okv (0, min x y) := by
    obtain ⟨q1, q2⟩ := hx
    obtain ⟨q3, q4⟩ := hy
    exact ⟨by omega, by omega⟩
  have h9 := kk H locs mls hR hS hl (pz_okl_c.mpr ⟨⟨(by decide : (0 : Nat) < 3), hm⟩, a2.2⟩)
  obtain ⟨g1, g2, g3, g4, g5, g6, -, -, g9, g10⟩ := h
  refine va_mmin g1 g2 (by rw [g3, hl.1]) g4 (g5 _ hlk) (g5 _ hst) (g5 _ hini) (g5 _ hco) g9 (by rw [hwt]; omega) h1 h2 hd ?_
  rw [pz_mn32 hx hy]
  exact h9
theorem sn_maxJ {x y : Int} (h : pz_cx base stt cA D ss stc p R s m args c cc own nL) (hd : decode cc pc = .ok (.invokestatic idx, 3)) (hlk : Cond.methodLink own idx Lib.MathLoose.max_long.x ∈ lw_g) (hst : Cond.static Lib.MathLoose.max_long.x ∈ lw_g) (hini : Cond.initialized "java/lang/Math" ∈ lw_g) (hco : Cond.code Lib.MathLoose.max_long.x Lib.MathLoose.max_long.code 4 (some .long) ∈ lw_g) (hw : pz_wt st ≤ 8) (h1 : X.1.2.2.1 ≤ R.cells) (h2 : X.1.2.2.2.1 ≤ R.slots) (kk : pz_N base stt cA D ss stc p l e R s m args below meth c Q nL (pc + 3) ls ((1, max x y) :: st) X) : pz_N base stt cA D ss stc p l e R s m args below meth c Q nL pc ls ((1, y) :: (1, x) :: st) X := by
  intro H locs mls hR hS hl hs
  have a1 := pz_okl_c.mp hs
  have a2 := pz_okl_c.mp a1.2
  have hy : pz_okv (1, y) := a1.1.2
  have hx : pz_okv (1, x) := a2.1.2
  have hwt := pz_wt_eq (base := base) (stt := stt) st a2.2
  have hm : pz_okv (1, max x y) := by
    obtain ⟨q1, q2⟩ := hx
    obtain ⟨q3, q4⟩ := hy
    exact ⟨by omega, by omega⟩
  have h9 := kk H locs mls hR hS hl (pz_okl_c.mpr ⟨⟨(by decide : (1 : Nat) < 3), hm⟩, a2.2⟩)
  obtain ⟨g1, g2, g3, g4, g5, g6, -, -, g9, g10⟩ := h
  refine va_mmax_long g1 g2 (by rw [g3, hl.1]) g4 (g5 _ hlk) (g5 _ hst) (g5 _ hini) (g5 _ hco) g9 (by rw [hwt]; omega) h1 h2 hd ?_
  rw [pz_mx64 hx hy]
  exact h9
theorem sn_minJ {x y : Int} (h : pz_cx base stt cA D ss stc p R s m args c cc own nL) (hd : decode cc pc = .ok (.invokestatic idx, 3)) (hlk : Cond.methodLink own idx Lib.MathLoose.min_long.x ∈ lw_g) (hst : Cond.static Lib.MathLoose.min_long.x ∈ lw_g) (hini : Cond.initialized "java/lang/Math" ∈ lw_g) (hco : Cond.code Lib.MathLoose.min_long.x Lib.MathLoose.min_long.code 4 (some .long) ∈ lw_g) (hw : pz_wt st ≤ 8) (h1 : X.1.2.2.1 ≤ R.cells) (h2 : X.1.2.2.2.1 ≤ R.slots) (kk : pz_N base stt cA D ss stc p l e R s m args below meth c Q nL (pc + 3) ls ((1, min x y) :: st) X) : pz_N base stt cA D ss stc p l e R s m args below meth c Q nL pc ls ((1, y) :: (1, x) :: st) X := by
  intro H locs mls hR hS hl hs
  have a1 := pz_okl_c.mp hs
  have a2 := pz_okl_c.mp a1.2
  have hy : pz_okv (1, y) := a1.1.2
  have hx : pz_okv (1, x) := a2.1.2
  have hwt := pz_wt_eq (base := base) (stt := stt) st a2.2
  have hm : pz_okv (1, min x y) := by
    obtain ⟨q1, q2⟩ := hx
    obtain ⟨q3, q4⟩ := hy
    exact ⟨by omega, by omega⟩
  have h9 := kk H locs mls hR hS hl (pz_okl_c.mpr ⟨⟨(by decide : (1 : Nat) < 3), hm⟩, a2.2⟩)
  obtain ⟨g1, g2, g3, g4, g5, g6, -, -, g9, g10⟩ := h
  refine va_mmin_long g1 g2 (by rw [g3, hl.1]) g4 (g5 _ hlk) (g5 _ hst) (g5 _ hini) (g5 _ hco) g9 (by rw [hwt]; omega) h1 h2 hd ?_
  rw [pz_mn64 hx hy]
  exact h9
theorem sn_abs {x : Int} (h : pz_cx base stt cA D ss stc p R s m args c cc own nL) (hd : decode cc pc = .ok (.invokestatic idx, 3)) (hlk : Cond.methodLink own idx Lib.Math.abs.name ∈ lw_g) (hst : Cond.static Lib.Math.abs.name ∈ lw_g) (hini : Cond.initialized "java/lang/Math" ∈ lw_g) (hco : Cond.code Lib.Math.abs.name Lib.Math.abs.code 1 (some .int) ∈ lw_g) (hw : pz_wt st ≤ 8) (h1 : X.1.2.2.1 ≤ R.cells) (h2 : X.1.2.2.2.1 ≤ R.slots) (kk : pz_N base stt cA D ss stc p l e R s m args below meth c Q nL (pc + 3) ls ((0, if 0 ≤ x then x else pz_w32 (0 - x)) :: st) X) : pz_N base stt cA D ss stc p l e R s m args below meth c Q nL pc ls ((0, x) :: st) X := by
  intro H locs mls hR hS hl hs
  have a1 := pz_okl_c.mp hs
  have hx : pz_okv (0, x) := a1.1.2
  have hwt := pz_wt_eq (base := base) (stt := stt) st a1.2
  have hm : pz_okv (0, if 0 ≤ x then x else pz_w32 (0 - x)) := by
    split
    · exact hx
    · exact pz_w32_ok _
  have h9 := kk H locs mls hR hS hl (pz_okl_c.mpr ⟨⟨(by decide : (0 : Nat) < 3), hm⟩, a1.2⟩)
  obtain ⟨g1, g2, g3, g4, g5, g6, -, -, g9, g10⟩ := h
  refine va_mabs g1 g2 (by rw [g3, hl.1]) g4 (g5 _ hlk) (g5 _ hst) (g5 _ hini) (g5 _ hco) g9 (by rw [hwt]; omega) h1 h2 hd ?_
  have e9 : (if 0 ≤ Int32.ofInt x then Int32.ofInt x else 0 - Int32.ofInt x) = Int32.ofInt (if 0 ≤ x then x else pz_w32 (0 - x)) := by
    have e8 : (0 ≤ Int32.ofInt x) ↔ 0 ≤ x := pz_le32 pz_zero32 hx
    simp only [e8]
    split
    · rfl
    · exact pz_sub32 0 x
  rw [e9]
  exact h9
end SNM
