/-! THE PURE MACHINE IS SOUND: fields and arrays -/
section SN4
variable {base : Nat} {stt : Nat → Nat} {cA : Nat → ClassId} {D : va_G} {ss : List (Nat × Nat)} {stc : Nat → Nat → Int}
variable {p : Program} {l : Launch} {e : Env} {R : Room} {s : State} {m : MethodId} {args : Array Value} {below : List Frame} {meth : Method} {c : Code} {Q : State → Prop} {cc : ByteArray} {own : String} {nL : Nat}
variable {pc : Nat} {ls st : List pz_V} {X : pz_X}
theorem pz_sh_heap {x : Int} {sh : Nat × Nat} (h : pz_sh X x = some sh) (hx : x < 4096) : 0 ≤ x ∧ X.1.1[x.toNat]? = some sh := by
  unfold pz_sh at h
  split at h
  next => cases h
  next h1 =>
    first
    | exact ⟨by omega, h⟩
    | (rw [if_pos hx] at h; exact ⟨by omega, h⟩)
theorem pz_sh_stat {x : Int} {sh : Nat × Nat} (h : pz_sh X x = some sh) (hx : ¬ x < 4096) : X.1.2.1[(x - 4096).toNat]? = some sh := by
  unfold pz_sh at h
  split at h
  next => cases h
  next h1 =>
    first
    | exact h
    | (rw [if_neg hx] at h; exact h)
theorem pz_tv_heap {x : Int} (h0 : 0 ≤ x) (hx : x < 4096) : pz_tv base stt (2, x) = .ref (base + x.toNat) := by
  show (if x < 0 then _ else _) = _
  rw [if_neg (by omega)]
  unfold pz_ad
  rw [if_pos (by omega)]
theorem pz_tv_stat {x : Int} (hx : ¬ x < 4096) : pz_tv base stt (2, x) = .ref (stt (x - 4096).toNat) := by
  show (if x < 0 then _ else _) = _
  rw [if_neg (by omega)]
  unfold pz_ad
  rw [if_neg (by omega), show x.toNat - 4096 = (x - 4096).toNat by omega]
theorem pz_tv_rf (x : Int) : pz_tv base stt (2, x) = va_rf (pz_rf base stt x) := by
  show (if x < 0 then _ else _) = _
  unfold pz_rf
  split <;> rfl
theorem pz_ce_o {n N : Nat} {f : Nat → Int} (h : n < 100) : pz_ce base stt cA (n, N) f = .inr (n, (List.range N).map (fun j => pz_tv base stt (pz_tf n j, f j))) := if_pos h
theorem pz_cls_len : pz_cls.length = 12 := by simp [pz_cls]
theorem pz_cls_lt {k : Nat} {q : vw_C} (h : pz_cls[k]? = some q) : k < 12 := by
  have h1 := (List.getElem?_eq_some_iff.mp h).1
  rw [pz_cls_len] at h1
  exact h1
theorem pz_A0 (h : pz_cx base stt cA D ss stc p R s m args c cc own nL) : ∀ q, s.heap.size ≤ q → pz_Z base q := fun q hq => Nat.le_trans h.2.2.2.2.2.2.2.1 hq
theorem pz_tf_tg {ci N j : Nat} (h : ci < 100) : pz_tg (ci, N) j = pz_tf ci j := if_pos h
end SN4
