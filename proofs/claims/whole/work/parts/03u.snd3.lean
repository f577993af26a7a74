/-! THE PURE MACHINE IS SOUND: arithmetic, the stack, branches -/
section SN3
variable {base : Nat} {stt : Nat → Nat} {cA : Nat → ClassId} {D : va_G} {ss : List (Nat × Nat)} {stc : Nat → Nat → Int}
variable {p : Program} {l : Launch} {e : Env} {R : Room} {s : State} {m : MethodId} {args : Array Value} {below : List Frame} {meth : Method} {c : Code} {Q : State → Prop} {cc : ByteArray} {own : String} {nL : Nat}
variable {pc : Nat} {ls st : List pz_V} {X : pz_X}
theorem pz_K0 {x : Int} (hx : pz_okv (0, x)) (hs : pz_okl st) : pz_okl ((0, x) :: st) := pz_okl_c.mpr ⟨⟨(by decide : (0 : Nat) < 3), hx⟩, hs⟩
theorem pz_K1 {x : Int} (hx : pz_okv (1, x)) (hs : pz_okl st) : pz_okl ((1, x) :: st) := pz_okl_c.mpr ⟨⟨(by decide : (1 : Nat) < 3), hx⟩, hs⟩
theorem pz_K2 {x : Int} (hs : pz_okl st) : pz_okl ((2, x) :: st) := pz_okl_c.mpr ⟨⟨(by decide : (2 : Nat) < 3), trivial⟩, hs⟩
theorem pz_add32 (x y : Int) : Int32.ofInt x + Int32.ofInt y = Int32.ofInt (pz_w32 (x + y)) := by unfold pz_w32; rw [pz_of32, Int32.ofInt_add]
theorem pz_sub32 (x y : Int) : Int32.ofInt x - Int32.ofInt y = Int32.ofInt (pz_w32 (x - y)) := by unfold pz_w32; rw [pz_of32, Int32.ofInt_sub]
theorem pz_mul32 (x y : Int) : Int32.ofInt x * Int32.ofInt y = Int32.ofInt (pz_w32 (x * y)) := by unfold pz_w32; rw [pz_of32, Int32.ofInt_mul]
theorem pz_add64 (x y : Int) : Int64.ofInt x + Int64.ofInt y = Int64.ofInt (pz_w64 (x + y)) := by unfold pz_w64; rw [pz_of64, Int64.ofInt_add]
theorem pz_sub64 (x y : Int) : Int64.ofInt x - Int64.ofInt y = Int64.ofInt (pz_w64 (x - y)) := by unfold pz_w64; rw [pz_of64, Int64.ofInt_sub]
theorem pz_mul64 (x y : Int) : Int64.ofInt x * Int64.ofInt y = Int64.ofInt (pz_w64 (x * y)) := by unfold pz_w64; rw [pz_of64, Int64.ofInt_mul]
theorem pz_neg32 (x : Int) : -Int32.ofInt x = Int32.ofInt (pz_w32 (-x)) := by unfold pz_w32; rw [pz_of32, Int32.ofInt_neg]
theorem sn_iadd {x y : Int} (h : pz_cx base stt cA D ss stc p R s m args c cc own nL) (hd : decode cc pc = .ok (.iadd, 1)) (k : pz_N base stt cA D ss stc p l e R s m args below meth c Q nL (pc + 1) ls ((0, pz_w32 (x + y)) :: st) X) : pz_N base stt cA D ss stc p l e R s m args below meth c Q nL pc ls ((0, y) :: (0, x) :: st) X := by
  intro H locs mls hR hS hl hs
  have h2 := k H locs mls hR hS hl (pz_K0 (pz_i32_ok _) (pz_okl_c.mp (pz_okl_c.mp hs).2).2)
  refine lv_iadd h.1 h.2.1 hd ?_
  show W p l e R s m args below meth c H locs X.1.2.2.1 X.1.2.2.2.1 Q (F0 m (pc + 1) mls (.int (Int32.ofInt x + Int32.ofInt y) :: st.map (pz_tv base stt)))
  rw [pz_add32]; exact h2
theorem sn_isub {x y : Int} (h : pz_cx base stt cA D ss stc p R s m args c cc own nL) (hd : decode cc pc = .ok (.isub, 1)) (k : pz_N base stt cA D ss stc p l e R s m args below meth c Q nL (pc + 1) ls ((0, pz_w32 (x - y)) :: st) X) : pz_N base stt cA D ss stc p l e R s m args below meth c Q nL pc ls ((0, y) :: (0, x) :: st) X := by
  intro H locs mls hR hS hl hs
  have h2 := k H locs mls hR hS hl (pz_K0 (pz_i32_ok _) (pz_okl_c.mp (pz_okl_c.mp hs).2).2)
  refine lv_isub h.1 h.2.1 hd ?_
  show W p l e R s m args below meth c H locs X.1.2.2.1 X.1.2.2.2.1 Q (F0 m (pc + 1) mls (.int (Int32.ofInt x - Int32.ofInt y) :: st.map (pz_tv base stt)))
  rw [pz_sub32]; exact h2
theorem sn_imul {x y : Int} (h : pz_cx base stt cA D ss stc p R s m args c cc own nL) (hd : decode cc pc = .ok (.imul, 1)) (k : pz_N base stt cA D ss stc p l e R s m args below meth c Q nL (pc + 1) ls ((0, pz_w32 (x * y)) :: st) X) : pz_N base stt cA D ss stc p l e R s m args below meth c Q nL pc ls ((0, y) :: (0, x) :: st) X := by
  intro H locs mls hR hS hl hs
  have h2 := k H locs mls hR hS hl (pz_K0 (pz_i32_ok _) (pz_okl_c.mp (pz_okl_c.mp hs).2).2)
  refine lv_imul h.1 h.2.1 hd ?_
  show W p l e R s m args below meth c H locs X.1.2.2.1 X.1.2.2.2.1 Q (F0 m (pc + 1) mls (.int (Int32.ofInt x * Int32.ofInt y) :: st.map (pz_tv base stt)))
  rw [pz_mul32]; exact h2
theorem sn_ladd {x y : Int} (h : pz_cx base stt cA D ss stc p R s m args c cc own nL) (hd : decode cc pc = .ok (.ladd, 1)) (k : pz_N base stt cA D ss stc p l e R s m args below meth c Q nL (pc + 1) ls ((1, pz_w64 (x + y)) :: st) X) : pz_N base stt cA D ss stc p l e R s m args below meth c Q nL pc ls ((1, y) :: (1, x) :: st) X := by
  intro H locs mls hR hS hl hs
  have h2 := k H locs mls hR hS hl (pz_K1 (pz_i64_ok _) (pz_okl_c.mp (pz_okl_c.mp hs).2).2)
  refine lv_ladd h.1 h.2.1 hd ?_
  show W p l e R s m args below meth c H locs X.1.2.2.1 X.1.2.2.2.1 Q (F0 m (pc + 1) mls (.long (Int64.ofInt x + Int64.ofInt y) :: st.map (pz_tv base stt)))
  rw [pz_add64]; exact h2
theorem sn_lsub {x y : Int} (h : pz_cx base stt cA D ss stc p R s m args c cc own nL) (hd : decode cc pc = .ok (.lsub, 1)) (k : pz_N base stt cA D ss stc p l e R s m args below meth c Q nL (pc + 1) ls ((1, pz_w64 (x - y)) :: st) X) : pz_N base stt cA D ss stc p l e R s m args below meth c Q nL pc ls ((1, y) :: (1, x) :: st) X := by
  intro H locs mls hR hS hl hs
  have h2 := k H locs mls hR hS hl (pz_K1 (pz_i64_ok _) (pz_okl_c.mp (pz_okl_c.mp hs).2).2)
  refine lv_lsub h.1 h.2.1 hd ?_
  show W p l e R s m args below meth c H locs X.1.2.2.1 X.1.2.2.2.1 Q (F0 m (pc + 1) mls (.long (Int64.ofInt x - Int64.ofInt y) :: st.map (pz_tv base stt)))
  rw [pz_sub64]; exact h2
theorem sn_lmul {x y : Int} (h : pz_cx base stt cA D ss stc p R s m args c cc own nL) (hd : decode cc pc = .ok (.lmul, 1)) (k : pz_N base stt cA D ss stc p l e R s m args below meth c Q nL (pc + 1) ls ((1, pz_w64 (x * y)) :: st) X) : pz_N base stt cA D ss stc p l e R s m args below meth c Q nL pc ls ((1, y) :: (1, x) :: st) X := by
  intro H locs mls hR hS hl hs
  have h2 := k H locs mls hR hS hl (pz_K1 (pz_i64_ok _) (pz_okl_c.mp (pz_okl_c.mp hs).2).2)
  refine lv_lmul h.1 h.2.1 hd ?_
  show W p l e R s m args below meth c H locs X.1.2.2.1 X.1.2.2.2.1 Q (F0 m (pc + 1) mls (.long (Int64.ofInt x * Int64.ofInt y) :: st.map (pz_tv base stt)))
  rw [pz_mul64]; exact h2
theorem sn_iand {x y : Int} (h : pz_cx base stt cA D ss stc p R s m args c cc own nL) (hd : decode cc pc = .ok (.iand, 1)) (k : pz_N base stt cA D ss stc p l e R s m args below meth c Q nL (pc + 1) ls ((0, pz_and x y) :: st) X) : pz_N base stt cA D ss stc p l e R s m args below meth c Q nL pc ls ((0, y) :: (0, x) :: st) X := by
  intro H locs mls hR hS hl hs
  have h2 := k H locs mls hR hS hl (pz_K0 (pz_i32_ok _) (pz_okl_c.mp (pz_okl_c.mp hs).2).2)
  refine lv_iand h.1 h.2.1 hd ?_
  show W p l e R s m args below meth c H locs X.1.2.2.1 X.1.2.2.2.1 Q (F0 m (pc + 1) mls (.int (Int32.ofInt x &&& Int32.ofInt y) :: st.map (pz_tv base stt)))
  have h3 : pz_tv base stt (0, pz_and x y) = .int (Int32.ofInt x &&& Int32.ofInt y) := by show Value.int (Int32.ofInt (Int32.ofInt x &&& Int32.ofInt y).toInt) = _; rw [pz_of32]
  rw [List.map_cons, h3] at h2; exact h2
theorem sn_ior {x y : Int} (h : pz_cx base stt cA D ss stc p R s m args c cc own nL) (hd : decode cc pc = .ok (.ior, 1)) (k : pz_N base stt cA D ss stc p l e R s m args below meth c Q nL (pc + 1) ls ((0, pz_or x y) :: st) X) : pz_N base stt cA D ss stc p l e R s m args below meth c Q nL pc ls ((0, y) :: (0, x) :: st) X := by
  intro H locs mls hR hS hl hs
  have h2 := k H locs mls hR hS hl (pz_K0 (pz_i32_ok _) (pz_okl_c.mp (pz_okl_c.mp hs).2).2)
  refine lv_ior h.1 h.2.1 hd ?_
  show W p l e R s m args below meth c H locs X.1.2.2.1 X.1.2.2.2.1 Q (F0 m (pc + 1) mls (.int (Int32.ofInt x ||| Int32.ofInt y) :: st.map (pz_tv base stt)))
  have h3 : pz_tv base stt (0, pz_or x y) = .int (Int32.ofInt x ||| Int32.ofInt y) := by show Value.int (Int32.ofInt (Int32.ofInt x ||| Int32.ofInt y).toInt) = _; rw [pz_of32]
  rw [List.map_cons, h3] at h2; exact h2
theorem sn_ixor {x y : Int} (h : pz_cx base stt cA D ss stc p R s m args c cc own nL) (hd : decode cc pc = .ok (.ixor, 1)) (k : pz_N base stt cA D ss stc p l e R s m args below meth c Q nL (pc + 1) ls ((0, pz_xor x y) :: st) X) : pz_N base stt cA D ss stc p l e R s m args below meth c Q nL pc ls ((0, y) :: (0, x) :: st) X := by
  intro H locs mls hR hS hl hs
  have h2 := k H locs mls hR hS hl (pz_K0 (pz_i32_ok _) (pz_okl_c.mp (pz_okl_c.mp hs).2).2)
  refine lv_ixor h.1 h.2.1 hd ?_
  show W p l e R s m args below meth c H locs X.1.2.2.1 X.1.2.2.2.1 Q (F0 m (pc + 1) mls (.int (Int32.ofInt x ^^^ Int32.ofInt y) :: st.map (pz_tv base stt)))
  have h3 : pz_tv base stt (0, pz_xor x y) = .int (Int32.ofInt x ^^^ Int32.ofInt y) := by show Value.int (Int32.ofInt (Int32.ofInt x ^^^ Int32.ofInt y).toInt) = _; rw [pz_of32]
  rw [List.map_cons, h3] at h2; exact h2
theorem sn_ishl {x y : Int} (h : pz_cx base stt cA D ss stc p R s m args c cc own nL) (hd : decode cc pc = .ok (.ishl, 1)) (k : pz_N base stt cA D ss stc p l e R s m args below meth c Q nL (pc + 1) ls ((0, pz_shl x y) :: st) X) : pz_N base stt cA D ss stc p l e R s m args below meth c Q nL pc ls ((0, y) :: (0, x) :: st) X := by
  intro H locs mls hR hS hl hs
  have h2 := k H locs mls hR hS hl (pz_K0 (pz_i32_ok _) (pz_okl_c.mp (pz_okl_c.mp hs).2).2)
  refine lv_ishl h.1 h.2.1 hd ?_
  show W p l e R s m args below meth c H locs X.1.2.2.1 X.1.2.2.2.1 Q (F0 m (pc + 1) mls (.int (Int32.ofInt x <<< (Int32.ofInt y &&& 31)) :: st.map (pz_tv base stt)))
  have h3 : pz_tv base stt (0, pz_shl x y) = .int (Int32.ofInt x <<< (Int32.ofInt y &&& 31)) := by show Value.int (Int32.ofInt (Int32.ofInt x <<< (Int32.ofInt y &&& 31)).toInt) = _; rw [pz_of32]
  rw [List.map_cons, h3] at h2; exact h2
theorem sn_ishr {x y : Int} (h : pz_cx base stt cA D ss stc p R s m args c cc own nL) (hd : decode cc pc = .ok (.ishr, 1)) (k : pz_N base stt cA D ss stc p l e R s m args below meth c Q nL (pc + 1) ls ((0, pz_shr x y) :: st) X) : pz_N base stt cA D ss stc p l e R s m args below meth c Q nL pc ls ((0, y) :: (0, x) :: st) X := by
  intro H locs mls hR hS hl hs
  have h2 := k H locs mls hR hS hl (pz_K0 (pz_i32_ok _) (pz_okl_c.mp (pz_okl_c.mp hs).2).2)
  refine lv_ishr h.1 h.2.1 hd ?_
  show W p l e R s m args below meth c H locs X.1.2.2.1 X.1.2.2.2.1 Q (F0 m (pc + 1) mls (.int (Int32.ofInt x >>> (Int32.ofInt y &&& 31)) :: st.map (pz_tv base stt)))
  have h3 : pz_tv base stt (0, pz_shr x y) = .int (Int32.ofInt x >>> (Int32.ofInt y &&& 31)) := by show Value.int (Int32.ofInt (Int32.ofInt x >>> (Int32.ofInt y &&& 31)).toInt) = _; rw [pz_of32]
  rw [List.map_cons, h3] at h2; exact h2
theorem sn_idiv {x y : Int} (h : pz_cx base stt cA D ss stc p R s m args c cc own nL) (hd : decode cc pc = .ok (.idiv, 1)) (hn : y ≠ 0) (k : pz_N base stt cA D ss stc p l e R s m args below meth c Q nL (pc + 1) ls ((0, pz_div x y) :: st) X) : pz_N base stt cA D ss stc p l e R s m args below meth c Q nL pc ls ((0, y) :: (0, x) :: st) X := by
  intro H locs mls hR hS hl hs
  have h2 := k H locs mls hR hS hl (pz_K0 (pz_i32_ok _) (pz_okl_c.mp (pz_okl_c.mp hs).2).2)
  refine lv_idiv h.1 h.2.1 hd (by intro q; exact hn ((pz_eq32 (pz_okl_c.mp hs).1.2 pz_zero32).mp q)) ?_
  show W p l e R s m args below meth c H locs X.1.2.2.1 X.1.2.2.2.1 Q (F0 m (pc + 1) mls (.int (Int32.ofInt x / Int32.ofInt y) :: st.map (pz_tv base stt)))
  have h3 : pz_tv base stt (0, pz_div x y) = .int (Int32.ofInt x / Int32.ofInt y) := by show Value.int (Int32.ofInt (Int32.ofInt x / Int32.ofInt y).toInt) = _; rw [pz_of32]
  rw [List.map_cons, h3] at h2; exact h2
theorem sn_irem {x y : Int} (h : pz_cx base stt cA D ss stc p R s m args c cc own nL) (hd : decode cc pc = .ok (.irem, 1)) (hn : y ≠ 0) (k : pz_N base stt cA D ss stc p l e R s m args below meth c Q nL (pc + 1) ls ((0, pz_rem x y) :: st) X) : pz_N base stt cA D ss stc p l e R s m args below meth c Q nL pc ls ((0, y) :: (0, x) :: st) X := by
  intro H locs mls hR hS hl hs
  have h2 := k H locs mls hR hS hl (pz_K0 (pz_i32_ok _) (pz_okl_c.mp (pz_okl_c.mp hs).2).2)
  refine lv_irem h.1 h.2.1 hd (by intro q; exact hn ((pz_eq32 (pz_okl_c.mp hs).1.2 pz_zero32).mp q)) ?_
  show W p l e R s m args below meth c H locs X.1.2.2.1 X.1.2.2.2.1 Q (F0 m (pc + 1) mls (.int (Int32.ofInt x - Int32.ofInt x / Int32.ofInt y * Int32.ofInt y) :: st.map (pz_tv base stt)))
  have h3 : pz_tv base stt (0, pz_rem x y) = .int (Int32.ofInt x - Int32.ofInt x / Int32.ofInt y * Int32.ofInt y) := by show Value.int (Int32.ofInt (Int32.ofInt x - Int32.ofInt x / Int32.ofInt y * Int32.ofInt y).toInt) = _; rw [pz_of32]
  rw [List.map_cons, h3] at h2; exact h2
theorem sn_ldiv {x y : Int} (h : pz_cx base stt cA D ss stc p R s m args c cc own nL) (hd : decode cc pc = .ok (.ldiv, 1)) (hn : y ≠ 0) (k : pz_N base stt cA D ss stc p l e R s m args below meth c Q nL (pc + 1) ls ((1, pz_ldiv x y) :: st) X) : pz_N base stt cA D ss stc p l e R s m args below meth c Q nL pc ls ((1, y) :: (1, x) :: st) X := by
  intro H locs mls hR hS hl hs
  have h2 := k H locs mls hR hS hl (pz_K1 (pz_i64_ok _) (pz_okl_c.mp (pz_okl_c.mp hs).2).2)
  refine lv_ldiv h.1 h.2.1 hd (by intro q; exact hn ((pz_eq64 (pz_okl_c.mp hs).1.2 ⟨by decide, by decide⟩).mp q)) ?_
  show W p l e R s m args below meth c H locs X.1.2.2.1 X.1.2.2.2.1 Q (F0 m (pc + 1) mls (.long (Int64.ofInt x / Int64.ofInt y) :: st.map (pz_tv base stt)))
  have h3 : pz_tv base stt (1, pz_ldiv x y) = .long (Int64.ofInt x / Int64.ofInt y) := by show Value.long (Int64.ofInt (Int64.ofInt x / Int64.ofInt y).toInt) = _; rw [pz_of64]
  rw [List.map_cons, h3] at h2; exact h2
theorem sn_lrem {x y : Int} (h : pz_cx base stt cA D ss stc p R s m args c cc own nL) (hd : decode cc pc = .ok (.lrem, 1)) (hn : y ≠ 0) (k : pz_N base stt cA D ss stc p l e R s m args below meth c Q nL (pc + 1) ls ((1, pz_lrem x y) :: st) X) : pz_N base stt cA D ss stc p l e R s m args below meth c Q nL pc ls ((1, y) :: (1, x) :: st) X := by
  intro H locs mls hR hS hl hs
  have h2 := k H locs mls hR hS hl (pz_K1 (pz_i64_ok _) (pz_okl_c.mp (pz_okl_c.mp hs).2).2)
  refine lv_lrem h.1 h.2.1 hd (by intro q; exact hn ((pz_eq64 (pz_okl_c.mp hs).1.2 ⟨by decide, by decide⟩).mp q)) ?_
  show W p l e R s m args below meth c H locs X.1.2.2.1 X.1.2.2.2.1 Q (F0 m (pc + 1) mls (.long (Int64.ofInt x - Int64.ofInt x / Int64.ofInt y * Int64.ofInt y) :: st.map (pz_tv base stt)))
  have h3 : pz_tv base stt (1, pz_lrem x y) = .long (Int64.ofInt x - Int64.ofInt x / Int64.ofInt y * Int64.ofInt y) := by show Value.long (Int64.ofInt (Int64.ofInt x - Int64.ofInt x / Int64.ofInt y * Int64.ofInt y).toInt) = _; rw [pz_of64]
  rw [List.map_cons, h3] at h2; exact h2
theorem sn_land {x y : Int} (h : pz_cx base stt cA D ss stc p R s m args c cc own nL) (hd : decode cc pc = .ok (.land, 1)) (k : pz_N base stt cA D ss stc p l e R s m args below meth c Q nL (pc + 1) ls ((1, pz_land x y) :: st) X) : pz_N base stt cA D ss stc p l e R s m args below meth c Q nL pc ls ((1, y) :: (1, x) :: st) X := by
  intro H locs mls hR hS hl hs
  have h2 := k H locs mls hR hS hl (pz_K1 (pz_i64_ok _) (pz_okl_c.mp (pz_okl_c.mp hs).2).2)
  refine lv_land h.1 h.2.1 hd ?_
  show W p l e R s m args below meth c H locs X.1.2.2.1 X.1.2.2.2.1 Q (F0 m (pc + 1) mls (.long (Int64.ofInt x &&& Int64.ofInt y) :: st.map (pz_tv base stt)))
  have h3 : pz_tv base stt (1, pz_land x y) = .long (Int64.ofInt x &&& Int64.ofInt y) := by show Value.long (Int64.ofInt (Int64.ofInt x &&& Int64.ofInt y).toInt) = _; rw [pz_of64]
  rw [List.map_cons, h3] at h2; exact h2
theorem sn_lor {x y : Int} (h : pz_cx base stt cA D ss stc p R s m args c cc own nL) (hd : decode cc pc = .ok (.lor, 1)) (k : pz_N base stt cA D ss stc p l e R s m args below meth c Q nL (pc + 1) ls ((1, pz_lor x y) :: st) X) : pz_N base stt cA D ss stc p l e R s m args below meth c Q nL pc ls ((1, y) :: (1, x) :: st) X := by
  intro H locs mls hR hS hl hs
  have h2 := k H locs mls hR hS hl (pz_K1 (pz_i64_ok _) (pz_okl_c.mp (pz_okl_c.mp hs).2).2)
  refine lv_lor h.1 h.2.1 hd ?_
  show W p l e R s m args below meth c H locs X.1.2.2.1 X.1.2.2.2.1 Q (F0 m (pc + 1) mls (.long (Int64.ofInt x ||| Int64.ofInt y) :: st.map (pz_tv base stt)))
  have h3 : pz_tv base stt (1, pz_lor x y) = .long (Int64.ofInt x ||| Int64.ofInt y) := by show Value.long (Int64.ofInt (Int64.ofInt x ||| Int64.ofInt y).toInt) = _; rw [pz_of64]
  rw [List.map_cons, h3] at h2; exact h2
theorem sn_iushr {x y : Int} (h : pz_cx base stt cA D ss stc p R s m args c cc own nL) (hd : decode cc pc = .ok (.iushr, 1)) (k : pz_N base stt cA D ss stc p l e R s m args below meth c Q nL (pc + 1) ls ((0, pz_ushr x y) :: st) X) : pz_N base stt cA D ss stc p l e R s m args below meth c Q nL pc ls ((0, y) :: (0, x) :: st) X := by
  intro H locs mls hR hS hl hs
  have h2 := k H locs mls hR hS hl (pz_K0 (pz_i32_ok _) (pz_okl_c.mp (pz_okl_c.mp hs).2).2)
  exact lv_iushr (v := Int32.ofInt (pz_ushr x y)) h.1 h.2.1 hd (by show _ = Int32.ofInt (((Int32.ofInt x).toUInt32 >>> ((Int32.ofInt y).toUInt32 &&& Int32.toUInt32 31)).toInt32).toInt; rw [pz_of32]) h2
theorem sn_lushr {x y : Int} (h : pz_cx base stt cA D ss stc p R s m args c cc own nL) (hd : decode cc pc = .ok (.lushr, 1)) (k : pz_N base stt cA D ss stc p l e R s m args below meth c Q nL (pc + 1) ls ((1, pz_lushr x y) :: st) X) : pz_N base stt cA D ss stc p l e R s m args below meth c Q nL pc ls ((0, y) :: (1, x) :: st) X := by
  intro H locs mls hR hS hl hs
  have h2 := k H locs mls hR hS hl (pz_K1 (pz_i64_ok _) (pz_okl_c.mp (pz_okl_c.mp hs).2).2)
  exact lv_lushr (v := Int64.ofInt (pz_lushr x y)) h.1 h.2.1 hd (by show _ = Int64.ofInt (((Int64.ofInt x).toUInt64 >>> ((Int32.ofInt y).toInt64.toUInt64 &&& Int64.toUInt64 63)).toInt64).toInt; rw [pz_of64]) h2
theorem sn_lshl {x y : Int} (h : pz_cx base stt cA D ss stc p R s m args c cc own nL) (hd : decode cc pc = .ok (.lshl, 1)) (k : pz_N base stt cA D ss stc p l e R s m args below meth c Q nL (pc + 1) ls ((1, pz_lshl x y) :: st) X) : pz_N base stt cA D ss stc p l e R s m args below meth c Q nL pc ls ((0, y) :: (1, x) :: st) X := by
  intro H locs mls hR hS hl hs
  have h2 := k H locs mls hR hS hl (pz_K1 (pz_i64_ok _) (pz_okl_c.mp (pz_okl_c.mp hs).2).2)
  exact lv_lshl (v := Int64.ofInt (pz_lshl x y)) h.1 h.2.1 hd (by show _ = Int64.ofInt (Int64.ofInt x <<< ((Int32.ofInt y).toInt64 &&& 63)).toInt; rw [pz_of64]) h2
theorem sn_ineg {x : Int} (h : pz_cx base stt cA D ss stc p R s m args c cc own nL) (hd : decode cc pc = .ok (.ineg, 1)) (k : pz_N base stt cA D ss stc p l e R s m args below meth c Q nL (pc + 1) ls ((0, pz_w32 (-x)) :: st) X) : pz_N base stt cA D ss stc p l e R s m args below meth c Q nL pc ls ((0, x) :: st) X := by
  intro H locs mls hR hS hl hs
  have h2 := k H locs mls hR hS hl (pz_K0 (pz_w32_ok _) (pz_okl_c.mp hs).2)
  refine lv_ineg h.1 h.2.1 hd ?_
  show W p l e R s m args below meth c H locs X.1.2.2.1 X.1.2.2.2.1 Q (F0 m (pc + 1) mls (.int (-Int32.ofInt x) :: st.map (pz_tv base stt)))
  rw [pz_neg32]; exact h2
theorem sn_i2l {x : Int} (h : pz_cx base stt cA D ss stc p R s m args c cc own nL) (hd : decode cc pc = .ok (.i2l, 1)) (k : pz_N base stt cA D ss stc p l e R s m args below meth c Q nL (pc + 1) ls ((1, x) :: st) X) : pz_N base stt cA D ss stc p l e R s m args below meth c Q nL pc ls ((0, x) :: st) X := by
  intro H locs mls hR hS hl hs
  have hx := (pz_okl_c.mp hs).1.2
  have hx2 : pz_okv (1, x) := by obtain ⟨a, b⟩ := hx; exact ⟨by omega, by omega⟩
  exact lv_i2l (v := Int64.ofInt x) h.1 h.2.1 hd (by rw [← Int64.toInt_inj, Int32.toInt_toInt64, pz_to32 hx, pz_to64 hx2]) (k H locs mls hR hS hl (pz_K1 hx2 (pz_okl_c.mp hs).2))
theorem sn_l2i {x : Int} (h : pz_cx base stt cA D ss stc p R s m args c cc own nL) (hd : decode cc pc = .ok (.l2i, 1)) (k : pz_N base stt cA D ss stc p l e R s m args below meth c Q nL (pc + 1) ls ((0, pz_w32 x) :: st) X) : pz_N base stt cA D ss stc p l e R s m args below meth c Q nL pc ls ((1, x) :: st) X := by
  intro H locs mls hR hS hl hs
  have hx := (pz_okl_c.mp hs).1.2
  exact lv_l2i (v := Int32.ofInt (pz_w32 x)) h.1 h.2.1 hd (by unfold pz_w32; rw [pz_of32, ← Int32.toInt_inj, Int64.toInt_toInt32, pz_to64 hx, Int32.toInt_ofInt]) (k H locs mls hR hS hl (pz_K0 (pz_w32_ok _) (pz_okl_c.mp hs).2))
theorem sn_lcmp {x y : Int} (h : pz_cx base stt cA D ss stc p R s m args c cc own nL) (hd : decode cc pc = .ok (.lcmp, 1)) (k : pz_N base stt cA D ss stc p l e R s m args below meth c Q nL (pc + 1) ls ((0, pz_cmp x y) :: st) X) : pz_N base stt cA D ss stc p l e R s m args below meth c Q nL pc ls ((1, y) :: (1, x) :: st) X := by
  intro H locs mls hR hS hl hs
  have hy := (pz_okl_c.mp hs).1.2
  have hx := (pz_okl_c.mp (pz_okl_c.mp hs).2).1.2
  have hc : pz_okv (0, pz_cmp x y) := by unfold pz_cmp; split; exact ⟨by decide, by decide⟩; split <;> exact ⟨by decide, by decide⟩
  have h2 := k H locs mls hR hS hl (pz_K0 hc (pz_okl_c.mp (pz_okl_c.mp hs).2).2)
  refine W.lcmp h.1 h.2.1 hd ?_
  have h3 : lg_cmp (Int64.ofInt x) (Int64.ofInt y) = Int32.ofInt (pz_cmp x y) := by
    unfold lg_cmp pz_cmp
    simp only [pz_lt64 hy hx, pz_eq64 hx hy]
    split
    · rfl
    · split <;> rfl
  rw [h3]; exact h2
theorem sn_dup {v : pz_V} (h : pz_cx base stt cA D ss stc p R s m args c cc own nL) (hd : decode cc pc = .ok (.dup, 1)) (hv : v.1 ≠ 1) (k : pz_N base stt cA D ss stc p l e R s m args below meth c Q nL (pc + 1) ls (v :: v :: st) X) : pz_N base stt cA D ss stc p l e R s m args below meth c Q nL pc ls (v :: st) X := by
  intro H locs mls hR hS hl hs
  exact lv_dup h.1 h.2.1 hd (pz_cat base stt v hv) (k H locs mls hR hS hl (pz_okl_c.mpr ⟨(pz_okl_c.mp hs).1, hs⟩))
theorem sn_pop {v : pz_V} (h : pz_cx base stt cA D ss stc p R s m args c cc own nL) (hd : decode cc pc = .ok (.pop, 1)) (hv : v.1 ≠ 1) (k : pz_N base stt cA D ss stc p l e R s m args below meth c Q nL (pc + 1) ls st X) : pz_N base stt cA D ss stc p l e R s m args below meth c Q nL pc ls (v :: st) X := by
  intro H locs mls hR hS hl hs
  exact lv_pop h.1 h.2.1 hd (pz_cat base stt v hv) (k H locs mls hR hS hl (pz_okl_c.mp hs).2)
theorem sn_dup2 {v w : pz_V} (h : pz_cx base stt cA D ss stc p R s m args c cc own nL) (hd : decode cc pc = .ok (.dup2, 1)) (hv : v.1 ≠ 1) (hw : w.1 ≠ 1) (k : pz_N base stt cA D ss stc p l e R s m args below meth c Q nL (pc + 1) ls (v :: w :: v :: w :: st) X) : pz_N base stt cA D ss stc p l e R s m args below meth c Q nL pc ls (v :: w :: st) X := by
  intro H locs mls hR hS hl hs
  exact lv_dup2_11 h.1 h.2.1 hd (pz_cat base stt v hv) (pz_cat base stt w hw) (k H locs mls hR hS hl (pz_okl_c.mpr ⟨(pz_okl_c.mp hs).1, pz_okl_c.mpr ⟨(pz_okl_c.mp (pz_okl_c.mp hs).2).1, hs⟩⟩))
theorem sn_goto {o : Int} {a : Nat} (h : pz_cx base stt cA D ss stc p R s m args c cc own nL) (hd : decode cc pc = .ok (.goto o, 3)) (ha : (pc : Int) + o = (a : Int)) (k : pz_N base stt cA D ss stc p l e R s m args below meth c Q nL a ls st X) : pz_N base stt cA D ss stc p l e R s m args below meth c Q nL pc ls st X := by
  intro H locs mls hR hS hl hs
  exact lv_goto h.1 h.2.1 hd ha (k H locs mls hR hS hl hs)
theorem sn_if_eq {o x : Int} {a : Nat} (h : pz_cx base stt cA D ss stc p R s m args c cc own nL) (hd : decode cc pc = .ok (.ifCond .eq o, 3)) (ha : (pc : Int) + o = (a : Int)) (k1 : x = 0 → pz_N base stt cA D ss stc p l e R s m args below meth c Q nL a ls st X) (k2 : ¬ (x = 0) → pz_N base stt cA D ss stc p l e R s m args below meth c Q nL (pc + 3) ls st X) : pz_N base stt cA D ss stc p l e R s m args below meth c Q nL pc ls ((0, x) :: st) X := by
  intro H locs mls hR hS hl hs
  have hy := pz_zero32
  have hx := (pz_okl_c.mp hs).1.2
  have ht := (pz_okl_c.mp hs).2
  exact lv_if_eq h.1 h.2.1 hd ha (fun q => k1 ((pz_eq32 hx hy).mp q) H locs mls hR hS hl ht) (fun q => k2 (fun r => q ((pz_eq32 hx hy).mpr r)) H locs mls hR hS hl ht)
theorem sn_ic_eq {o x y : Int} {a : Nat} (h : pz_cx base stt cA D ss stc p R s m args c cc own nL) (hd : decode cc pc = .ok (.if_icmp .eq o, 3)) (ha : (pc : Int) + o = (a : Int)) (k1 : x = y → pz_N base stt cA D ss stc p l e R s m args below meth c Q nL a ls st X) (k2 : ¬ (x = y) → pz_N base stt cA D ss stc p l e R s m args below meth c Q nL (pc + 3) ls st X) : pz_N base stt cA D ss stc p l e R s m args below meth c Q nL pc ls ((0, y) :: (0, x) :: st) X := by
  intro H locs mls hR hS hl hs
  have hy := (pz_okl_c.mp hs).1.2
  have hx := (pz_okl_c.mp (pz_okl_c.mp hs).2).1.2
  have ht := (pz_okl_c.mp (pz_okl_c.mp hs).2).2
  exact lv_icmp_eq h.1 h.2.1 hd ha (fun q => k1 ((pz_eq32 hx hy).mp q) H locs mls hR hS hl ht) (fun q => k2 (fun r => q ((pz_eq32 hx hy).mpr r)) H locs mls hR hS hl ht)
theorem sn_if_ne {o x : Int} {a : Nat} (h : pz_cx base stt cA D ss stc p R s m args c cc own nL) (hd : decode cc pc = .ok (.ifCond .ne o, 3)) (ha : (pc : Int) + o = (a : Int)) (k1 : x ≠ 0 → pz_N base stt cA D ss stc p l e R s m args below meth c Q nL a ls st X) (k2 : ¬ (x ≠ 0) → pz_N base stt cA D ss stc p l e R s m args below meth c Q nL (pc + 3) ls st X) : pz_N base stt cA D ss stc p l e R s m args below meth c Q nL pc ls ((0, x) :: st) X := by
  intro H locs mls hR hS hl hs
  have hy := pz_zero32
  have hx := (pz_okl_c.mp hs).1.2
  have ht := (pz_okl_c.mp hs).2
  exact lv_if_ne h.1 h.2.1 hd ha (fun q => k1 ((not_congr (pz_eq32 hx hy)).mp q) H locs mls hR hS hl ht) (fun q => k2 (fun r => r ((pz_eq32 hx hy).mp q)) H locs mls hR hS hl ht)
theorem sn_ic_ne {o x y : Int} {a : Nat} (h : pz_cx base stt cA D ss stc p R s m args c cc own nL) (hd : decode cc pc = .ok (.if_icmp .ne o, 3)) (ha : (pc : Int) + o = (a : Int)) (k1 : x ≠ y → pz_N base stt cA D ss stc p l e R s m args below meth c Q nL a ls st X) (k2 : ¬ (x ≠ y) → pz_N base stt cA D ss stc p l e R s m args below meth c Q nL (pc + 3) ls st X) : pz_N base stt cA D ss stc p l e R s m args below meth c Q nL pc ls ((0, y) :: (0, x) :: st) X := by
  intro H locs mls hR hS hl hs
  have hy := (pz_okl_c.mp hs).1.2
  have hx := (pz_okl_c.mp (pz_okl_c.mp hs).2).1.2
  have ht := (pz_okl_c.mp (pz_okl_c.mp hs).2).2
  exact lv_icmp_ne h.1 h.2.1 hd ha (fun q => k1 ((not_congr (pz_eq32 hx hy)).mp q) H locs mls hR hS hl ht) (fun q => k2 (fun r => r ((pz_eq32 hx hy).mp q)) H locs mls hR hS hl ht)
theorem sn_if_lt {o x : Int} {a : Nat} (h : pz_cx base stt cA D ss stc p R s m args c cc own nL) (hd : decode cc pc = .ok (.ifCond .lt o, 3)) (ha : (pc : Int) + o = (a : Int)) (k1 : x < 0 → pz_N base stt cA D ss stc p l e R s m args below meth c Q nL a ls st X) (k2 : ¬ (x < 0) → pz_N base stt cA D ss stc p l e R s m args below meth c Q nL (pc + 3) ls st X) : pz_N base stt cA D ss stc p l e R s m args below meth c Q nL pc ls ((0, x) :: st) X := by
  intro H locs mls hR hS hl hs
  have hy := pz_zero32
  have hx := (pz_okl_c.mp hs).1.2
  have ht := (pz_okl_c.mp hs).2
  exact lv_if_lt h.1 h.2.1 hd ha (fun q => k1 ((pz_lt32 hx hy).mp q) H locs mls hR hS hl ht) (fun q => k2 (fun r => q ((pz_lt32 hx hy).mpr r)) H locs mls hR hS hl ht)
theorem sn_ic_lt {o x y : Int} {a : Nat} (h : pz_cx base stt cA D ss stc p R s m args c cc own nL) (hd : decode cc pc = .ok (.if_icmp .lt o, 3)) (ha : (pc : Int) + o = (a : Int)) (k1 : x < y → pz_N base stt cA D ss stc p l e R s m args below meth c Q nL a ls st X) (k2 : ¬ (x < y) → pz_N base stt cA D ss stc p l e R s m args below meth c Q nL (pc + 3) ls st X) : pz_N base stt cA D ss stc p l e R s m args below meth c Q nL pc ls ((0, y) :: (0, x) :: st) X := by
  intro H locs mls hR hS hl hs
  have hy := (pz_okl_c.mp hs).1.2
  have hx := (pz_okl_c.mp (pz_okl_c.mp hs).2).1.2
  have ht := (pz_okl_c.mp (pz_okl_c.mp hs).2).2
  exact lv_icmp_lt h.1 h.2.1 hd ha (fun q => k1 ((pz_lt32 hx hy).mp q) H locs mls hR hS hl ht) (fun q => k2 (fun r => q ((pz_lt32 hx hy).mpr r)) H locs mls hR hS hl ht)
theorem sn_if_ge {o x : Int} {a : Nat} (h : pz_cx base stt cA D ss stc p R s m args c cc own nL) (hd : decode cc pc = .ok (.ifCond .ge o, 3)) (ha : (pc : Int) + o = (a : Int)) (k1 : 0 ≤ x → pz_N base stt cA D ss stc p l e R s m args below meth c Q nL a ls st X) (k2 : ¬ (0 ≤ x) → pz_N base stt cA D ss stc p l e R s m args below meth c Q nL (pc + 3) ls st X) : pz_N base stt cA D ss stc p l e R s m args below meth c Q nL pc ls ((0, x) :: st) X := by
  intro H locs mls hR hS hl hs
  have hy := pz_zero32
  have hx := (pz_okl_c.mp hs).1.2
  have ht := (pz_okl_c.mp hs).2
  exact lv_if_ge h.1 h.2.1 hd ha (fun q => k1 ((pz_le32 hy hx).mp q) H locs mls hR hS hl ht) (fun q => k2 (fun r => q ((pz_le32 hy hx).mpr r)) H locs mls hR hS hl ht)
theorem sn_ic_ge {o x y : Int} {a : Nat} (h : pz_cx base stt cA D ss stc p R s m args c cc own nL) (hd : decode cc pc = .ok (.if_icmp .ge o, 3)) (ha : (pc : Int) + o = (a : Int)) (k1 : y ≤ x → pz_N base stt cA D ss stc p l e R s m args below meth c Q nL a ls st X) (k2 : ¬ (y ≤ x) → pz_N base stt cA D ss stc p l e R s m args below meth c Q nL (pc + 3) ls st X) : pz_N base stt cA D ss stc p l e R s m args below meth c Q nL pc ls ((0, y) :: (0, x) :: st) X := by
  intro H locs mls hR hS hl hs
  have hy := (pz_okl_c.mp hs).1.2
  have hx := (pz_okl_c.mp (pz_okl_c.mp hs).2).1.2
  have ht := (pz_okl_c.mp (pz_okl_c.mp hs).2).2
  exact lv_icmp_ge h.1 h.2.1 hd ha (fun q => k1 ((pz_le32 hy hx).mp q) H locs mls hR hS hl ht) (fun q => k2 (fun r => q ((pz_le32 hy hx).mpr r)) H locs mls hR hS hl ht)
theorem sn_if_gt {o x : Int} {a : Nat} (h : pz_cx base stt cA D ss stc p R s m args c cc own nL) (hd : decode cc pc = .ok (.ifCond .gt o, 3)) (ha : (pc : Int) + o = (a : Int)) (k1 : 0 < x → pz_N base stt cA D ss stc p l e R s m args below meth c Q nL a ls st X) (k2 : ¬ (0 < x) → pz_N base stt cA D ss stc p l e R s m args below meth c Q nL (pc + 3) ls st X) : pz_N base stt cA D ss stc p l e R s m args below meth c Q nL pc ls ((0, x) :: st) X := by
  intro H locs mls hR hS hl hs
  have hy := pz_zero32
  have hx := (pz_okl_c.mp hs).1.2
  have ht := (pz_okl_c.mp hs).2
  exact lv_if_gt h.1 h.2.1 hd ha (fun q => k1 ((pz_lt32 hy hx).mp q) H locs mls hR hS hl ht) (fun q => k2 (fun r => q ((pz_lt32 hy hx).mpr r)) H locs mls hR hS hl ht)
theorem sn_ic_gt {o x y : Int} {a : Nat} (h : pz_cx base stt cA D ss stc p R s m args c cc own nL) (hd : decode cc pc = .ok (.if_icmp .gt o, 3)) (ha : (pc : Int) + o = (a : Int)) (k1 : y < x → pz_N base stt cA D ss stc p l e R s m args below meth c Q nL a ls st X) (k2 : ¬ (y < x) → pz_N base stt cA D ss stc p l e R s m args below meth c Q nL (pc + 3) ls st X) : pz_N base stt cA D ss stc p l e R s m args below meth c Q nL pc ls ((0, y) :: (0, x) :: st) X := by
  intro H locs mls hR hS hl hs
  have hy := (pz_okl_c.mp hs).1.2
  have hx := (pz_okl_c.mp (pz_okl_c.mp hs).2).1.2
  have ht := (pz_okl_c.mp (pz_okl_c.mp hs).2).2
  exact lv_icmp_gt h.1 h.2.1 hd ha (fun q => k1 ((pz_lt32 hy hx).mp q) H locs mls hR hS hl ht) (fun q => k2 (fun r => q ((pz_lt32 hy hx).mpr r)) H locs mls hR hS hl ht)
theorem sn_if_le {o x : Int} {a : Nat} (h : pz_cx base stt cA D ss stc p R s m args c cc own nL) (hd : decode cc pc = .ok (.ifCond .le o, 3)) (ha : (pc : Int) + o = (a : Int)) (k1 : x ≤ 0 → pz_N base stt cA D ss stc p l e R s m args below meth c Q nL a ls st X) (k2 : ¬ (x ≤ 0) → pz_N base stt cA D ss stc p l e R s m args below meth c Q nL (pc + 3) ls st X) : pz_N base stt cA D ss stc p l e R s m args below meth c Q nL pc ls ((0, x) :: st) X := by
  intro H locs mls hR hS hl hs
  have hy := pz_zero32
  have hx := (pz_okl_c.mp hs).1.2
  have ht := (pz_okl_c.mp hs).2
  exact lv_if_le h.1 h.2.1 hd ha (fun q => k1 ((pz_le32 hx hy).mp q) H locs mls hR hS hl ht) (fun q => k2 (fun r => q ((pz_le32 hx hy).mpr r)) H locs mls hR hS hl ht)
theorem sn_ic_le {o x y : Int} {a : Nat} (h : pz_cx base stt cA D ss stc p R s m args c cc own nL) (hd : decode cc pc = .ok (.if_icmp .le o, 3)) (ha : (pc : Int) + o = (a : Int)) (k1 : x ≤ y → pz_N base stt cA D ss stc p l e R s m args below meth c Q nL a ls st X) (k2 : ¬ (x ≤ y) → pz_N base stt cA D ss stc p l e R s m args below meth c Q nL (pc + 3) ls st X) : pz_N base stt cA D ss stc p l e R s m args below meth c Q nL pc ls ((0, y) :: (0, x) :: st) X := by
  intro H locs mls hR hS hl hs
  have hy := (pz_okl_c.mp hs).1.2
  have hx := (pz_okl_c.mp (pz_okl_c.mp hs).2).1.2
  have ht := (pz_okl_c.mp (pz_okl_c.mp hs).2).2
  exact lv_icmp_le h.1 h.2.1 hd ha (fun q => k1 ((pz_le32 hx hy).mp q) H locs mls hR hS hl ht) (fun q => k2 (fun r => q ((pz_le32 hx hy).mpr r)) H locs mls hR hS hl ht)
theorem sn_ifnull {o x : Int} {a : Nat} (h : pz_cx base stt cA D ss stc p R s m args c cc own nL) (hd : decode cc pc = .ok (.ifnull o, 3)) (ha : (pc : Int) + o = (a : Int)) (k1 : x < 0 → pz_N base stt cA D ss stc p l e R s m args below meth c Q nL a ls st X) (k2 : ¬ x < 0 → pz_N base stt cA D ss stc p l e R s m args below meth c Q nL (pc + 3) ls st X) : pz_N base stt cA D ss stc p l e R s m args below meth c Q nL pc ls ((2, x) :: st) X := by
  intro H locs mls hR hS hl hs
  have ht := (pz_okl_c.mp hs).2
  rw [List.map_cons]
  by_cases hz : x < 0
  · rw [show pz_tv base stt (2, x) = .null from if_pos hz]
    exact lv_ifnullN h.1 h.2.1 hd ha (k1 hz H locs mls hR hS hl ht)
  · rw [show pz_tv base stt (2, x) = .ref (pz_ad base stt x.toNat) from if_neg hz]
    exact lv_ifnull h.1 h.2.1 hd (k2 hz H locs mls hR hS hl ht)
theorem sn_ifnonnull {o x : Int} {a : Nat} (h : pz_cx base stt cA D ss stc p R s m args c cc own nL) (hd : decode cc pc = .ok (.ifnonnull o, 3)) (ha : (pc : Int) + o = (a : Int)) (k1 : x < 0 → pz_N base stt cA D ss stc p l e R s m args below meth c Q nL (pc + 3) ls st X) (k2 : ¬ x < 0 → pz_N base stt cA D ss stc p l e R s m args below meth c Q nL a ls st X) : pz_N base stt cA D ss stc p l e R s m args below meth c Q nL pc ls ((2, x) :: st) X := by
  intro H locs mls hR hS hl hs
  have ht := (pz_okl_c.mp hs).2
  rw [List.map_cons]
  by_cases hz : x < 0
  · rw [show pz_tv base stt (2, x) = .null from if_pos hz]
    exact lv_ifnonnullN h.1 h.2.1 hd (k1 hz H locs mls hR hS hl ht)
  · rw [show pz_tv base stt (2, x) = .ref (pz_ad base stt x.toNat) from if_neg hz]
    exact lv_ifnonnull h.1 h.2.1 hd ha (k2 hz H locs mls hR hS hl ht)
theorem sn_lookup {df x : Int} {ps : Array (Int × Int)} {n : Nat} (h : pz_cx base stt cA D ss stc p R s m args c cc own nL) (hd : decode cc pc = .ok (.lookupswitch df ps, n)) (hp : (ps.toList.zip (ps.toList.drop 1)).all (fun (a, next) => a.1 < next.1) = true) (h0 : 0 ≤ (pc : Int) + Op.lookupswitch.offset ps.toList df x) (k : pz_N base stt cA D ss stc p l e R s m args below meth c Q nL ((pc : Int) + Op.lookupswitch.offset ps.toList df x).toNat ls st X) : pz_N base stt cA D ss stc p l e R s m args below meth c Q nL pc ls ((0, x) :: st) X := by
  intro H locs mls hR hS hl hs
  refine lv_lookup (off := Op.lookupswitch.offset ps.toList df x) (tgt := ((pc : Int) + Op.lookupswitch.offset ps.toList df x).toNat) h.1 h.2.1 hd hp (by rw [pz_to32 (pz_okl_c.mp hs).1.2]) (by omega) (k H locs mls hR hS hl (pz_okl_c.mp hs).2)
theorem sn_tableOut {df lo hi x : Int} {ofs : Array Int} {n : Nat} (h : pz_cx base stt cA D ss stc p R s m args c cc own nL) (hd : decode cc pc = .ok (.tableswitch df lo hi ofs, n)) (h0 : 0 ≤ (pc : Int) + df) (hx : x < lo ∨ hi < x) (k : pz_N base stt cA D ss stc p l e R s m args below meth c Q nL ((pc : Int) + df).toNat ls st X) : pz_N base stt cA D ss stc p l e R s m args below meth c Q nL pc ls ((0, x) :: st) X := by
  intro H locs mls hR hS hl hs
  refine lv_tableOut (tgt := ((pc : Int) + df).toNat) h.1 h.2.1 hd (by rw [pz_to32 (pz_okl_c.mp hs).1.2]; exact hx) (by omega) (k H locs mls hR hS hl (pz_okl_c.mp hs).2)
theorem sn_tableIn {df lo hi x o : Int} {ofs : Array Int} {n : Nat} (h : pz_cx base stt cA D ss stc p R s m args c cc own nL) (hd : decode cc pc = .ok (.tableswitch df lo hi ofs, n)) (hx : ¬ (x < lo ∨ hi < x)) (ho : ofs[(x - lo).toNat]? = some o) (h0 : 0 ≤ (pc : Int) + o) (k : pz_N base stt cA D ss stc p l e R s m args below meth c Q nL ((pc : Int) + o).toNat ls st X) : pz_N base stt cA D ss stc p l e R s m args below meth c Q nL pc ls ((0, x) :: st) X := by
  intro H locs mls hR hS hl hs
  have e := pz_to32 (pz_okl_c.mp hs).1.2
  refine lv_tableIn (off := o) (tgt := ((pc : Int) + o).toNat) h.1 h.2.1 hd (by rw [e]; exact fun q => hx (Or.inl q)) (by rw [e]; exact fun q => hx (Or.inr q)) (by rw [e]; exact ho) (by omega) (k H locs mls hR hS hl (pz_okl_c.mp hs).2)
end SN3
