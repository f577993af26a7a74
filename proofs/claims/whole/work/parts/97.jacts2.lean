/-! BOTH TOGETHER: each act -/
theorem ngr_ok {R : Nat → Int} {n : Int} (g : Gr2 R) (hn : 1 ≤ n ∧ n ≤ 28) : ∀ c, c ≤ 8 → Gr2 (ngr R n c) ∧ St (ngr R n c) R
  | 0, _ => by
    have m : Mv 6 ((R 6 + n) % 28) := .inl ⟨.inr rfl, by omega, by omega⟩
    exact ⟨Gr2_mv g m, St_mv m⟩
  | c + 1, hc => by
    have ih := ngr_ok g hn c (by omega)
    have b := ih.1.2.1 c (by omega)
    have b2 := ih.1.1.1 (7 + 7 * c + 4) (by omega)
    have m : Mv (7 + 7 * c + 4) (max 0 (ngr R n c (7 + 7 * c + 4) - n)) := .inr (.inl ⟨c, by omega, rfl, by omega, by omega⟩)
    exact ⟨Gr2_mv ih.1 m, St_t (St_mv m) ih.2⟩
theorem lgp_ok {R : Nat → Int} {c a e : Nat} (g : Gr2 R) (hc : c < 8) (ha : a < 6) (he : e < 4) : Gr2 (lgp R (100 * (c : Int) + 10 * (a : Int) + (e : Int))) ∧ St (lgp R (100 * (c : Int) + 10 * (a : Int) + (e : Int))) R := by
  obtain ⟨⟨a1, b, cc, d, f, k, i⟩, g2, g3⟩ := g
  have r0 := a1 143 (by decide)
  have lo : ∀ j, j < 81 ∨ 141 ≤ j → j ≠ 143 → lgp R (100 * (c : Int) + 10 * (a : Int) + (e : Int)) j = R j := fun j h1 h2 => by
    unfold lgp
    rw [if_neg h2, if_neg (by omega), if_neg (by omega)]
  have l143 : lgp R (100 * (c : Int) + 10 * (a : Int) + (e : Int)) 143 = min 60 (R 143 + 1) := by unfold lgp; rw [if_pos rfl]
  refine ⟨⟨⟨fun j hj => ?_, fun j hj => by rw [lo j (by omega) (by omega)]; exact b j hj, fun x hx => by rw [lo _ (by omega) (by omega)]; exact cc x hx, fun x hx => by rw [lo _ (by omega) (by omega), lo _ (by omega) (by omega)]; exact d x hx, by rw [lo _ (by omega) (by omega)]; exact f, by rw [lo _ (by omega) (by omega)]; exact k, by rw [l143]; omega⟩, fun x hx => by rw [lo _ (by omega) (by omega)]; exact g2 x hx, fun x hx h2 => ?_⟩, fun j hj => lo j (by omega) (by omega), fun x y hx hy => lo _ (by omega) (by omega), fun x hx => ⟨lo _ (by omega) (by omega), lo _ (by omega) (by omega)⟩, lo _ (by omega) (by omega), lo _ (by omega) (by omega)⟩
  · unfold lgp
    by_cases q1 : j = 143
    · rw [if_pos q1]; omega
    · rw [if_neg q1]
      by_cases q2 : j = 81
      · rw [if_pos q2]; omega
      · rw [if_neg q2]
        by_cases q3 : 81 < j ∧ (j : Int) < 81 + min 60 (R 143 + 1)
        · rw [if_pos q3]; exact a1 (j - 1) (by omega)
        · rw [if_neg q3]; exact a1 j hj
  · rw [l143] at h2
    unfold lgp
    rw [if_neg (by omega)]
    by_cases q2 : x = 0
    · subst q2
      rw [if_pos rfl]
      omega
    · rw [if_neg (by omega), if_pos (by omega), show 81 + x - 1 = 81 + (x - 1) by omega]
      exact g3 (x - 1) (by omega) (by omega)
theorem hrR_ok {R : Nat → Int} {O : Nat → Nat → Int} {s a : Nat} {x : Int} (g : Gr2 R) (ha : a < 6) : ∀ c, c ≤ 8 → Gr2 (hrR O s a x R c) ∧ St (hrR O s a x R c) R
  | 0, _ => ⟨g, St_r⟩
  | c + 1, hc => by
    have ih := hrR_ok (O := O) (s := s) (x := x) g ha c (by omega)
    unfold hrR
    split
    · have b2 := ih.1.1.1 (7 + 7 * c + 5) (by omega)
      have m : Mv (7 + 7 * c + 5) (min 99 (hrR O s a x R c (7 + 7 * c + 5) + 1)) := .inr (.inr (.inl ⟨c, by omega, rfl, by omega, by omega⟩))
      have g1 : Gr2 (csp (hrR O s a x R c) c) := Gr2_mv ih.1 m
      have s1 : St (csp (hrR O s a x R c) c) R := St_t (St_mv m) ih.2
      have er := dby_r (O c) (drw (nx1 (hrX s x c)) 1000)
      have er : 0 ≤ hrE O s x c ∧ hrE O s x c < 4 := er
      have q := lgp_ok (c := c) (a := a) (e := (hrE O s x c).toNat) g1 (by omega) ha (by omega)
      rw [show (((hrE O s x c).toNat : Nat) : Int) = hrE O s x c by omega] at q
      exact ⟨q.1, St_t q.2 s1⟩
    · exact ih
section P97
variable {d : Nat} {ss : List (Nat × Nat)} {dd : Nat} {M : pz_M}
theorem w_fish (hJ : JJ M) {c : Int} : ∃ v M1 M2, pz_cal (d + 40) 128 [(2, 0), (0, c)] ((pz_SH, ss, 0, 0, dd), M) = some (some (0, v), ((pz_SH, ss, 0, 0, dd), M1)) ∧ pz_cal (d + 40) 245 [(2, 147), (0, c)] ((pz_SH, ss, 0, 0, dd), M1) = some (some (0, v), ((pz_SH, ss, 0, 0, dd), M2)) ∧ JJ M2 ∧ Ou M M2 := by
  obtain ⟨hR, T, n, t, lws, h, R, nx, ln, H, G, sn, sc, sa, sd, im, I, N, jc, jr, jp⟩ := id hJ
  have k1 := c_CC_fish (d := d + 37) (ss := ss) (dd := dd) (c := c) (Ev_J hR jc jp) jc.2.2.2.2.2.2.1
  by_cases g : CtP R c ∧ R (7 + 7 * c.toNat + 4) < 9
  · rw [if_pos g] at k1
    obtain ⟨M1, t1, a1⟩ := k1
    have r1 := JR_FrA jr a1.2.2.2
    have k2 := m_fish (d := d + 37) (ss := ss) (dd := dd) (c := c) (Em_J a1.1 r1 jp) (Mm_of r1.2.2.2.2.1 r1.2.2.2.2.2.1).2 r1.2.2.2.2.2.2.1
    rw [if_pos g] at k2
    obtain ⟨M2, t2, b2⟩ := k2
    have c8 : c.toNat < 8 := by have := jp.2.2.2.1.1.2.2.2.2.1; have := g.1; omega
    have b := jp.2.2.2.1.1.1 (7 + 7 * c.toNat + 4) (by omega)
    have m : Mv (7 + 7 * c.toNat + 4) (R (7 + 7 * c.toNat + 4) + 1) := .inr (.inl ⟨c.toNat, c8, rfl, by omega, by omega⟩)
    exact ⟨_, M1, M2, t1, t2, JJ_act jc jr jp a1 b2 (Gr2_mv jp.2.2.2.1 m) (St_mv m)⟩
  · rw [if_neg g] at k1
    have k2 := m_fish (d := d + 37) (ss := ss) (dd := dd) (c := c) (Em_J hR jr jp) (Mm_of jr.2.2.2.2.1 jr.2.2.2.2.2.1).2 jr.2.2.2.2.2.2.1
    rw [if_neg g] at k2
    exact ⟨_, M, M, k1, k2, hJ, Ou_r⟩
theorem w_heat (hJ : JJ M) {v : Int} : ∃ x M1 M2, pz_cal (d + 40) 130 [(2, 0), (0, v)] ((pz_SH, ss, 0, 0, dd), M) = some (some (0, x), ((pz_SH, ss, 0, 0, dd), M1)) ∧ pz_cal (d + 40) 248 [(2, 147), (0, v)] ((pz_SH, ss, 0, 0, dd), M1) = some (some (0, x), ((pz_SH, ss, 0, 0, dd), M2)) ∧ JJ M2 ∧ Ou M M2 := by
  obtain ⟨hR, T, n, t, lws, h, R, nx, ln, H, G, sn, sc, sa, sd, im, I, N, jc, jr, jp⟩ := id hJ
  have k1 := c_CC_heat (d := d + 37) (ss := ss) (dd := dd) (v := v) (Ev_J hR jc jp) jc.2.2.2.2.2.2.1
  by_cases g : R 141 ≠ 0 ∧ (0 ≤ v ∧ v ≤ 9) ∧ R 5 ≠ v
  · rw [if_pos g] at k1
    obtain ⟨M1, t1, a1⟩ := k1
    have r1 := JR_FrA jr a1.2.2.2
    have k2 := m_heat (d := d + 37) (ss := ss) (dd := dd) (v := v) (Em_J a1.1 r1 jp) (Mm_of r1.2.2.2.2.1 r1.2.2.2.2.2.1).2 r1.2.2.2.2.2.2.1
    rw [if_pos g] at k2
    obtain ⟨M2, t2, b2⟩ := k2
    have m : Mv 5 v := .inl ⟨.inl rfl, by omega, by omega⟩
    exact ⟨_, M1, M2, t1, t2, JJ_act jc jr jp a1 b2 (Gr2_mv jp.2.2.2.1 m) (St_mv m)⟩
  · rw [if_neg g] at k1
    have k2 := m_heat (d := d + 37) (ss := ss) (dd := dd) (v := v) (Em_J hR jr jp) (Mm_of jr.2.2.2.2.1 jr.2.2.2.2.2.1).2 jr.2.2.2.2.2.2.1
    rw [if_neg g] at k2
    exact ⟨_, M, M, k1, k2, hJ, Ou_r⟩
theorem w_milk (hJ : JJ M) {a v : Int} (hv : v = 0 ∨ v = 1) : ∃ x M1 M2, pz_cal (d + 40) 131 [(2, 0), (0, a), (0, v)] ((pz_SH, ss, 0, 0, dd), M) = some (some (0, x), ((pz_SH, ss, 0, 0, dd), M1)) ∧ pz_cal (d + 40) 250 [(2, 147), (0, a), (0, v)] ((pz_SH, ss, 0, 0, dd), M1) = some (some (0, x), ((pz_SH, ss, 0, 0, dd), M2)) ∧ JJ M2 ∧ Ou M M2 := by
  obtain ⟨hR, T, n, t, lws, h, R, nx, ln, H, G, sn, sc, sa, sd, im, I, N, jc, jr, jp⟩ := id hJ
  have k1 := c_CC_milk (d := d + 37) (ss := ss) (dd := dd) (a := a) (v := v) (Ev_J hR jc jp) jc.2.2.2.2.2.2.1 hv
  by_cases g : AcP R a ∧ R (63 + 3 * a.toNat + 1) ≠ v
  · rw [if_pos g] at k1
    obtain ⟨M1, t1, a1⟩ := k1
    have r1 := JR_FrA jr a1.2.2.2
    have k2 := m_milk (d := d + 37) (ss := ss) (dd := dd) (a := a) (v := v) (Em_J a1.1 r1 jp) (Mm_of r1.2.2.2.2.1 r1.2.2.2.2.2.1).2 r1.2.2.2.2.2.2.1 hv
    rw [if_pos g] at k2
    obtain ⟨M2, t2, b2⟩ := k2
    have a6 : a.toNat < 6 := by have := jp.2.2.2.1.1.2.2.2.2.2.1; have := g.1; omega
    have m : Mv (63 + 3 * a.toNat + 1) v := .inr (.inr (.inr (.inr ⟨a.toNat, a6, rfl, by omega, by omega⟩)))
    exact ⟨_, M1, M2, t1, t2, JJ_act jc jr jp a1 b2 (Gr2_mv jp.2.2.2.1 m) (St_mv m)⟩
  · rw [if_neg g] at k1
    have k2 := m_milk (d := d + 37) (ss := ss) (dd := dd) (a := a) (v := v) (Em_J hR jr jp) (Mm_of jr.2.2.2.2.1 jr.2.2.2.2.2.1).2 jr.2.2.2.2.2.2.1 hv
    rw [if_neg g] at k2
    exact ⟨_, M, M, k1, k2, hJ, Ou_r⟩
theorem w_retire (hJ : JJ M) {c v : Int} (hv : v = 0 ∨ v = 1) : ∃ x M1 M2, pz_cal (d + 40) 132 [(2, 0), (0, c), (0, v)] ((pz_SH, ss, 0, 0, dd), M) = some (some (0, x), ((pz_SH, ss, 0, 0, dd), M1)) ∧ pz_cal (d + 40) 251 [(2, 147), (0, c), (0, v)] ((pz_SH, ss, 0, 0, dd), M1) = some (some (0, x), ((pz_SH, ss, 0, 0, dd), M2)) ∧ JJ M2 ∧ Ou M M2 := by
  obtain ⟨hR, T, n, t, lws, h, R, nx, ln, H, G, sn, sc, sa, sd, im, I, N, jc, jr, jp⟩ := id hJ
  have k1 := c_CC_retire (d := d + 37) (ss := ss) (dd := dd) (c := c) (v := v) (Ev_J hR jc jp) jc.2.2.2.2.2.2.1 hv
  by_cases g : CtP R c ∧ R (7 + 7 * c.toNat + 6) ≠ v
  · rw [if_pos g] at k1
    obtain ⟨M1, t1, a1⟩ := k1
    have r1 := JR_FrA jr a1.2.2.2
    have k2 := m_retire (d := d + 37) (ss := ss) (dd := dd) (c := c) (v := v) (Em_J a1.1 r1 jp) (Mm_of r1.2.2.2.2.1 r1.2.2.2.2.2.1).2 r1.2.2.2.2.2.2.1 hv
    rw [if_pos g] at k2
    obtain ⟨M2, t2, b2⟩ := k2
    have c8 : c.toNat < 8 := by have := jp.2.2.2.1.1.2.2.2.2.1; have := g.1; omega
    have m : Mv (7 + 7 * c.toNat + 6) v := .inr (.inr (.inr (.inl ⟨c.toNat, c8, rfl, by omega, by omega⟩)))
    exact ⟨_, M1, M2, t1, t2, JJ_act jc jr jp a1 b2 (Gr2_mv jp.2.2.2.1 m) (St_mv m)⟩
  · rw [if_neg g] at k1
    have k2 := m_retire (d := d + 37) (ss := ss) (dd := dd) (c := c) (v := v) (Em_J hR jr jp) (Mm_of jr.2.2.2.2.1 jr.2.2.2.2.2.1).2 jr.2.2.2.2.2.2.1 hv
    rw [if_neg g] at k2
    exact ⟨_, M, M, k1, k2, hJ, Ou_r⟩
theorem w_nights (hJ : JJ M) {x : Int} : ∃ v M1 M2, pz_cal (d + 40) 129 [(2, 0), (0, x)] ((pz_SH, ss, 0, 0, dd), M) = some (some (0, v), ((pz_SH, ss, 0, 0, dd), M1)) ∧ pz_cal (d + 40) 247 [(2, 147), (0, x)] ((pz_SH, ss, 0, 0, dd), M1) = some (some (0, v), ((pz_SH, ss, 0, 0, dd), M2)) ∧ JJ M2 ∧ Ou M M2 := by
  obtain ⟨hR, T, n, t, lws, h, R, nx, ln, H, G, sn, sc, sa, sd, im, I, N, jc, jr, jp⟩ := id hJ
  have k1 := c_CC_nights (d := d + 37) (ss := ss) (dd := dd) (n := x) (Ev_J hR jc jp) jc.2.2.2.2.2.2.1
  by_cases g : R 141 ≠ 0 ∧ 1 ≤ x ∧ x ≤ 28
  · rw [if_pos g] at k1
    obtain ⟨M1, t1, a1⟩ := k1
    have r1 := JR_FrA jr a1.2.2.2
    have k2 := m_nights (d := d + 38) (ss := ss) (dd := dd) (n := x) (Em_J a1.1 r1 jp) (Mm_of r1.2.2.2.2.1 r1.2.2.2.2.2.1).2 r1.2.2.2.2.2.2.1
    rw [if_pos g] at k2
    obtain ⟨M2, t2, b2⟩ := k2
    have ok := ngr_ok (n := x) jp.2.2.2.1 g.2 (R 141).toNat (by have := jp.2.2.2.1.1.2.2.2.2.1; omega)
    exact ⟨_, M1, M2, t1, t2, JJ_act jc jr jp a1 b2 ok.1 ok.2⟩
  · rw [if_neg g] at k1
    have k2 := m_nights (d := d + 38) (ss := ss) (dd := dd) (n := x) (Em_J hR jr jp) (Mm_of jr.2.2.2.2.1 jr.2.2.2.2.2.1).2 jr.2.2.2.2.2.2.1
    rw [if_neg g] at k2
    exact ⟨_, M, M, k1, k2, hJ, Ou_r⟩
theorem w_hear (hJ : JJ M) {s a x : Int} (hs : I32 s) : ∃ v M1 M2, pz_cal (d + 40) 133 [(2, 0), (0, s), (0, a), (1, x)] ((pz_SH, ss, 0, 0, dd), M) = some (some (0, v), ((pz_SH, ss, 0, 0, dd), M1)) ∧ pz_cal (d + 40) 252 [(2, 147), (0, s), (0, a), (1, x)] ((pz_SH, ss, 0, 0, dd), M1) = some (some (0, v), ((pz_SH, ss, 0, 0, dd), M2)) ∧ JJ M2 ∧ Ou M M2 := by
  obtain ⟨hR, T, n, t, lws, h, R, nx, ln, H, G, sn, sc, sa, sd, im, I, N, jc, jr, jp⟩ := id hJ
  have k1 := c_CC_hear (d := d + 33) (ss := ss) (dd := dd) (s := s) (a := a) (x := x) (Ev_J hR jc jp) jc.2.2.2.2.2.2.1 hs
  by_cases g : StP R s ∧ AcP R a
  · rw [if_pos g] at k1
    obtain ⟨M1, t1, r1, z1, e1, p1, f1⟩ := k1
    have j1 := JR_c (M' := M1) jr (fun c a b => f1 c (fun h => by have := QMS_lt c h; omega) (by omega) (by omega) (by omega))
    have k2 := m_hear (d := d + 33) (ss := ss) (dd := dd) (s := s) (a := a) (x := x) (Em_J r1 j1 jp) (Mm_of j1.2.2.2.2.1 j1.2.2.2.2.2.1).2 j1.2.2.2.2.2.2.1 hs
    rw [if_pos g] at k2
    obtain ⟨M2, t2, b1, b2, b3⟩ := k2
    have a6 : a.toNat < 6 := by have := jp.2.2.2.1.1.2.2.2.2.2.1; have := g.2; omega
    have ok := hrR_ok (O := OO (Lh lws h) R a.toNat (gui R a.toNat x)) (s := s.toNat) (x := nx1 x) jp.2.2.2.1 a6 8 (by omega)
    have ge := Gr2_e ok.1 e1
    rw [f1 165 (fun h => by have := QMS_lt 165 h; omega) (by decide) (by decide) (by decide)] at b1
    exact ⟨_, M1, M2, t1, t2, JJ_gen jc jr jp r1 z1 rfl p1 f1 b3 (St_t (St_e e1) ok.2) ge (Nw_R b2 ok.1.1.2.2.2.2.2.2 e1) b1 (psh_ok jp jr.2.2.2.2.2.1)⟩
  · rw [if_neg g] at k1
    have k2 := m_hear (d := d + 33) (ss := ss) (dd := dd) (s := s) (a := a) (x := x) (Em_J hR jr jp) (Mm_of jr.2.2.2.2.1 jr.2.2.2.2.2.1).2 jr.2.2.2.2.2.2.1 hs
    rw [if_neg g] at k2
    exact ⟨_, M, M, k1, k2, hJ, Ou_r⟩
theorem w_undo (hJ : JJ M) : ∃ v M1 M2, pz_cal (d + 40) 135 [(2, 0)] ((pz_SH, ss, 0, 0, dd), M) = some (some (0, v), ((pz_SH, ss, 0, 0, dd), M1)) ∧ pz_cal (d + 40) 256 [(2, 147)] ((pz_SH, ss, 0, 0, dd), M1) = some (some (0, v), ((pz_SH, ss, 0, 0, dd), M2)) ∧ JJ M2 ∧ Ou M M2 := by
  obtain ⟨hR, T, n, t, lws, h, R, nx, ln, H, G, sn, sc, sa, sd, im, I, N, jc, jr, jp⟩ := id hJ
  by_cases g : ln = 0
  · subst g
    exact ⟨_, M, M, c_CC_undo0 (d := d + 37) (ss := ss) (dd := dd) (Ev_J hR jc jp) jc.2.2.2.2.2.2.1, m_undo0 (d := d + 39) (ss := ss) (dd := dd) jr.2.2.2.2.2.2.1, hJ, Ou_r⟩
  · obtain ⟨M1, t1, r1, p1, e1, f1⟩ := c_CC_undo (d := d + 37) (ss := ss) (dd := dd) (Ev_J hR jc jp) jc.2.2.2.2.2.2.1 g
    have j1 := JR_FrA jr f1
    obtain ⟨M2, t2, p2, e2, q2⟩ := m_undo (d := d + 39) (ss := ss) (dd := dd) r1 j1.2.2.2.2.2.2.1 g
    have o := jp.2.2.2.2.1 0 (by omega)
    exact ⟨_, M1, M2, t1, t2, JJ_gen jc jr jp r1 (Z0_FrA jc.1 f1) rfl p1 (fun c _ x _ y => f1 c x y) q2 (St_t (St_e e1) o.2.2) (Gr2_e o.1 e1) (Nw_R (Nw_c o.2.1 e2) o.1.1.2.2.2.2.2.2 e1) p2 (fun i hi => jp.2.2.2.2.1 (i + 1) (by omega))⟩
theorem w_law (hJ : JJ M) {x : Int} : ∃ v M1 M2, pz_cal (d + 40) 105 [(2, 0), (0, x)] ((pz_SH, ss, 0, 0, dd), M) = some (some (0, v), ((pz_SH, ss, 0, 0, dd), M1)) ∧ pz_cal (d + 40) 222 [(2, 147), (0, x)] ((pz_SH, ss, 0, 0, dd), M1) = some (some (0, v), ((pz_SH, ss, 0, 0, dd), M2)) ∧ JJ M2 ∧ Ou M M2 := by
  obtain ⟨hR, T, n, t, lws, h, R, nx, ln, H, G, sn, sc, sa, sd, im, I, N, jc, jr, jp⟩ := id hJ
  have k1 := c_CC_law (d := d + 39) (ss := ss) (dd := dd) (M := M) (n := x)
  rw [jc.2.2.2.1] at k1
  have t4 := jp.1
  by_cases g : -1 ≤ x ∧ x < (t : Int)
  · rw [if_pos g] at k1
    have r1 : Rf (pz_up M 0 5 x) := Rf_up hR (by decide +kernel)
    have o1 : ∀ c, c ≠ 0 → pz_up M 0 5 x c = M c := fun c hc => by funext z; rw [up_at, if_neg (by omega)]
    have o0 : ∀ j, j ≠ 5 → pz_up M 0 5 x 0 j = M 0 j := fun j hj => by rw [up_at, if_neg (by omega)]
    have v0 : pz_up M 0 5 x 0 5 = x := by rw [up_at, if_pos ⟨rfl, rfl⟩]
    have j1 : JR (pz_up M 0 5 x) T n t lws h R ln G sn sc sa sd im N := JR_c jr (fun c a b => o1 c (by omega))
    generalize pz_up M 0 5 x = M1 at *
    have k2 := c_Mo_law (d := d + 38) (ss := ss) (dd := dd) (M := M1) (n := x) (by rw [j1.2.1]; omega)
    rw [j1.2.1, if_pos (by omega)] at k2
    have u1 : ∀ c, c ≠ 147 → pz_up M1 147 30 x c = M1 c := fun c hc => u7_c hc
    have u2 : ∀ j, j ≠ 30 → pz_up M1 147 30 x 147 j = M1 147 j := fun j hj => u7_o hj
    have v2 : pz_up M1 147 30 x 147 30 = x := by rw [up_at, if_pos ⟨rfl, rfl⟩]
    have r2 : Rf (pz_up M1 147 30 x) := Rf_up r1 (by decide +kernel)
    refine ⟨_, M1, _, k1, k2, ⟨r2, T, n, t, lws, x, R, nx, ln, H, G, sn, sc, sa, sd, im, I, N, ?_, ?_, ?_⟩, fun c hc => (u1 c (by omega)).trans (o1 c (by omega))⟩
    · obtain ⟨a1, a2, a3, a4, a5, a6, a7, a8, a9, a10, a11⟩ := jc
      have e : ∀ c, c ≠ 0 → c ≠ 147 → pz_up M1 147 30 x c = M c := fun c x y => (u1 c y).trans (o1 c x)
      have e0 : ∀ j, j ≠ 5 → pz_up M1 147 30 x 0 j = M 0 j := fun j hj => by rw [u1 0 (by decide)]; exact o0 j hj
      refine ⟨?_, by rw [e 10 (by decide) (by decide)]; exact a2, ⟨by rw [e 1 (by decide) (by decide)]; exact a3.1, a3.2.1, by rw [e 2 (by decide) (by decide)]; exact a3.2.2⟩, by rw [e0 4 (by decide)]; exact a4, fun k hk => LRc_c (a5 k hk) (e _ (by omega) (by omega)) (e _ (by omega) (by omega)), by rw [u1 0 (by decide)]; exact v0, ?_, ?_, by rw [e0 9 (by decide)]; exact a9, by rw [e 14 (by decide) (by decide)]; exact a10, STc_c a11 (fun c hc => e c (by omega) (by omega))⟩
      · unfold Z0
        rw [e 106 (by decide) (by decide), e 121 (by decide) (by decide)]; exact a1
      · obtain ⟨p1, p2, p3, p4, p5⟩ := a7
        exact ⟨by rw [e 15 (by decide) (by decide)]; exact p1, p2, by rw [e 15 (by decide) (by decide)]; exact p3, p4, fun i hi j hj => by rw [e _ (by omega) (by omega)]; exact p5 i hi j hj⟩
      · exact ⟨by rw [e0 12 (by decide)]; exact a8.1, a8.2.1, by rw [e 97 (by decide) (by decide)]; exact a8.2.2⟩
    · obtain ⟨a1, a2, a3, a4, a5, a6, a7, a8, a9, a10⟩ := j1
      refine ⟨⟨by rw [u2 2 (by decide)]; exact a1.1, a1.2.1, by rw [u1 148 (by decide)]; exact a1.2.2⟩, by rw [u2 13 (by decide)]; exact a2, fun k hk => LRm_fr (a3 k hk) (by rw [u1 152 (by decide)]) (fun i _ => by rw [u1 149 (by decide), u1 150 (by decide)]; exact ⟨rfl, rfl⟩) (fun i _ => by rw [u1 153 (by decide), u1 154 (by decide), u1 155 (by decide)]; exact ⟨rfl, rfl, rfl⟩), v2, ?_, by rw [u1 165 (by decide)]; exact a6, ?_, ?_, by rw [u2 49 (by decide)]; exact a9, by rw [u1 177 (by decide)]; exact a10⟩
      · unfold Sx
        rw [u2 26 (by decide), u2 27 (by decide), u2 28 (by decide), u1 161 (by decide), u1 162 (by decide), u1 163 (by decide), u1 164 (by decide)]; exact a5
      · unfold Pm
        rw [u2 36 (by decide), u1 169 (by decide)]; exact a7
      · unfold Sm
        rw [u2 46 (by decide), u1 173 (by decide), u1 174 (by decide), u1 175 (by decide)]; exact a8
    · exact ⟨jp.1, jp.2.1, by omega, jp.2.2.2⟩
  · rw [if_neg g] at k1
    have k2 := c_Mo_law (d := d + 38) (ss := ss) (dd := dd) (M := M) (n := x) (by rw [jr.2.1]; omega)
    rw [jr.2.1, if_neg (by omega)] at k2
    exact ⟨_, M, M, k1, k2, hJ, Ou_r⟩
end P97
