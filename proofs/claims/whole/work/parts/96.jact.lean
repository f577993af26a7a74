/-! BOTH TOGETHER: acts -/
section P96
variable {M M' : pz_M} {T : Nat → Int} {n t : Nat} {lws : Nat → List (Option Ex × Ex)} {h : Int} {R : Nat → Int} {nx ln : Nat} {H G : Nat → Nat → Int} {sn : Nat} {sc sa sd : Nat → Nat} {im : Int} {I N : Nat → Int}
theorem JC_act {R1 : Nat → Int} {nx1 ln1 : Nat} {H1 : Nat → Nat → Int} (j : JC M T n t lws h R nx ln H sn sc sa sd im I) (ht : t ≤ 4) (z : Z0 M') (h10 : M' 10 = R1) (hP : Ps M' nx1 ln1 H1) (e : ∀ c, c ∉ QMS → c ≠ 10 → c ≠ 134 → (c < 15 ∨ 97 ≤ c) → M' c = M c) : JC M' T n t lws h R1 nx1 ln1 H1 sn sc sa sd im I := by
  obtain ⟨a1, a2, a3, a4, a5, a6, a7, a8, a9, a10, a11⟩ := j
  have e0 : M' 0 = M 0 := e 0 (by decide) (by decide) (by decide) (by decide)
  have e1 : M' 1 = M 1 := e 1 (by decide) (by decide) (by decide) (by decide)
  have e2 : M' 2 = M 2 := e 2 (by decide) (by decide) (by decide) (by decide)
  refine ⟨z, h10, ⟨by rw [e1]; exact a3.1, a3.2.1, by rw [e2]; exact a3.2.2⟩, by rw [e0]; exact a4, fun k hk => LRc_c (a5 k hk) (e _ (QMS_law k (by omega)).1 (by omega) (by omega) (by omega)) (e _ (QMS_law k (by omega)).2 (by omega) (by omega) (by omega)), by rw [e0]; exact a6, hP, ?_, by rw [e0]; exact a9, by rw [e 14 (by decide) (by decide) (by decide) (by decide)]; exact a10, STc_c a11 (fun c hc => e c (fun h => by have := QMS_lt c h; omega) (by omega) (by omega) (by omega))⟩
  obtain ⟨p1, p2, p3⟩ := a8
  exact ⟨by rw [e0]; exact p1, p2, by rw [e 97 (by decide) (by decide) (by decide) (by decide)]; exact p3⟩
theorem JR_act {R1 : Nat → Int} {ln1 : Nat} {G1 : Nat → Nat → Int} (j : JR M T n t lws h R ln G sn sc sa sd im N) (q : Ka M M') (s : St R1 R) (hN : Nw (M' 165) R1) (hP : Pm M' ln1 G1) : JR M' T n t lws h R1 ln1 G1 sn sc sa sd im N := by
  obtain ⟨a1, a2, a3, a4, a5, a6, a7, a8, a9, a10⟩ := j
  have e : ∀ c, c ≠ 147 → c ≠ 165 → c ≠ 169 → c ∉ SMc → M' c = M c := fun c a b x y => q.1 c y a b x
  refine ⟨⟨by rw [q.2 2 (by decide) (by decide) (by decide)]; exact a1.1, a1.2.1, by rw [e 148 (by decide) (by decide) (by decide) (by decide)]; exact a1.2.2⟩, by rw [q.2 13 (by decide) (by decide) (by decide)]; exact a2, fun k hk => LRm_fr (a3 k hk) (by rw [e 152 (by decide) (by decide) (by decide) (by decide)]) (fun i _ => by rw [e 149 (by decide) (by decide) (by decide) (by decide), e 150 (by decide) (by decide) (by decide) (by decide)]; exact ⟨rfl, rfl⟩) (fun i _ => by rw [e 153 (by decide) (by decide) (by decide) (by decide), e 154 (by decide) (by decide) (by decide) (by decide), e 155 (by decide) (by decide) (by decide) (by decide)]; exact ⟨rfl, rfl, rfl⟩), by rw [q.2 30 (by decide) (by decide) (by decide)]; exact a4, Sx_St (Sx_Ka a5 q) s, hN, hP, Sm_St ?_ s, by rw [q.2 49 (by decide) (by decide) (by decide)]; exact a9, by rw [e 177 (by decide) (by decide) (by decide) (by decide)]; exact a10⟩
  unfold Sm
  rw [q.2 46 (by decide) (by decide) (by decide), e 173 (by decide) (by decide) (by decide) (by decide), e 174 (by decide) (by decide) (by decide) (by decide), e 175 (by decide) (by decide) (by decide) (by decide)]
  exact a8
theorem Ka_e (q : Ka M M') : ∀ c, (c < 147 ∨ 178 ≤ c) → M' c = M c := fun c hc => q.1 c (fun h => by have := SMc_r c h; omega) (by omega) (by omega) (by omega)
/-- behind an act of both -/
theorem JJ_gen {M1 M2 : pz_M} {R1 : Nat → Int} {nx1 ln1 : Nat} {H1 G1 : Nat → Nat → Int} (jc : JC M T n t lws h R nx ln H sn sc sa sd im I) (jr : JR M T n t lws h R ln G sn sc sa sd im N) (jp : JP t lws h R ln H G im I N) (r1 : Rf M1) (z1 : Z0 M1) (h10 : M1 10 = R1) (p1 : Ps M1 nx1 ln1 H1) (e1 : ∀ c, c ∉ QMS → c ≠ 10 → c ≠ 134 → (c < 15 ∨ 97 ≤ c) → M1 c = M c) (q : Ka M1 M2) (s : St R1 R) (g : Gr2 R1) (hN : Nw (M2 165) R1) (p2 : Pm M2 ln1 G1) (pa : ∀ i, i < ln1 → Gr2 (H1 i) ∧ Nw (G1 i) (H1 i) ∧ St (H1 i) R) : JJ M2 ∧ Ou M M2 := by
  have j1 := JC_act jc jp.1 z1 h10 p1 e1
  have j2 := JC_c j1 jp.1 (by
    unfold Z0
    rw [Ka_e q 106 (by decide), Ka_e q 121 (by decide)]
    exact z1) (fun c _ b => Ka_e q c b)
  have r2 := JR_c (M' := M1) jr (fun c a b => e1 c (fun h => by have := QMS_lt c h; omega) (by omega) (by omega) (by omega))
  have r3 := JR_act r2 q s hN p2
  obtain ⟨b1, b2, b3, b4, b5, b6, b7⟩ := jp
  exact ⟨⟨Rf_Ka r1 q, T, n, t, lws, h, R1, nx1, ln1, H1, G1, sn, sc, sa, sd, im, I, N, j2, r3, b1, b2, b3, g, fun i hi => ⟨(pa i hi).1, (pa i hi).2.1, St_t (pa i hi).2.2 (St_s s)⟩, b6, fun x => ⟨(b7 x).1, (b7 x).2.1, St_t (b7 x).2.2 (St_s s)⟩⟩, fun c hc => (Ka_e q c (by omega)).trans (e1 c (fun h => by have := QMS_lt c h; omega) (by omega) (by omega) (by omega))⟩
theorem psh_ok {R' : Nat → Int} (jp : JP t lws h R ln H G im I N) (hN : Nw R' R) : ∀ i, i < min 40 (ln + 1) → Gr2 (psh R H i) ∧ Nw (psh R' G i) (psh R H i) ∧ St (psh R H i) R
  | 0, _ => ⟨jp.2.2.2.1, hN, St_r⟩
  | i + 1, hi => jp.2.2.2.2.1 i (by omega)
theorem Z0_FrA (z : Z0 M) (f : FrA M M') : Z0 M' := by
  unfold Z0
  rw [f 106 (by decide) (by decide), f 121 (by decide) (by decide)]
  exact z
theorem JJ_act {M1 M2 : pz_M} {R1 : Nat → Int} (jc : JC M T n t lws h R nx ln H sn sc sa sd im I) (jr : JR M T n t lws h R ln G sn sc sa sd im N) (jp : JP t lws h R ln H G im I N) (a : Act M M1 R1 nx ln H) (b : Am M1 M2 R1 ln G) (g : Gr2 R1) (s : St R1 R) : JJ M2 ∧ Ou M M2 := by
  obtain ⟨a1, a2, a3, a4⟩ := a
  obtain ⟨b1, b2, b3⟩ := b
  rw [jc.2.1] at a3
  rw [a4 165 (by decide) (by decide)] at b1
  exact JJ_gen jc jr jp a1 (Z0_FrA jc.1 a4) a2 a3 (fun c _ x _ y => a4 c x y) b3 s g b2 b1 (psh_ok jp jr.2.2.2.2.2.1)
theorem JR_FrA {M1 : pz_M} (jr : JR M T n t lws h R ln G sn sc sa sd im N) (f : FrA M M1) : JR M1 T n t lws h R ln G sn sc sa sd im N := JR_c jr (fun c a b => f c (by omega) (by omega))
end P96
/-- a place that moves, and what it may become -/
def Mv (j : Nat) (v : Int) : Prop := ((j = 5 ∨ j = 6) ∧ 0 ≤ v ∧ v ≤ 99) ∨ (∃ c, c < 8 ∧ j = 7 + 7 * c + 4 ∧ 0 ≤ v ∧ v ≤ 9) ∨ (∃ c, c < 8 ∧ j = 7 + 7 * c + 5 ∧ 0 ≤ v ∧ v ≤ 99) ∨ (∃ c, c < 8 ∧ j = 7 + 7 * c + 6 ∧ 0 ≤ v ∧ v ≤ 1) ∨ ∃ a, a < 6 ∧ j = 63 + 3 * a + 1 ∧ 0 ≤ v ∧ v ≤ 1
theorem Mv_lt {j : Nat} {v : Int} (h : Mv j v) : 5 ≤ j ∧ j < 81 ∧ 0 ≤ v ∧ v ≤ 99 := by
  rcases h with h | ⟨c, h⟩ | ⟨c, h⟩ | ⟨c, h⟩ | ⟨c, h⟩ <;> omega
theorem St_mv {R : Nat → Int} {j : Nat} {v : Int} (h : Mv j v) : St (upf R j v) R := by
  have l := Mv_lt h
  refine ⟨fun i hi => upf_o (by omega), fun c k hc hk => upf_o ?_, fun a ha => ⟨upf_o ?_, upf_o ?_⟩, upf_o (by omega), upf_o (by omega)⟩
  · rcases h with h | ⟨c, h⟩ | ⟨c, h⟩ | ⟨c, h⟩ | ⟨c, h⟩ <;> omega
  · rcases h with h | ⟨c, h⟩ | ⟨c, h⟩ | ⟨c, h⟩ | ⟨c, h⟩ <;> omega
  · rcases h with h | ⟨c, h⟩ | ⟨c, h⟩ | ⟨c, h⟩ | ⟨c, h⟩ <;> omega
theorem Gr2_mv {R : Nat → Int} {j : Nat} {v : Int} (g : Gr2 R) (h : Mv j v) : Gr2 (upf R j v) := by
  have l := Mv_lt h
  obtain ⟨⟨a, b, c, d, f, k, i⟩, g2, g3⟩ := g
  refine ⟨⟨fun x hx => ?_, fun x hx => by rw [upf_o (by omega)]; exact b x hx, fun x hx => ?_, fun x hx => ⟨?_, ?_⟩, by rw [upf_o (by omega)]; exact f, by rw [upf_o (by omega)]; exact k, by rw [upf_o (by omega)]; exact i⟩, fun x hx => ?_, fun x hx h2 => ?_⟩
  · by_cases e : x = j
    · rw [upf_at, if_pos e]; omega
    · rw [upf_o e]; exact a x hx
  · by_cases e : 7 + 7 * x + 6 = j
    · rw [upf_at, if_pos e]
      rcases h with h | ⟨c, h⟩ | ⟨c, h⟩ | ⟨c, h⟩ | ⟨c, h⟩ <;> omega
    · rw [upf_o e]; exact c x hx
  · have e : 63 + 3 * x + 0 ≠ j := by rcases h with h | ⟨c, h⟩ | ⟨c, h⟩ | ⟨c, h⟩ | ⟨c, h⟩ <;> omega
    rw [upf_o e]; exact (d x hx).1
  · by_cases e : 63 + 3 * x + 1 = j
    · rw [upf_at, if_pos e]
      rcases h with h | ⟨c, h⟩ | ⟨c, h⟩ | ⟨c, h⟩ | ⟨c, h⟩ <;> omega
    · rw [upf_o e]; exact (d x hx).2
  · by_cases e : 7 + 7 * x + 4 = j
    · rw [upf_at, if_pos e]
      rcases h with h | ⟨c, h⟩ | ⟨c, h⟩ | ⟨c, h⟩ | ⟨c, h⟩ <;> omega
    · rw [upf_o e]; exact g2 x hx
  · rw [upf_o (by omega)] at h2
    rw [upf_o (by omega)]
    exact g3 x hx h2
/-! BOTH TOGETHER: each act -/
theorem ngr_ok {R : Nat → Int} {n : Int} (g : Gr2 R) (hn : 1 ≤ n ∧ n ≤ 28) : ∀ c, c ≤ 8 → Gr2 (ngr R n c) ∧ St (ngr R n c) R
  | 0, _ => by
    have m : Mv 6 ((R 6 + n) % 28) := .inl ⟨.inr rfl, by omega, by omega⟩
    exact ⟨Gr2_mv g m, St_mv m⟩
  | c + 1, hc => by
    have ih := ngr_ok g hn c (by omega)
    have b := ih.1.2.1 c (by omega)
    have b2 := ih.1.1.1 (7 + 7 * c + 4) (by omega)
    have m : Mv (7 + 7 * c + 4) (max 0 (ngr R n c (7 + 7 * c + 4) - n)) := .inr (.inl ⟨c, by omega, rfl, by omega, by omega⟩)
    exact ⟨Gr2_mv ih.1 m, St_t (St_mv m) ih.2⟩
theorem lgp_ok {R : Nat → Int} {c a e : Nat} (g : Gr2 R) (hc : c < 8) (ha : a < 6) (he : e < 4) : Gr2 (lgp R (100 * (c : Int) + 10 * (a : Int) + (e : Int))) ∧ St (lgp R (100 * (c : Int) + 10 * (a : Int) + (e : Int))) R := by
  obtain ⟨⟨a1, b, cc, d, f, k, i⟩, g2, g3⟩ := g
  have r0 := a1 143 (by decide)
  have lo : ∀ j, j < 81 ∨ 141 ≤ j → j ≠ 143 → lgp R (100 * (c : Int) + 10 * (a : Int) + (e : Int)) j = R j := fun j h1 h2 => by
    unfold lgp
    rw [if_neg h2, if_neg (by omega), if_neg (by omega)]
  have l143 : lgp R (100 * (c : Int) + 10 * (a : Int) + (e : Int)) 143 = min 60 (R 143 + 1) := by unfold lgp; rw [if_pos rfl]
  refine ⟨⟨⟨fun j hj => ?_, fun j hj => by rw [lo j (by omega) (by omega)]; exact b j hj, fun x hx => by rw [lo _ (by omega) (by omega)]; exact cc x hx, fun x hx => by rw [lo _ (by omega) (by omega), lo _ (by omega) (by omega)]; exact d x hx, by rw [lo _ (by omega) (by omega)]; exact f, by rw [lo _ (by omega) (by omega)]; exact k, by rw [l143]; omega⟩, fun x hx => by rw [lo _ (by omega) (by omega)]; exact g2 x hx, fun x hx h2 => ?_⟩, fun j hj => lo j (by omega) (by omega), fun x y hx hy => lo _ (by omega) (by omega), fun x hx => ⟨lo _ (by omega) (by omega), lo _ (by omega) (by omega)⟩, lo _ (by omega) (by omega), lo _ (by omega) (by omega)⟩
  · unfold lgp
    by_cases q1 : j = 143
    · rw [if_pos q1]; omega
    · rw [if_neg q1]
      by_cases q2 : j = 81
      · rw [if_pos q2]; omega
      · rw [if_neg q2]
        by_cases q3 : 81 < j ∧ (j : Int) < 81 + min 60 (R 143 + 1)
        · rw [if_pos q3]; exact a1 (j - 1) (by omega)
        · rw [if_neg q3]; exact a1 j hj
  · rw [l143] at h2
    unfold lgp
    rw [if_neg (by omega)]
    by_cases q2 : x = 0
    · subst q2
      rw [if_pos rfl]
      omega
    · rw [if_neg (by omega), if_pos (by omega), show 81 + x - 1 = 81 + (x - 1) by omega]
      exact g3 (x - 1) (by omega) (by omega)
theorem hrR_ok {R : Nat → Int} {O : Nat → Nat → Int} {s a : Nat} {x : Int} (g : Gr2 R) (ha : a < 6) : ∀ c, c ≤ 8 → Gr2 (hrR O s a x R c) ∧ St (hrR O s a x R c) R
  | 0, _ => ⟨g, St_r⟩
  | c + 1, hc => by
    have ih := hrR_ok (O := O) (s := s) (x := x) g ha c (by omega)
    unfold hrR
    split
    · have b2 := ih.1.1.1 (7 + 7 * c + 5) (by omega)
      have m : Mv (7 + 7 * c + 5) (min 99 (hrR O s a x R c (7 + 7 * c + 5) + 1)) := .inr (.inr (.inl ⟨c, by omega, rfl, by omega, by omega⟩))
      have g1 : Gr2 (csp (hrR O s a x R c) c) := Gr2_mv ih.1 m
      have s1 : St (csp (hrR O s a x R c) c) R := St_t (St_mv m) ih.2
      have er := dby_r (O c) (drw (nx1 (hrX s x c)) 1000)
      have er : 0 ≤ hrE O s x c ∧ hrE O s x c < 4 := er
      have q := lgp_ok (c := c) (a := a) (e := (hrE O s x c).toNat) g1 (by omega) ha (by omega)
      rw [show (((hrE O s x c).toNat : Nat) : Int) = hrE O s x c by omega] at q
      exact ⟨q.1, St_t q.2 s1⟩
    · exact ih
section P97
variable {d : Nat} {ss : List (Nat × Nat)} {dd : Nat} {M : pz_M}
theorem w_fish (hJ : JJ M) {c : Int} : ∃ v M1 M2, pz_cal (d + 40) 128 [(2, 0), (0, c)] ((pz_SH, ss, 0, 0, dd), M) = some (some (0, v), ((pz_SH, ss, 0, 0, dd), M1)) ∧ pz_cal (d + 40) 245 [(2, 147), (0, c)] ((pz_SH, ss, 0, 0, dd), M1) = some (some (0, v), ((pz_SH, ss, 0, 0, dd), M2)) ∧ Ou M M1 ∧ JJ M2 ∧ Ou M M2 := by
  obtain ⟨hR, T, n, t, lws, h, R, nx, ln, H, G, sn, sc, sa, sd, im, I, N, jc, jr, jp⟩ := id hJ
  have k1 := c_CC_fish (d := d + 37) (ss := ss) (dd := dd) (c := c) (Ev_J hR jc jp) jc.2.2.2.2.2.2.1
  by_cases g : CtP R c ∧ R (7 + 7 * c.toNat + 4) < 9
  · rw [if_pos g] at k1
    obtain ⟨M1, t1, a1⟩ := k1
    have r1 := JR_FrA jr a1.2.2.2
    have k2 := m_fish (d := d + 37) (ss := ss) (dd := dd) (c := c) (Em_J a1.1 r1 jp) (Mm_of r1.2.2.2.2.1 r1.2.2.2.2.2.1).2 r1.2.2.2.2.2.2.1
    rw [if_pos g] at k2
    obtain ⟨M2, t2, b2⟩ := k2
    have c8 : c.toNat < 8 := by have := jp.2.2.2.1.1.2.2.2.2.1; have := g.1; omega
    have b := jp.2.2.2.1.1.1 (7 + 7 * c.toNat + 4) (by omega)
    have m : Mv (7 + 7 * c.toNat + 4) (R (7 + 7 * c.toNat + 4) + 1) := .inr (.inl ⟨c.toNat, c8, rfl, by omega, by omega⟩)
    exact ⟨_, M1, M2, t1, t2, fun c hc => a1.2.2.2 c (by omega) (by omega), JJ_act jc jr jp a1 b2 (Gr2_mv jp.2.2.2.1 m) (St_mv m)⟩
  · rw [if_neg g] at k1
    have k2 := m_fish (d := d + 37) (ss := ss) (dd := dd) (c := c) (Em_J hR jr jp) (Mm_of jr.2.2.2.2.1 jr.2.2.2.2.2.1).2 jr.2.2.2.2.2.2.1
    rw [if_neg g] at k2
    exact ⟨_, M, M, k1, k2, Ou_r, hJ, Ou_r⟩
theorem w_heat (hJ : JJ M) {v : Int} : ∃ x M1 M2, pz_cal (d + 40) 130 [(2, 0), (0, v)] ((pz_SH, ss, 0, 0, dd), M) = some (some (0, x), ((pz_SH, ss, 0, 0, dd), M1)) ∧ pz_cal (d + 40) 248 [(2, 147), (0, v)] ((pz_SH, ss, 0, 0, dd), M1) = some (some (0, x), ((pz_SH, ss, 0, 0, dd), M2)) ∧ Ou M M1 ∧ JJ M2 ∧ Ou M M2 := by
  obtain ⟨hR, T, n, t, lws, h, R, nx, ln, H, G, sn, sc, sa, sd, im, I, N, jc, jr, jp⟩ := id hJ
  have k1 := c_CC_heat (d := d + 37) (ss := ss) (dd := dd) (v := v) (Ev_J hR jc jp) jc.2.2.2.2.2.2.1
  by_cases g : R 141 ≠ 0 ∧ (0 ≤ v ∧ v ≤ 9) ∧ R 5 ≠ v
  · rw [if_pos g] at k1
    obtain ⟨M1, t1, a1⟩ := k1
    have r1 := JR_FrA jr a1.2.2.2
    have k2 := m_heat (d := d + 37) (ss := ss) (dd := dd) (v := v) (Em_J a1.1 r1 jp) (Mm_of r1.2.2.2.2.1 r1.2.2.2.2.2.1).2 r1.2.2.2.2.2.2.1
    rw [if_pos g] at k2
    obtain ⟨M2, t2, b2⟩ := k2
    have m : Mv 5 v := .inl ⟨.inl rfl, by omega, by omega⟩
    exact ⟨_, M1, M2, t1, t2, fun c hc => a1.2.2.2 c (by omega) (by omega), JJ_act jc jr jp a1 b2 (Gr2_mv jp.2.2.2.1 m) (St_mv m)⟩
  · rw [if_neg g] at k1
    have k2 := m_heat (d := d + 37) (ss := ss) (dd := dd) (v := v) (Em_J hR jr jp) (Mm_of jr.2.2.2.2.1 jr.2.2.2.2.2.1).2 jr.2.2.2.2.2.2.1
    rw [if_neg g] at k2
    exact ⟨_, M, M, k1, k2, Ou_r, hJ, Ou_r⟩
theorem w_milk (hJ : JJ M) {a v : Int} (hv : v = 0 ∨ v = 1) : ∃ x M1 M2, pz_cal (d + 40) 131 [(2, 0), (0, a), (0, v)] ((pz_SH, ss, 0, 0, dd), M) = some (some (0, x), ((pz_SH, ss, 0, 0, dd), M1)) ∧ pz_cal (d + 40) 250 [(2, 147), (0, a), (0, v)] ((pz_SH, ss, 0, 0, dd), M1) = some (some (0, x), ((pz_SH, ss, 0, 0, dd), M2)) ∧ Ou M M1 ∧ JJ M2 ∧ Ou M M2 := by
  obtain ⟨hR, T, n, t, lws, h, R, nx, ln, H, G, sn, sc, sa, sd, im, I, N, jc, jr, jp⟩ := id hJ
  have k1 := c_CC_milk (d := d + 37) (ss := ss) (dd := dd) (a := a) (v := v) (Ev_J hR jc jp) jc.2.2.2.2.2.2.1 hv
  by_cases g : AcP R a ∧ R (63 + 3 * a.toNat + 1) ≠ v
  · rw [if_pos g] at k1
    obtain ⟨M1, t1, a1⟩ := k1
    have r1 := JR_FrA jr a1.2.2.2
    have k2 := m_milk (d := d + 37) (ss := ss) (dd := dd) (a := a) (v := v) (Em_J a1.1 r1 jp) (Mm_of r1.2.2.2.2.1 r1.2.2.2.2.2.1).2 r1.2.2.2.2.2.2.1 hv
    rw [if_pos g] at k2
    obtain ⟨M2, t2, b2⟩ := k2
    have a6 : a.toNat < 6 := by have := jp.2.2.2.1.1.2.2.2.2.2.1; have := g.1; omega
    have m : Mv (63 + 3 * a.toNat + 1) v := .inr (.inr (.inr (.inr ⟨a.toNat, a6, rfl, by omega, by omega⟩)))
    exact ⟨_, M1, M2, t1, t2, fun c hc => a1.2.2.2 c (by omega) (by omega), JJ_act jc jr jp a1 b2 (Gr2_mv jp.2.2.2.1 m) (St_mv m)⟩
  · rw [if_neg g] at k1
    have k2 := m_milk (d := d + 37) (ss := ss) (dd := dd) (a := a) (v := v) (Em_J hR jr jp) (Mm_of jr.2.2.2.2.1 jr.2.2.2.2.2.1).2 jr.2.2.2.2.2.2.1 hv
    rw [if_neg g] at k2
    exact ⟨_, M, M, k1, k2, Ou_r, hJ, Ou_r⟩
theorem w_retire (hJ : JJ M) {c v : Int} (hv : v = 0 ∨ v = 1) : ∃ x M1 M2, pz_cal (d + 40) 132 [(2, 0), (0, c), (0, v)] ((pz_SH, ss, 0, 0, dd), M) = some (some (0, x), ((pz_SH, ss, 0, 0, dd), M1)) ∧ pz_cal (d + 40) 251 [(2, 147), (0, c), (0, v)] ((pz_SH, ss, 0, 0, dd), M1) = some (some (0, x), ((pz_SH, ss, 0, 0, dd), M2)) ∧ Ou M M1 ∧ JJ M2 ∧ Ou M M2 := by
  obtain ⟨hR, T, n, t, lws, h, R, nx, ln, H, G, sn, sc, sa, sd, im, I, N, jc, jr, jp⟩ := id hJ
  have k1 := c_CC_retire (d := d + 37) (ss := ss) (dd := dd) (c := c) (v := v) (Ev_J hR jc jp) jc.2.2.2.2.2.2.1 hv
  by_cases g : CtP R c ∧ R (7 + 7 * c.toNat + 6) ≠ v
  · rw [if_pos g] at k1
    obtain ⟨M1, t1, a1⟩ := k1
    have r1 := JR_FrA jr a1.2.2.2
    have k2 := m_retire (d := d + 37) (ss := ss) (dd := dd) (c := c) (v := v) (Em_J a1.1 r1 jp) (Mm_of r1.2.2.2.2.1 r1.2.2.2.2.2.1).2 r1.2.2.2.2.2.2.1 hv
    rw [if_pos g] at k2
    obtain ⟨M2, t2, b2⟩ := k2
    have c8 : c.toNat < 8 := by have := jp.2.2.2.1.1.2.2.2.2.1; have := g.1; omega
    have m : Mv (7 + 7 * c.toNat + 6) v := .inr (.inr (.inr (.inl ⟨c.toNat, c8, rfl, by omega, by omega⟩)))
    exact ⟨_, M1, M2, t1, t2, fun c hc => a1.2.2.2 c (by omega) (by omega), JJ_act jc jr jp a1 b2 (Gr2_mv jp.2.2.2.1 m) (St_mv m)⟩
  · rw [if_neg g] at k1
    have k2 := m_retire (d := d + 37) (ss := ss) (dd := dd) (c := c) (v := v) (Em_J hR jr jp) (Mm_of jr.2.2.2.2.1 jr.2.2.2.2.2.1).2 jr.2.2.2.2.2.2.1 hv
    rw [if_neg g] at k2
    exact ⟨_, M, M, k1, k2, Ou_r, hJ, Ou_r⟩
theorem w_nights (hJ : JJ M) {x : Int} : ∃ v M1 M2, pz_cal (d + 40) 129 [(2, 0), (0, x)] ((pz_SH, ss, 0, 0, dd), M) = some (some (0, v), ((pz_SH, ss, 0, 0, dd), M1)) ∧ pz_cal (d + 40) 247 [(2, 147), (0, x)] ((pz_SH, ss, 0, 0, dd), M1) = some (some (0, v), ((pz_SH, ss, 0, 0, dd), M2)) ∧ Ou M M1 ∧ JJ M2 ∧ Ou M M2 := by
  obtain ⟨hR, T, n, t, lws, h, R, nx, ln, H, G, sn, sc, sa, sd, im, I, N, jc, jr, jp⟩ := id hJ
  have k1 := c_CC_nights (d := d + 37) (ss := ss) (dd := dd) (n := x) (Ev_J hR jc jp) jc.2.2.2.2.2.2.1
  by_cases g : R 141 ≠ 0 ∧ 1 ≤ x ∧ x ≤ 28
  · rw [if_pos g] at k1
    obtain ⟨M1, t1, a1⟩ := k1
    have r1 := JR_FrA jr a1.2.2.2
    have k2 := m_nights (d := d + 38) (ss := ss) (dd := dd) (n := x) (Em_J a1.1 r1 jp) (Mm_of r1.2.2.2.2.1 r1.2.2.2.2.2.1).2 r1.2.2.2.2.2.2.1
    rw [if_pos g] at k2
    obtain ⟨M2, t2, b2⟩ := k2
    have ok := ngr_ok (n := x) jp.2.2.2.1 g.2 (R 141).toNat (by have := jp.2.2.2.1.1.2.2.2.2.1; omega)
    exact ⟨_, M1, M2, t1, t2, fun c hc => a1.2.2.2 c (by omega) (by omega), JJ_act jc jr jp a1 b2 ok.1 ok.2⟩
  · rw [if_neg g] at k1
    have k2 := m_nights (d := d + 38) (ss := ss) (dd := dd) (n := x) (Em_J hR jr jp) (Mm_of jr.2.2.2.2.1 jr.2.2.2.2.2.1).2 jr.2.2.2.2.2.2.1
    rw [if_neg g] at k2
    exact ⟨_, M, M, k1, k2, Ou_r, hJ, Ou_r⟩
theorem w_hear (hJ : JJ M) {s a x : Int} (hs : I32 s) : ∃ v M1 M2, pz_cal (d + 40) 133 [(2, 0), (0, s), (0, a), (1, x)] ((pz_SH, ss, 0, 0, dd), M) = some (some (0, v), ((pz_SH, ss, 0, 0, dd), M1)) ∧ pz_cal (d + 40) 252 [(2, 147), (0, s), (0, a), (1, x)] ((pz_SH, ss, 0, 0, dd), M1) = some (some (0, v), ((pz_SH, ss, 0, 0, dd), M2)) ∧ Ou M M1 ∧ JJ M2 ∧ Ou M M2 := by
  obtain ⟨hR, T, n, t, lws, h, R, nx, ln, H, G, sn, sc, sa, sd, im, I, N, jc, jr, jp⟩ := id hJ
  have k1 := c_CC_hear (d := d + 33) (ss := ss) (dd := dd) (s := s) (a := a) (x := x) (Ev_J hR jc jp) jc.2.2.2.2.2.2.1 hs
  by_cases g : StP R s ∧ AcP R a
  · rw [if_pos g] at k1
    obtain ⟨M1, t1, r1, z1, e1, p1, f1⟩ := k1
    have j1 := JR_c (M' := M1) jr (fun c a b => f1 c (fun h => by have := QMS_lt c h; omega) (by omega) (by omega) (by omega))
    have k2 := m_hear (d := d + 33) (ss := ss) (dd := dd) (s := s) (a := a) (x := x) (Em_J r1 j1 jp) (Mm_of j1.2.2.2.2.1 j1.2.2.2.2.2.1).2 j1.2.2.2.2.2.2.1 hs
    rw [if_pos g] at k2
    obtain ⟨M2, t2, b1, b2, b3⟩ := k2
    have a6 : a.toNat < 6 := by have := jp.2.2.2.1.1.2.2.2.2.2.1; have := g.2; omega
    have ok := hrR_ok (O := OO (Lh lws h) R a.toNat (gui R a.toNat x)) (s := s.toNat) (x := nx1 x) jp.2.2.2.1 a6 8 (by omega)
    have ge := Gr2_e ok.1 e1
    rw [f1 165 (fun h => by have := QMS_lt 165 h; omega) (by decide) (by decide) (by decide)] at b1
    exact ⟨_, M1, M2, t1, t2, fun c hc => f1 c (fun h => by have := QMS_lt c h; omega) (by omega) (by omega) (by omega), JJ_gen jc jr jp r1 z1 rfl p1 f1 b3 (St_t (St_e e1) ok.2) ge (Nw_R b2 ok.1.1.2.2.2.2.2.2 e1) b1 (psh_ok jp jr.2.2.2.2.2.1)⟩
  · rw [if_neg g] at k1
    have k2 := m_hear (d := d + 33) (ss := ss) (dd := dd) (s := s) (a := a) (x := x) (Em_J hR jr jp) (Mm_of jr.2.2.2.2.1 jr.2.2.2.2.2.1).2 jr.2.2.2.2.2.2.1 hs
    rw [if_neg g] at k2
    exact ⟨_, M, M, k1, k2, Ou_r, hJ, Ou_r⟩
theorem w_undo (hJ : JJ M) : ∃ v M1 M2, pz_cal (d + 40) 135 [(2, 0)] ((pz_SH, ss, 0, 0, dd), M) = some (some (0, v), ((pz_SH, ss, 0, 0, dd), M1)) ∧ pz_cal (d + 40) 256 [(2, 147)] ((pz_SH, ss, 0, 0, dd), M1) = some (some (0, v), ((pz_SH, ss, 0, 0, dd), M2)) ∧ Ou M M1 ∧ JJ M2 ∧ Ou M M2 := by
  obtain ⟨hR, T, n, t, lws, h, R, nx, ln, H, G, sn, sc, sa, sd, im, I, N, jc, jr, jp⟩ := id hJ
  by_cases g : ln = 0
  · subst g
    exact ⟨_, M, M, c_CC_undo0 (d := d + 37) (ss := ss) (dd := dd) (Ev_J hR jc jp) jc.2.2.2.2.2.2.1, m_undo0 (d := d + 39) (ss := ss) (dd := dd) jr.2.2.2.2.2.2.1, Ou_r, hJ, Ou_r⟩
  · obtain ⟨M1, t1, r1, p1, e1, f1⟩ := c_CC_undo (d := d + 37) (ss := ss) (dd := dd) (Ev_J hR jc jp) jc.2.2.2.2.2.2.1 g
    have j1 := JR_FrA jr f1
    obtain ⟨M2, t2, p2, e2, q2⟩ := m_undo (d := d + 39) (ss := ss) (dd := dd) r1 j1.2.2.2.2.2.2.1 g
    have o := jp.2.2.2.2.1 0 (by omega)
    exact ⟨_, M1, M2, t1, t2, fun c hc => f1 c (by omega) (by omega), JJ_gen jc jr jp r1 (Z0_FrA jc.1 f1) rfl p1 (fun c _ x _ y => f1 c x y) q2 (St_t (St_e e1) o.2.2) (Gr2_e o.1 e1) (Nw_R (Nw_c o.2.1 e2) o.1.1.2.2.2.2.2.2 e1) p2 (fun i hi => jp.2.2.2.2.1 (i + 1) (by omega))⟩
theorem w_law (hJ : JJ M) {x : Int} : ∃ v M1 M2, pz_cal (d + 40) 105 [(2, 0), (0, x)] ((pz_SH, ss, 0, 0, dd), M) = some (some (0, v), ((pz_SH, ss, 0, 0, dd), M1)) ∧ pz_cal (d + 40) 222 [(2, 147), (0, x)] ((pz_SH, ss, 0, 0, dd), M1) = some (some (0, v), ((pz_SH, ss, 0, 0, dd), M2)) ∧ Ou M M1 ∧ JJ M2 ∧ Ou M M2 := by
  obtain ⟨hR, T, n, t, lws, h, R, nx, ln, H, G, sn, sc, sa, sd, im, I, N, jc, jr, jp⟩ := id hJ
  have k1 := c_CC_law (d := d + 39) (ss := ss) (dd := dd) (M := M) (n := x)
  rw [jc.2.2.2.1] at k1
  have t4 := jp.1
  by_cases g : -1 ≤ x ∧ x < (t : Int)
  · rw [if_pos g] at k1
    have r1 : Rf (pz_up M 0 5 x) := Rf_up hR (by decide +kernel)
    have o1 : ∀ c, c ≠ 0 → pz_up M 0 5 x c = M c := fun c hc => by funext z; rw [up_at, if_neg (by omega)]
    have o0 : ∀ j, j ≠ 5 → pz_up M 0 5 x 0 j = M 0 j := fun j hj => by rw [up_at, if_neg (by omega)]
    have v0 : pz_up M 0 5 x 0 5 = x := by rw [up_at, if_pos ⟨rfl, rfl⟩]
    have j1 : JR (pz_up M 0 5 x) T n t lws h R ln G sn sc sa sd im N := JR_c jr (fun c a b => o1 c (by omega))
    generalize pz_up M 0 5 x = M1 at *
    have k2 := c_Mo_law (d := d + 38) (ss := ss) (dd := dd) (M := M1) (n := x) (by rw [j1.2.1]; omega)
    rw [j1.2.1, if_pos (by omega)] at k2
    have u1 : ∀ c, c ≠ 147 → pz_up M1 147 30 x c = M1 c := fun c hc => u7_c hc
    have u2 : ∀ j, j ≠ 30 → pz_up M1 147 30 x 147 j = M1 147 j := fun j hj => u7_o hj
    have v2 : pz_up M1 147 30 x 147 30 = x := by rw [up_at, if_pos ⟨rfl, rfl⟩]
    have r2 : Rf (pz_up M1 147 30 x) := Rf_up r1 (by decide +kernel)
    refine ⟨_, M1, _, k1, k2, fun c hc => o1 c (by omega), ⟨r2, T, n, t, lws, x, R, nx, ln, H, G, sn, sc, sa, sd, im, I, N, ?_, ?_, ?_⟩, fun c hc => (u1 c (by omega)).trans (o1 c (by omega))⟩
    · obtain ⟨a1, a2, a3, a4, a5, a6, a7, a8, a9, a10, a11⟩ := jc
      have e : ∀ c, c ≠ 0 → c ≠ 147 → pz_up M1 147 30 x c = M c := fun c x y => (u1 c y).trans (o1 c x)
      have e0 : ∀ j, j ≠ 5 → pz_up M1 147 30 x 0 j = M 0 j := fun j hj => by rw [u1 0 (by decide)]; exact o0 j hj
      refine ⟨?_, by rw [e 10 (by decide) (by decide)]; exact a2, ⟨by rw [e 1 (by decide) (by decide)]; exact a3.1, a3.2.1, by rw [e 2 (by decide) (by decide)]; exact a3.2.2⟩, by rw [e0 4 (by decide)]; exact a4, fun k hk => LRc_c (a5 k hk) (e _ (by omega) (by omega)) (e _ (by omega) (by omega)), by rw [u1 0 (by decide)]; exact v0, ?_, ?_, by rw [e0 9 (by decide)]; exact a9, by rw [e 14 (by decide) (by decide)]; exact a10, STc_c a11 (fun c hc => e c (by omega) (by omega))⟩
      · unfold Z0
        rw [e 106 (by decide) (by decide), e 121 (by decide) (by decide)]; exact a1
      · obtain ⟨p1, p2, p3, p4, p5⟩ := a7
        exact ⟨by rw [e 15 (by decide) (by decide)]; exact p1, p2, by rw [e 15 (by decide) (by decide)]; exact p3, p4, fun i hi j hj => by rw [e _ (by omega) (by omega)]; exact p5 i hi j hj⟩
      · exact ⟨by rw [e0 12 (by decide)]; exact a8.1, a8.2.1, by rw [e 97 (by decide) (by decide)]; exact a8.2.2⟩
    · obtain ⟨a1, a2, a3, a4, a5, a6, a7, a8, a9, a10⟩ := j1
      refine ⟨⟨by rw [u2 2 (by decide)]; exact a1.1, a1.2.1, by rw [u1 148 (by decide)]; exact a1.2.2⟩, by rw [u2 13 (by decide)]; exact a2, fun k hk => LRm_fr (a3 k hk) (by rw [u1 152 (by decide)]) (fun i _ => by rw [u1 149 (by decide), u1 150 (by decide)]; exact ⟨rfl, rfl⟩) (fun i _ => by rw [u1 153 (by decide), u1 154 (by decide), u1 155 (by decide)]; exact ⟨rfl, rfl, rfl⟩), v2, ?_, by rw [u1 165 (by decide)]; exact a6, ?_, ?_, by rw [u2 49 (by decide)]; exact a9, by rw [u1 177 (by decide)]; exact a10⟩
      · unfold Sx
        rw [u2 26 (by decide), u2 27 (by decide), u2 28 (by decide), u1 161 (by decide), u1 162 (by decide), u1 163 (by decide), u1 164 (by decide)]; exact a5
      · unfold Pm
        rw [u2 36 (by decide), u1 169 (by decide)]; exact a7
      · unfold Sm
        rw [u2 46 (by decide), u1 173 (by decide), u1 174 (by decide), u1 175 (by decide)]; exact a8
    · exact ⟨jp.1, jp.2.1, by omega, jp.2.2.2⟩
  · rw [if_neg g] at k1
    have k2 := c_Mo_law (d := d + 38) (ss := ss) (dd := dd) (M := M) (n := x) (by rw [jr.2.1]; omega)
    rw [jr.2.1, if_neg (by omega)] at k2
    exact ⟨_, M, M, k1, k2, Ou_r, hJ, Ou_r⟩
end P97
/-! BOTH TOGETHER: images, what is seen, the tape -/
section P98a
variable {M M' : pz_M} {T T1 : Nat → Int} {n n1 t : Nat} {lws : Nat → List (Option Ex × Ex)} {h : Int} {R R1 : Nat → Int} {nx nx1 ln ln1 : Nat} {H G H1 G1 : Nat → Nat → Int} {sn sn1 : Nat} {sc sa sd sc1 sa1 sd1 : Nat → Nat} {im im1 : Int} {I N I1 N1 : Nat → Int}
theorem JC_k (j : JC M T n t lws h R nx ln H sn sc sa sd im I) (ht : t ≤ 4) (e : ∀ c, (135 ≤ c ∧ c < 147 ∨ 4096 ≤ c) → c ∉ QMS → M' c = M c) (z : Z0 M') (h10 : M' 10 = R1) (hT : TC M' T1 n1) (h4 : M' 0 4 = M 0 4) (h5 : M' 0 5 = M 0 5) (hP : Ps M' nx1 ln1 H1) (hS : Se M' sn1 sc1 sa1 sd1) (h9 : M' 0 9 = im1) (hI : im1 = 1 → ∀ j, j < 144 → M' 14 j = I1 j) : JC M' T1 n1 t lws h R1 nx1 ln1 H1 sn1 sc1 sa1 sd1 im1 I1 := by
  obtain ⟨a1, a2, a3, a4, a5, a6, a7, a8, a9, a10, a11⟩ := j
  exact ⟨z, h10, hT, h4.trans a4, fun k hk => LRc_c (a5 k hk) (e _ (by omega) (QMS_law k (by omega)).1) (e _ (by omega) (QMS_law k (by omega)).2), h5.trans a6, hP, hS, h9, hI, STc_c a11 (fun c hc => e c (by omega) (fun h => by have := QMS_lt c h; omega))⟩
theorem JR_k (j : JR M T n t lws h R ln G sn sc sa sd im N) (e : ∀ c, 149 ≤ c → c ≤ 155 → M' c = M c) (hT : TR M' T1 n1) (h13 : M' 147 13 = M 147 13) (h30 : M' 147 30 = M 147 30) (hX : Sx M' R1) (hN : Nw (M' 165) R1) (hP : Pm M' ln1 G1) (hS : Sm M' R1 sn1 sc1 sa1 sd1) (h49 : M' 147 49 = im1) (hI : im1 = 1 → ∀ j, j < 213 → M' 177 j = N1 j) : JR M' T1 n1 t lws h R1 ln1 G1 sn1 sc1 sa1 sd1 im1 N1 := by
  obtain ⟨a1, a2, a3, a4, a5, a6, a7, a8, a9, a10⟩ := j
  exact ⟨hT, h13.trans a2, fun k hk => LRm_fr (a3 k hk) (by rw [e 152 (by decide) (by decide)]) (fun i _ => by rw [e 149 (by decide) (by decide), e 150 (by decide) (by decide)]; exact ⟨rfl, rfl⟩) (fun i _ => by rw [e 153 (by decide) (by decide), e 154 (by decide) (by decide), e 155 (by decide) (by decide)]; exact ⟨rfl, rfl, rfl⟩), h30.trans a4, hX, hN, hP, hS, h49, hI⟩
theorem TC_o (h : TC M T n) (e1 : M' 1 1 = M 1 1) (e2 : M' 2 = M 2) : TC M' T n := ⟨e1.trans h.1, h.2.1, by rw [e2]; exact h.2.2⟩
theorem TR_o (h : TR M T n) (e1 : M' 147 2 = M 147 2) (e2 : M' 148 = M 148) : TR M' T n := ⟨e1.trans h.1, h.2.1, by rw [e2]; exact h.2.2⟩
theorem Ps_o (h : Ps M nx ln H) (e1 : M' 15 = M 15) (e : ∀ c, 18 ≤ c → c < 97 → M' c = M c) : Ps M' nx ln H := by
  obtain ⟨p1, p2, p3, p4, p5⟩ := h
  exact ⟨by rw [e1]; exact p1, p2, by rw [e1]; exact p3, p4, fun i hi j hj => by rw [e _ (by omega) (by omega)]; exact p5 i hi j hj⟩
theorem Se_o (h : Se M sn sc sa sd) (e1 : M' 0 12 = M 0 12) (e2 : M' 97 = M 97) : Se M' sn sc sa sd := ⟨e1.trans h.1, h.2.1, by rw [e2]; exact h.2.2⟩
theorem Sx_o (h : Sx M R) (e7 : ∀ j, 26 ≤ j → j ≤ 28 → M' 147 j = M 147 j) (e : ∀ c, 161 ≤ c → c ≤ 164 → M' c = M c) : Sx M' R := by
  unfold Sx
  rw [e7 26 (by decide) (by decide), e7 27 (by decide) (by decide), e7 28 (by decide) (by decide), e 161 (by decide) (by decide), e 162 (by decide) (by decide), e 163 (by decide) (by decide), e 164 (by decide) (by decide)]
  exact h
theorem Sm_o (h : Sm M R sn sc sa sd) (e7 : M' 147 46 = M 147 46) (e : ∀ c, 173 ≤ c → c ≤ 175 → M' c = M c) : Sm M' R sn sc sa sd := by
  unfold Sm
  rw [e7, e 173 (by decide) (by decide), e 174 (by decide) (by decide), e 175 (by decide) (by decide)]
  exact h
theorem Z0_o (z : Z0 M) (e : ∀ c, c = 106 ∨ c = 121 → M' c = M c) : Z0 M' := by
  unfold Z0
  rw [e 106 (.inl rfl), e 121 (.inr rfl)]
  exact z
end P98a
section P98
variable {d : Nat} {ss : List (Nat × Nat)} {dd : Nat} {M : pz_M}
theorem Rf_147 {M M' : pz_M} (h : Rf M) (e : ∀ c, c ≠ 147 → M' c ≠ M c → 148 ≤ c ∧ c < 178) (e7 : ∀ j, (147, j) ∈ rf_L.map (fun x => (x.1, x.2.1)) → M' 147 j = M 147 j) : Rf M' := Rf_of h (fun x hx => by
  have h1 : x.1 < 148 ∨ 178 ≤ x.1 := (by decide +kernel : ∀ x ∈ rf_L, x.1 < 148 ∨ 178 ≤ x.1) x hx
  by_cases g : x.1 = 147
  · rw [g]
    refine e7 x.2.1 (List.mem_map.mpr ⟨x, hx, ?_⟩)
    rw [← g]
  · by_cases g2 : M' x.1 = M x.1
    · rw [g2]
    · have := e x.1 g g2; omega)
theorem w_end (hJ : JJ M) {x : Int} : ∃ v M1 M2, pz_cal (d + 40) 96 [(2, 0), (0, x)] ((pz_SH, ss, 0, 0, dd), M) = some (some (0, v), ((pz_SH, ss, 0, 0, dd), M1)) ∧ pz_cal (d + 40) 182 [(2, 147), (0, x)] ((pz_SH, ss, 0, 0, dd), M1) = some (some (0, v), ((pz_SH, ss, 0, 0, dd), M2)) ∧ Ou M M1 ∧ JJ M2 ∧ Ou M M2 := by
  obtain ⟨hR, T, n, t, lws, h, R, nx, ln, H, G, sn, sc, sa, sd, im, I, N, jc, jr, jp⟩ := id hJ
  have k1 := c_CC_end (d := d + 38) (ss := ss) (dd := dd) (n := x) hR
  rw [jc.2.2.1.1] at k1
  have n240 := jr.1.2.1
  by_cases g : 0 ≤ x ∧ x ≤ (n : Int)
  · rw [if_pos g] at k1
    have k2 := c_Mo_end (d := d + 39) (ss := ss) (dd := dd) (M := pz_up M 1 1 x) (n := x)
    have o1 : ∀ c, c ≠ 1 → pz_up M 1 1 x c = M c := fun c hc => by funext z; rw [up_at, if_neg (by omega)]
    rw [o1 147 (by decide), jr.1.1, if_pos g] at k2
    have o2 : ∀ c, c ≠ 1 → c ≠ 147 → pz_up (pz_up M 1 1 x) 147 2 x c = M c := fun c h1 h2 => by rw [u7_c h2]; exact o1 c h1
    have u7 : ∀ j, j ≠ 2 → pz_up (pz_up M 1 1 x) 147 2 x 147 j = M 147 j := fun j hj => by rw [u7_o hj, o1 147 (by decide)]
    have v1 : pz_up (pz_up M 1 1 x) 147 2 x 1 1 = x := by rw [u7_c (by decide), up_at, if_pos ⟨rfl, rfl⟩]
    have v2 : pz_up (pz_up M 1 1 x) 147 2 x 147 2 = x := by rw [up_at, if_pos ⟨rfl, rfl⟩]
    have r2 : Rf (pz_up (pz_up M 1 1 x) 147 2 x) := Rf_up (Rf_up hR (by decide +kernel)) (by decide +kernel)
    refine ⟨_, _, _, k1, k2, fun c hc => o1 c (by omega), ⟨r2, T, x.toNat, t, lws, h, R, nx, ln, H, G, sn, sc, sa, sd, im, I, N, ?_, ?_, jp⟩, fun c hc => o2 c (by omega) (by omega)⟩
    · generalize pz_up (pz_up M 1 1 x) 147 2 x = M2 at *
      exact JC_k jc jp.1 (fun c hc _ => o2 c (by omega) (by omega)) (Z0_o jc.1 (fun c hc => o2 c (by omega) (by omega))) ((o2 10 (by decide) (by decide)).trans jc.2.1) ⟨by rw [v1]; omega, by omega, fun i hi => by rw [o2 2 (by decide) (by decide)]; exact jc.2.2.1.2.2 i (by omega)⟩ (by rw [o2 0 (by decide) (by decide)]) (by rw [o2 0 (by decide) (by decide)]) (Ps_o jc.2.2.2.2.2.2.1 (o2 15 (by decide) (by decide)) (fun c h1 h2 => o2 c (by omega) (by omega))) (Se_o jc.2.2.2.2.2.2.2.1 (by rw [o2 0 (by decide) (by decide)]) (o2 97 (by decide) (by decide))) (by rw [o2 0 (by decide) (by decide)]; exact jc.2.2.2.2.2.2.2.2.1) (by rw [o2 14 (by decide) (by decide)]; exact jc.2.2.2.2.2.2.2.2.2.1)
    · generalize pz_up (pz_up M 1 1 x) 147 2 x = M2 at *
      exact JR_k jr (fun c h1 h2 => o2 c (by omega) (by omega)) ⟨by rw [v2]; omega, by omega, fun i hi => by rw [o2 148 (by decide) (by decide)]; exact jr.1.2.2 i (by omega)⟩ (u7 13 (by decide)) (u7 30 (by decide)) (Sx_o jr.2.2.2.2.1 (fun j h1 h2 => u7 j (by omega)) (fun c h1 h2 => o2 c (by omega) (by omega))) (by rw [o2 165 (by decide) (by decide)]; exact jr.2.2.2.2.2.1) (Pm_fr jr.2.2.2.2.2.2.1 (u7 36 (by decide)) (o2 169 (by decide) (by decide))) (Sm_o jr.2.2.2.2.2.2.2.1 (u7 46 (by decide)) (fun c h1 h2 => o2 c (by omega) (by omega))) ((u7 49 (by decide)).trans jr.2.2.2.2.2.2.2.2.1) (by rw [o2 177 (by decide) (by decide)]; exact jr.2.2.2.2.2.2.2.2.2)
  · rw [if_neg g] at k1
    have k2 := c_Mo_end (d := d + 39) (ss := ss) (dd := dd) (M := M) (n := x)
    rw [jr.1.1, if_neg g] at k2
    exact ⟨_, M, M, k1, k2, Ou_r, hJ, Ou_r⟩
/-- two tapes that agree -/
def ag (f g : (Nat → Int) × Int) : Prop := f.2 = g.2 ∧ 0 ≤ f.2 ∧ ∀ i : Nat, (i : Int) < f.2 → f.1 i = g.1 i
theorem ag_pT {f g : (Nat → Int) × Int} {x : Int} (h : ag f g) : ag (pT f x) (pT g x) := by
  unfold pT
  by_cases e : x = 0
  · rw [if_pos e, if_pos e]; exact h
  · rw [if_neg e, if_neg e]
    refine ⟨by show f.2 + 1 = g.2 + 1; rw [h.1], by show 0 ≤ f.2 + 1; have := h.2.1; omega, fun i hi => ?_⟩
    have hi : (i : Int) < f.2 + 1 := hi
    show (if i = f.2.toNat then x else f.1 i) = (if i = g.2.toNat then x else g.1 i)
    rw [← h.1]
    by_cases e2 : i = f.2.toNat
    · rw [if_pos e2, if_pos e2]
    · rw [if_neg e2, if_neg e2]; exact h.2.2 i (by have := h.2.1; omega)
theorem ag_p4 {f g : (Nat → Int) × Int} {a : Int} (h : ag f g) : ag (p4 f a) (p4 g a) := ag_pT (ag_pT (ag_pT (ag_pT h)))
theorem w_feed (hJ : JJ M) {a b c e f : Int} : ∃ v M1 M2, pz_cal (d + 40) 95 [(2, 0), (0, a), (0, b), (0, c), (0, e), (0, f)] ((pz_SH, ss, 0, 0, dd), M) = some (some (0, v), ((pz_SH, ss, 0, 0, dd), M1)) ∧ pz_cal (d + 40) 180 [(2, 147), (0, a), (0, b), (0, c), (0, e), (0, f)] ((pz_SH, ss, 0, 0, dd), M1) = some (some (0, v), ((pz_SH, ss, 0, 0, dd), M2)) ∧ Ou M M1 ∧ JJ M2 ∧ Ou M M2 := by
  obtain ⟨hR, T, n, t, lws, h, R, nx, ln, H, G, sn, sc, sa, sd, im, I, N, jc, jr, jp⟩ := id hJ
  have n240 := jr.1.2.1
  have n11 := jc.2.2.1.1
  have n72 := jr.1.1
  have k1 := c_CC_feed (d := d + 38) (ss := ss) (dd := dd) (a := a) (b := b) (c := c) (e := e) (f := f) hR (by rw [n11]; omega) (by rw [n11]; omega)
  have nn := nb_r a
  have nn2 := nb_r b
  have nn3 := nb_r c
  have nn4 := nb_r e
  have nn5 := nb_r f
  by_cases g : 240 < M 1 1 + (nb a + nb b + nb c + nb e + nb f)
  · rw [if_pos g] at k1
    have k2 := c_Mo_feed (d := d + 38) (ss := ss) (dd := dd) (a := a) (b := b) (c := c) (e := e) (f := f) hR (by rw [n72]; omega) (by rw [n72]; omega)
    rw [n72, ← n11, if_pos g] at k2
    exact ⟨_, M, M, k1, k2, Ou_r, hJ, Ou_r⟩
  · rw [if_neg g] at k1
    have a0 : ag (M 2, M 1 1) (M 148, M 147 2) := ⟨by show M 1 1 = M 147 2; rw [n11, n72], by show 0 ≤ M 1 1; rw [n11]; omega, fun i hi => by
      have hi : (i : Int) < M 1 1 := hi
      show M 2 i = M 148 i
      rw [jc.2.2.1.2.2 i (by omega), jr.1.2.2 i (by omega)]⟩
    have a5 := ag_p4 (a := f) (ag_p4 (a := e) (ag_p4 (a := c) (ag_p4 (a := b) (ag_p4 (a := a) a0))))
    have l1 : (p4 (p4 (p4 (p4 (p4 (M 2, M 1 1) a) b) c) e) f).2 = M 1 1 + (nb a + nb b + nb c + nb e + nb f) := by
      rw [p4_2, p4_2, p4_2, p4_2, p4_2]
      show M 1 1 + nb a + nb b + nb c + nb e + nb f = _
      omega
    generalize hp : p4 (p4 (p4 (p4 (p4 (M 2, M 1 1) a) b) c) e) f = P1 at *
    have o1 : ∀ c, c ≠ 1 → c ≠ 2 → sT M 2 1 1 P1 c = M c := fun c h1 h2 => by
      funext z
      unfold sT
      rw [if_neg h2, if_neg (fun h => h1 h.1)]
    have r1 : Rf (sT M 2 1 1 P1) := Rf_of hR (fun x hx => by
      have h1 : x.1 ≠ 2 ∧ (x.1 = 1 → x.2.1 ≠ 1) := (by decide +kernel : ∀ x ∈ rf_L, x.1 ≠ 2 ∧ (x.1 = 1 → x.2.1 ≠ 1)) x hx
      unfold sT
      rw [if_neg h1.1, if_neg (fun h => h1.2 h.1 h.2)])
    have v11 : sT M 2 1 1 P1 1 1 = P1.2 := by unfold sT; rw [if_neg (by decide), if_pos ⟨rfl, rfl⟩]
    have v2 : sT M 2 1 1 P1 2 = P1.1 := by funext z; unfold sT; rw [if_pos rfl]
    have k2 := c_Mo_feed (d := d + 38) (ss := ss) (dd := dd) (M := sT M 2 1 1 P1) (a := a) (b := b) (c := c) (e := e) (f := f) r1 (by rw [o1 147 (by decide) (by decide), n72]; omega) (by rw [o1 147 (by decide) (by decide), n72]; omega)
    rw [o1 147 (by decide) (by decide), o1 148 (by decide) (by decide), n72, ← n11, if_neg g] at k2
    rw [n72, ← n11] at a5
    generalize sT M 2 1 1 P1 = M1 at *
    generalize p4 (p4 (p4 (p4 (p4 (M 148, M 1 1) a) b) c) e) f = P2 at *
    have u1 : ∀ c, c ≠ 147 → c ≠ 148 → sT M1 148 147 2 P2 c = M1 c := fun c h1 h2 => by
      funext z
      unfold sT
      rw [if_neg h2, if_neg (fun h => h1 h.1)]
    have u7 : ∀ j, j ≠ 2 → sT M1 148 147 2 P2 147 j = M 147 j := fun j hj => by
      unfold sT
      rw [if_neg (by decide), if_neg (fun h => hj h.2), o1 147 (by decide) (by decide)]
    have w72 : sT M1 148 147 2 P2 147 2 = P2.2 := by unfold sT; rw [if_neg (by decide), if_pos ⟨rfl, rfl⟩]
    have w148 : sT M1 148 147 2 P2 148 = P2.1 := by funext z; unfold sT; rw [if_pos rfl]
    have r2 : Rf (sT M1 148 147 2 P2) := Rf_of r1 (fun x hx => by
      have h1 : x.1 ≠ 148 ∧ (x.1 = 147 → x.2.1 ≠ 2) := (by decide +kernel : ∀ x ∈ rf_L, x.1 ≠ 148 ∧ (x.1 = 147 → x.2.1 ≠ 2)) x hx
      unfold sT
      rw [if_neg h1.1, if_neg (fun h => h1.2 h.1 h.2)])
    have o2 : ∀ c, c ≠ 1 → c ≠ 2 → c ≠ 147 → c ≠ 148 → sT M1 148 147 2 P2 c = M c := fun c x y z w => (u1 c z w).trans (o1 c x y)
    have m1 : sT M1 148 147 2 P2 1 = M1 1 := u1 1 (by decide) (by decide)
    have m2 : sT M1 148 147 2 P2 2 = M1 2 := u1 2 (by decide) (by decide)
    have lb : 0 ≤ P1.2 ∧ P1.2 ≤ 240 := by rw [l1, n11]; omega
    refine ⟨_, _, _, k1, k2, fun c hc => o1 c (by omega) (by omega), ⟨r2, P1.1, P1.2.toNat, t, lws, h, R, nx, ln, H, G, sn, sc, sa, sd, im, I, N, ?_, ?_, jp⟩, fun c hc => o2 c (by omega) (by omega) (by omega) (by omega)⟩
    · generalize sT M1 148 147 2 P2 = M2 at *
      exact JC_k jc jp.1 (fun c hc _ => o2 c (by omega) (by omega) (by omega) (by omega)) (Z0_o jc.1 (fun c hc => o2 c (by omega) (by omega) (by omega) (by omega))) ((o2 10 (by decide) (by decide) (by decide) (by decide)).trans jc.2.1) ⟨by rw [m1, v11]; omega, by omega, fun i hi => by rw [m2, v2]⟩ (by rw [o2 0 (by decide) (by decide) (by decide) (by decide)]) (by rw [o2 0 (by decide) (by decide) (by decide) (by decide)]) (Ps_o jc.2.2.2.2.2.2.1 (o2 15 (by decide) (by decide) (by decide) (by decide)) (fun c h1 h2 => o2 c (by omega) (by omega) (by omega) (by omega))) (Se_o jc.2.2.2.2.2.2.2.1 (by rw [o2 0 (by decide) (by decide) (by decide) (by decide)]) (o2 97 (by decide) (by decide) (by decide) (by decide))) (by rw [o2 0 (by decide) (by decide) (by decide) (by decide)]; exact jc.2.2.2.2.2.2.2.2.1) (by rw [o2 14 (by decide) (by decide) (by decide) (by decide)]; exact jc.2.2.2.2.2.2.2.2.2.1)
    · generalize sT M1 148 147 2 P2 = M2 at *
      have o3 : ∀ c, 149 ≤ c → M2 c = M c := fun c hc => o2 c (by omega) (by omega) (by omega) (by omega)
      exact JR_k jr (fun c h1 h2 => o3 c h1) ⟨by rw [w72, ← a5.1]; omega, by omega, fun i hi => by rw [w148]; exact (a5.2.2 i (by omega)).symm⟩ (u7 13 (by decide)) (u7 30 (by decide)) (Sx_o jr.2.2.2.2.1 (fun j h1 h2 => u7 j (by omega)) (fun c h1 h2 => o3 c (by omega))) (by rw [o3 165 (by decide)]; exact jr.2.2.2.2.2.1) (Pm_fr jr.2.2.2.2.2.2.1 (u7 36 (by decide)) (o3 169 (by decide))) (Sm_o jr.2.2.2.2.2.2.2.1 (u7 46 (by decide)) (fun c h1 h2 => o3 c (by omega))) ((u7 49 (by decide)).trans jr.2.2.2.2.2.2.2.2.1) (by rw [o3 177 (by decide)]; exact jr.2.2.2.2.2.2.2.2.2)
theorem w_see (hJ : JJ M) {c a e : Int} : ∃ v M1 M2, pz_cal (d + 40) 167 [(2, 0), (0, c), (0, a), (0, e)] ((pz_SH, ss, 0, 0, dd), M) = some (some (0, v), ((pz_SH, ss, 0, 0, dd), M1)) ∧ pz_cal (d + 40) 280 [(2, 147), (0, c), (0, a), (0, e)] ((pz_SH, ss, 0, 0, dd), M1) = some (some (0, v), ((pz_SH, ss, 0, 0, dd), M2)) ∧ Ou M M1 ∧ JJ M2 ∧ Ou M M2 := by
  obtain ⟨hR, T, n, t, lws, h, R, nx, ln, H, G, sn, sc, sa, sd, im, I, N, jc, jr, jp⟩ := id hJ
  have k1 := c_CC_see (d := d + 36) (ss := ss) (dd := dd) (c := c) (a := a) (e := e) (Ev_J hR jc jp) jc.2.2.2.2.2.2.2.1
  by_cases g : (CtP R c ∧ AcP R a) ∧ DeP e ∧ sn < 16
  · rw [if_pos g] at k1
    have c8 : R 141 ≤ 8 := jp.2.2.2.1.1.2.2.2.2.1
    have a6 : R 142 ≤ 6 := jp.2.2.2.1.1.2.2.2.2.2.1
    obtain ⟨⟨⟨g1, g2⟩, g3, g4⟩, ⟨g5, g6⟩, g7⟩ := id g
    have o1 : ∀ x, x ≠ 0 → x ≠ 97 → pz_up (pz_up M 97 sn (100 * c + 10 * a + e)) 0 12 ((sn : Int) + 1) x = M x := fun x h1 h2 => by funext z; rw [up_at, if_neg (by omega), up_at, if_neg (by omega)]
    have o0 : ∀ j, j ≠ 12 → pz_up (pz_up M 97 sn (100 * c + 10 * a + e)) 0 12 ((sn : Int) + 1) 0 j = M 0 j := fun j hj => by rw [up_at, if_neg (by omega), up_at, if_neg (by omega)]
    have v0 : pz_up (pz_up M 97 sn (100 * c + 10 * a + e)) 0 12 ((sn : Int) + 1) 0 12 = (sn : Int) + 1 := by rw [up_at, if_pos ⟨rfl, rfl⟩]
    have v97 : ∀ i, pz_up (pz_up M 97 sn (100 * c + 10 * a + e)) 0 12 ((sn : Int) + 1) 97 i = if i = sn then 100 * c + 10 * a + e else M 97 i := fun i => by
      rw [up_at, if_neg (by omega), up_at]
      by_cases q : i = sn
      · rw [if_pos ⟨rfl, q⟩, if_pos q]
      · rw [if_neg (fun h => q h.2), if_neg q]
    have r1 : Rf (pz_up (pz_up M 97 sn (100 * c + 10 * a + e)) 0 12 ((sn : Int) + 1)) := Rf_of hR (fun x hx => by
      have h1 : x.1 ≠ 97 ∧ (x.1 = 0 → x.2.1 ≠ 12) := (by decide +kernel : ∀ x ∈ rf_L, x.1 ≠ 97 ∧ (x.1 = 0 → x.2.1 ≠ 12)) x hx
      rw [up_at, if_neg (fun h => h1.2 h.1 h.2), up_at, if_neg (fun h => h1.1 h.1)])
    generalize pz_up (pz_up M 97 sn (100 * c + 10 * a + e)) 0 12 ((sn : Int) + 1) = M1 at *
    have j1 : JR M1 T n t lws h R ln G sn sc sa sd im N := JR_c jr (fun x a b => o1 x (by omega) (by omega))
    have k2 := m_see (d := d + 37) (ss := ss) (dd := dd) (c := c) (a := a) (e := e) (Em_J r1 j1 jp) j1.2.2.2.2.2.2.2.1
    rw [if_pos g] at k2
    have u1 : ∀ x, x ≠ 147 → x ≠ 173 → x ≠ 174 → x ≠ 175 → pz_up (pz_up (pz_up (pz_up M1 173 sn c) 174 sn a) 175 sn e) 147 46 ((sn : Int) + 1) x = M1 x := fun x h1 h2 h3 h4 => by funext z; rw [up_at, if_neg (by omega), up_at, if_neg (by omega), up_at, if_neg (by omega), up_at, if_neg (by omega)]
    have u7 : ∀ j, j ≠ 46 → pz_up (pz_up (pz_up (pz_up M1 173 sn c) 174 sn a) 175 sn e) 147 46 ((sn : Int) + 1) 147 j = M 147 j := fun j hj => by rw [u7_o hj, up_at, if_neg (by omega), up_at, if_neg (by omega), up_at, if_neg (by omega), o1 147 (by decide) (by decide)]
    have w46 : pz_up (pz_up (pz_up (pz_up M1 173 sn c) 174 sn a) 175 sn e) 147 46 ((sn : Int) + 1) 147 46 = (sn : Int) + 1 := by rw [up_at, if_pos ⟨rfl, rfl⟩]
    have w173 : ∀ i, pz_up (pz_up (pz_up (pz_up M1 173 sn c) 174 sn a) 175 sn e) 147 46 ((sn : Int) + 1) 173 i = if i = sn then c else M1 173 i := fun i => by
      rw [u7_c (by decide), up_at, if_neg (by omega), up_at, if_neg (by omega), up_at]
      by_cases q : i = sn
      · rw [if_pos ⟨rfl, q⟩, if_pos q]
      · rw [if_neg (fun h => q h.2), if_neg q]
    have w174 : ∀ i, pz_up (pz_up (pz_up (pz_up M1 173 sn c) 174 sn a) 175 sn e) 147 46 ((sn : Int) + 1) 174 i = if i = sn then a else M1 174 i := fun i => by
      rw [u7_c (by decide), up_at, if_neg (by omega), up_at]
      by_cases q : i = sn
      · rw [if_pos ⟨rfl, q⟩, if_pos q]
      · rw [if_neg (fun h => q h.2), if_neg q, up_at, if_neg (by omega)]
    have w175 : ∀ i, pz_up (pz_up (pz_up (pz_up M1 173 sn c) 174 sn a) 175 sn e) 147 46 ((sn : Int) + 1) 175 i = if i = sn then e else M1 175 i := fun i => by
      rw [u7_c (by decide), up_at]
      by_cases q : i = sn
      · rw [if_pos ⟨rfl, q⟩, if_pos q]
      · rw [if_neg (fun h => q h.2), if_neg q, up_at, if_neg (by omega), up_at, if_neg (by omega)]
    have r2 : Rf (pz_up (pz_up (pz_up (pz_up M1 173 sn c) 174 sn a) 175 sn e) 147 46 ((sn : Int) + 1)) := Rf_of r1 (fun x hx => by
      have h1 : x.1 ≠ 173 ∧ x.1 ≠ 174 ∧ x.1 ≠ 175 ∧ (x.1 = 147 → x.2.1 ≠ 46) := (by decide +kernel : ∀ x ∈ rf_L, x.1 ≠ 173 ∧ x.1 ≠ 174 ∧ x.1 ≠ 175 ∧ (x.1 = 147 → x.2.1 ≠ 46)) x hx
      rw [up_at, if_neg (fun h => h1.2.2.2 h.1 h.2), up_at, if_neg (fun h => h1.2.2.1 h.1), up_at, if_neg (fun h => h1.2.1 h.1), up_at, if_neg (fun h => h1.1 h.1)])
    have o2 : ∀ x, x ≠ 0 → x ≠ 97 → x ≠ 147 → x ≠ 173 → x ≠ 174 → x ≠ 175 → pz_up (pz_up (pz_up (pz_up M1 173 sn c) 174 sn a) 175 sn e) 147 46 ((sn : Int) + 1) x = M x := fun x a b c d e f => (u1 x c d e f).trans (o1 x a b)
    have m0 : pz_up (pz_up (pz_up (pz_up M1 173 sn c) 174 sn a) 175 sn e) 147 46 ((sn : Int) + 1) 0 = M1 0 := u1 0 (by decide) (by decide) (by decide) (by decide)
    have m97 : pz_up (pz_up (pz_up (pz_up M1 173 sn c) 174 sn a) 175 sn e) 147 46 ((sn : Int) + 1) 97 = M1 97 := u1 97 (by decide) (by decide) (by decide) (by decide)
    refine ⟨_, _, _, k1, k2, fun x hx => o1 x (by omega) (by omega), ⟨r2, T, n, t, lws, h, R, nx, ln, H, G, sn + 1, (fun i => if i = sn then c.toNat else sc i), (fun i => if i = sn then a.toNat else sa i), (fun i => if i = sn then e.toNat else sd i), im, I, N, ?_, ?_, jp⟩, fun x hx => o2 x (by omega) (by omega) (by omega) (by omega) (by omega) (by omega)⟩
    · generalize pz_up (pz_up (pz_up (pz_up M1 173 sn c) 174 sn a) 175 sn e) 147 46 ((sn : Int) + 1) = M2 at *
      have o3 : ∀ x, x ≠ 0 → x ≠ 97 → (x < 147 ∨ 178 ≤ x) → M2 x = M x := fun x a b c => o2 x a b (by omega) (by omega) (by omega) (by omega)
      refine JC_k jc jp.1 (fun c hc _ => o3 c (by omega) (by omega) (by omega)) (Z0_o jc.1 (fun c hc => o3 c (by omega) (by omega) (by omega))) ((o3 10 (by decide) (by decide) (by decide)).trans jc.2.1) (TC_o jc.2.2.1 (by rw [o3 1 (by decide) (by decide) (by decide)]) (o3 2 (by decide) (by decide) (by decide))) (by rw [m0]; exact o0 4 (by decide)) (by rw [m0]; exact o0 5 (by decide)) (Ps_o jc.2.2.2.2.2.2.1 (o3 15 (by decide) (by decide) (by decide)) (fun c h1 h2 => o3 c (by omega) (by omega) (by omega))) ⟨by rw [m0, v0]; omega, by omega, fun i hi => ?_⟩ (by rw [m0, o0 9 (by decide)]; exact jc.2.2.2.2.2.2.2.2.1) (by rw [o3 14 (by decide) (by decide) (by decide)]; exact jc.2.2.2.2.2.2.2.2.2.1)
      rw [m97, v97]
      by_cases q : i = sn
      · simp only [if_pos q]
        exact ⟨by omega, by omega, by omega, by omega⟩
      · simp only [if_neg q]
        exact jc.2.2.2.2.2.2.2.1.2.2 i (by omega)
    · generalize pz_up (pz_up (pz_up (pz_up M1 173 sn c) 174 sn a) 175 sn e) 147 46 ((sn : Int) + 1) = M2 at *
      have o3 : ∀ x, 148 ≤ x → x < 173 ∨ 175 < x → M2 x = M x := fun x a b => o2 x (by omega) (by omega) (by omega) (by omega) (by omega) (by omega)
      refine JR_k jr (fun c h1 h2 => o3 c (by omega) (by omega)) (TR_o jr.1 (u7 2 (by decide)) (o3 148 (by decide) (by decide))) (u7 13 (by decide)) (u7 30 (by decide)) (Sx_o jr.2.2.2.2.1 (fun j h1 h2 => u7 j (by omega)) (fun c h1 h2 => o3 c (by omega) (by omega))) (by rw [o3 165 (by decide) (by decide)]; exact jr.2.2.2.2.2.1) (Pm_fr jr.2.2.2.2.2.2.1 (u7 36 (by decide)) (o3 169 (by decide) (by decide))) ⟨by rw [w46]; omega, by omega, fun i hi => ?_⟩ ((u7 49 (by decide)).trans jr.2.2.2.2.2.2.2.2.1) (by rw [o3 177 (by decide) (by decide)]; exact jr.2.2.2.2.2.2.2.2.2)
      rw [w173, w174, w175]
      by_cases q : i = sn
      · simp only [if_pos q]
        exact ⟨by omega, by omega, by omega, by omega, by omega, by omega⟩
      · simp only [if_neg q]
        exact j1.2.2.2.2.2.2.2.1.2.2 i (by omega)
  · rw [if_neg g] at k1
    have k2 := m_see (d := d + 37) (ss := ss) (dd := dd) (c := c) (a := a) (e := e) (Em_J hR jr jp) jr.2.2.2.2.2.2.2.1
    rw [if_neg g] at k2
    exact ⟨_, M, M, k1, k2, Ou_r, hJ, Ou_r⟩
end P98
