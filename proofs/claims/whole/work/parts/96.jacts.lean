/-! BOTH TOGETHER: acts -/
section P96
variable {M M' : pz_M} {T : Nat → Int} {n t : Nat} {lws : Nat → List (Option Ex × Ex)} {h : Int} {R : Nat → Int} {nx ln : Nat} {H G : Nat → Nat → Int} {sn : Nat} {sc sa sd : Nat → Nat} {im : Int} {I N : Nat → Int}
theorem JC_act {R1 : Nat → Int} {nx1 ln1 : Nat} {H1 : Nat → Nat → Int} (j : JC M T n t lws h R nx ln H sn sc sa sd im I) (ht : t ≤ 4) (z : Z0 M') (h10 : M' 10 = R1) (hP : Ps M' nx1 ln1 H1) (e : ∀ c, c ∉ QMS → c ≠ 10 → c ≠ 134 → (c < 15 ∨ 97 ≤ c) → M' c = M c) : JC M' T n t lws h R1 nx1 ln1 H1 sn sc sa sd im I := by
  obtain ⟨a1, a2, a3, a4, a5, a6, a7, a8, a9, a10, a11⟩ := j
  have e0 : M' 0 = M 0 := e 0 (by decide) (by decide) (by decide) (by decide)
  have e1 : M' 1 = M 1 := e 1 (by decide) (by decide) (by decide) (by decide)
  have e2 : M' 2 = M 2 := e 2 (by decide) (by decide) (by decide) (by decide)
  refine ⟨z, h10, ⟨by rw [e1]; exact a3.1, a3.2.1, by rw [e2]; exact a3.2.2⟩, by rw [e0]; exact a4, fun k hk => LRc_c (a5 k hk) (e _ (QMS_law k (by omega)).1 (by omega) (by omega) (by omega)) (e _ (QMS_law k (by omega)).2 (by omega) (by omega) (by omega)), by rw [e0]; exact a6, hP, ?_, by rw [e0]; exact a9, by rw [e 14 (by decide) (by decide) (by decide) (by decide)]; exact a10, STc_c a11 (fun c hc => e c (fun h => by have := QMS_lt c h; omega) (by omega) (by omega) (by omega))⟩
  obtain ⟨p1, p2, p3⟩ := a8
  exact ⟨by rw [e0]; exact p1, p2, by rw [e 97 (by decide) (by decide) (by decide) (by decide)]; exact p3⟩
theorem JR_act {R1 : Nat → Int} {ln1 : Nat} {G1 : Nat → Nat → Int} (j : JR M T n t lws h R ln G sn sc sa sd im N) (q : Ka M M') (s : St R1 R) (hN : Nw (M' 165) R1) (hP : Pm M' ln1 G1) : JR M' T n t lws h R1 ln1 G1 sn sc sa sd im N := by
  obtain ⟨a1, a2, a3, a4, a5, a6, a7, a8, a9, a10⟩ := j
  have e : ∀ c, c ≠ 147 → c ≠ 165 → c ≠ 169 → c ∉ SMc → M' c = M c := fun c a b x y => q.1 c y a b x
  refine ⟨⟨by rw [q.2 2 (by decide) (by decide) (by decide)]; exact a1.1, a1.2.1, by rw [e 148 (by decide) (by decide) (by decide) (by decide)]; exact a1.2.2⟩, by rw [q.2 13 (by decide) (by decide) (by decide)]; exact a2, fun k hk => LRm_fr (a3 k hk) (by rw [e 152 (by decide) (by decide) (by decide) (by decide)]) (fun i _ => by rw [e 149 (by decide) (by decide) (by decide) (by decide), e 150 (by decide) (by decide) (by decide) (by decide)]; exact ⟨rfl, rfl⟩) (fun i _ => by rw [e 153 (by decide) (by decide) (by decide) (by decide), e 154 (by decide) (by decide) (by decide) (by decide), e 155 (by decide) (by decide) (by decide) (by decide)]; exact ⟨rfl, rfl, rfl⟩), by rw [q.2 30 (by decide) (by decide) (by decide)]; exact a4, Sx_St (Sx_Ka a5 q) s, hN, hP, Sm_St ?_ s, by rw [q.2 49 (by decide) (by decide) (by decide)]; exact a9, by rw [e 177 (by decide) (by decide) (by decide) (by decide)]; exact a10⟩
  unfold Sm
  rw [q.2 46 (by decide) (by decide) (by decide), e 173 (by decide) (by decide) (by decide) (by decide), e 174 (by decide) (by decide) (by decide) (by decide), e 175 (by decide) (by decide) (by decide) (by decide)]
  exact a8
theorem Ka_e (q : Ka M M') : ∀ c, (c < 147 ∨ 178 ≤ c) → M' c = M c := fun c hc => q.1 c (fun h => by have := SMc_r c h; omega) (by omega) (by omega) (by omega)
/-- behind an act of both -/
theorem JJ_gen {M1 M2 : pz_M} {R1 : Nat → Int} {nx1 ln1 : Nat} {H1 G1 : Nat → Nat → Int} (jc : JC M T n t lws h R nx ln H sn sc sa sd im I) (jr : JR M T n t lws h R ln G sn sc sa sd im N) (jp : JP t lws h R ln H G im I N) (r1 : Rf M1) (z1 : Z0 M1) (h10 : M1 10 = R1) (p1 : Ps M1 nx1 ln1 H1) (e1 : ∀ c, c ∉ QMS → c ≠ 10 → c ≠ 134 → (c < 15 ∨ 97 ≤ c) → M1 c = M c) (q : Ka M1 M2) (s : St R1 R) (g : Gr2 R1) (hN : Nw (M2 165) R1) (p2 : Pm M2 ln1 G1) (pa : ∀ i, i < ln1 → Gr2 (H1 i) ∧ Nw (G1 i) (H1 i) ∧ St (H1 i) R) : JJ M2 ∧ Ou M M2 := by
  have j1 := JC_act jc jp.1 z1 h10 p1 e1
  have j2 := JC_c j1 jp.1 (by
    unfold Z0
    rw [Ka_e q 106 (by decide), Ka_e q 121 (by decide)]
    exact z1) (fun c _ b => Ka_e q c b)
  have r2 := JR_c (M' := M1) jr (fun c a b => e1 c (fun h => by have := QMS_lt c h; omega) (by omega) (by omega) (by omega))
  have r3 := JR_act r2 q s hN p2
  obtain ⟨b1, b2, b3, b4, b5, b6, b7⟩ := jp
  exact ⟨⟨Rf_Ka r1 q, T, n, t, lws, h, R1, nx1, ln1, H1, G1, sn, sc, sa, sd, im, I, N, j2, r3, b1, b2, b3, g, fun i hi => ⟨(pa i hi).1, (pa i hi).2.1, St_t (pa i hi).2.2 (St_s s)⟩, b6, fun x => ⟨(b7 x).1, (b7 x).2.1, St_t (b7 x).2.2 (St_s s)⟩⟩, fun c hc => (Ka_e q c (by omega)).trans (e1 c (fun h => by have := QMS_lt c h; omega) (by omega) (by omega) (by omega))⟩
theorem psh_ok {R' : Nat → Int} (jp : JP t lws h R ln H G im I N) (hN : Nw R' R) : ∀ i, i < min 40 (ln + 1) → Gr2 (psh R H i) ∧ Nw (psh R' G i) (psh R H i) ∧ St (psh R H i) R
  | 0, _ => ⟨jp.2.2.2.1, hN, St_r⟩
  | i + 1, hi => jp.2.2.2.2.1 i (by omega)
theorem Z0_FrA (z : Z0 M) (f : FrA M M') : Z0 M' := by
  unfold Z0
  rw [f 106 (by decide) (by decide), f 121 (by decide) (by decide)]
  exact z
theorem JJ_act {M1 M2 : pz_M} {R1 : Nat → Int} (jc : JC M T n t lws h R nx ln H sn sc sa sd im I) (jr : JR M T n t lws h R ln G sn sc sa sd im N) (jp : JP t lws h R ln H G im I N) (a : Act M M1 R1 nx ln H) (b : Am M1 M2 R1 ln G) (g : Gr2 R1) (s : St R1 R) : JJ M2 ∧ Ou M M2 := by
  obtain ⟨a1, a2, a3, a4⟩ := a
  obtain ⟨b1, b2, b3⟩ := b
  rw [jc.2.1] at a3
  rw [a4 165 (by decide) (by decide)] at b1
  exact JJ_gen jc jr jp a1 (Z0_FrA jc.1 a4) a2 a3 (fun c _ x _ y => a4 c x y) b3 s g b2 b1 (psh_ok jp jr.2.2.2.2.2.1)
theorem JR_FrA {M1 : pz_M} (jr : JR M T n t lws h R ln G sn sc sa sd im N) (f : FrA M M1) : JR M1 T n t lws h R ln G sn sc sa sd im N := JR_c jr (fun c a b => f c (by omega) (by omega))
end P96
/-- a place that moves, and what it may become -/
def Mv (j : Nat) (v : Int) : Prop := ((j = 5 ∨ j = 6) ∧ 0 ≤ v ∧ v ≤ 99) ∨ (∃ c, c < 8 ∧ j = 7 + 7 * c + 4 ∧ 0 ≤ v ∧ v ≤ 9) ∨ (∃ c, c < 8 ∧ j = 7 + 7 * c + 5 ∧ 0 ≤ v ∧ v ≤ 99) ∨ (∃ c, c < 8 ∧ j = 7 + 7 * c + 6 ∧ 0 ≤ v ∧ v ≤ 1) ∨ ∃ a, a < 6 ∧ j = 63 + 3 * a + 1 ∧ 0 ≤ v ∧ v ≤ 1
theorem Mv_lt {j : Nat} {v : Int} (h : Mv j v) : 5 ≤ j ∧ j < 81 ∧ 0 ≤ v ∧ v ≤ 99 := by
  rcases h with h | ⟨c, h⟩ | ⟨c, h⟩ | ⟨c, h⟩ | ⟨c, h⟩ <;> omega
theorem St_mv {R : Nat → Int} {j : Nat} {v : Int} (h : Mv j v) : St (upf R j v) R := by
  have l := Mv_lt h
  refine ⟨fun i hi => upf_o (by omega), fun c k hc hk => upf_o ?_, fun a ha => ⟨upf_o ?_, upf_o ?_⟩, upf_o (by omega), upf_o (by omega)⟩
  · rcases h with h | ⟨c, h⟩ | ⟨c, h⟩ | ⟨c, h⟩ | ⟨c, h⟩ <;> omega
  · rcases h with h | ⟨c, h⟩ | ⟨c, h⟩ | ⟨c, h⟩ | ⟨c, h⟩ <;> omega
  · rcases h with h | ⟨c, h⟩ | ⟨c, h⟩ | ⟨c, h⟩ | ⟨c, h⟩ <;> omega
theorem Gr2_mv {R : Nat → Int} {j : Nat} {v : Int} (g : Gr2 R) (h : Mv j v) : Gr2 (upf R j v) := by
  have l := Mv_lt h
  obtain ⟨⟨a, b, c, d, f, k, i⟩, g2, g3⟩ := g
  refine ⟨⟨fun x hx => ?_, fun x hx => by rw [upf_o (by omega)]; exact b x hx, fun x hx => ?_, fun x hx => ⟨?_, ?_⟩, by rw [upf_o (by omega)]; exact f, by rw [upf_o (by omega)]; exact k, by rw [upf_o (by omega)]; exact i⟩, fun x hx => ?_, fun x hx h2 => ?_⟩
  · by_cases e : x = j
    · rw [upf_at, if_pos e]; omega
    · rw [upf_o e]; exact a x hx
  · by_cases e : 7 + 7 * x + 6 = j
    · rw [upf_at, if_pos e]
      rcases h with h | ⟨c, h⟩ | ⟨c, h⟩ | ⟨c, h⟩ | ⟨c, h⟩ <;> omega
    · rw [upf_o e]; exact c x hx
  · have e : 63 + 3 * x + 0 ≠ j := by rcases h with h | ⟨c, h⟩ | ⟨c, h⟩ | ⟨c, h⟩ | ⟨c, h⟩ <;> omega
    rw [upf_o e]; exact (d x hx).1
  · by_cases e : 63 + 3 * x + 1 = j
    · rw [upf_at, if_pos e]
      rcases h with h | ⟨c, h⟩ | ⟨c, h⟩ | ⟨c, h⟩ | ⟨c, h⟩ <;> omega
    · rw [upf_o e]; exact (d x hx).2
  · by_cases e : 7 + 7 * x + 4 = j
    · rw [upf_at, if_pos e]
      rcases h with h | ⟨c, h⟩ | ⟨c, h⟩ | ⟨c, h⟩ | ⟨c, h⟩ <;> omega
    · rw [upf_o e]; exact g2 x hx
  · rw [upf_o (by omega)] at h2
    rw [upf_o (by omega)]
    exact g3 x hx h2
