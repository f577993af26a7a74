/-! BOTH TOGETHER: images, what is seen, the tape -/
section P98a
variable {M M' : pz_M} {T T1 : Nat → Int} {n n1 t : Nat} {lws : Nat → List (Option Ex × Ex)} {h : Int} {R R1 : Nat → Int} {nx nx1 ln ln1 : Nat} {H G H1 G1 : Nat → Nat → Int} {sn sn1 : Nat} {sc sa sd sc1 sa1 sd1 : Nat → Nat} {im im1 : Int} {I N I1 N1 : Nat → Int}
theorem JC_k (j : JC M T n t lws h R nx ln H sn sc sa sd im I) (ht : t ≤ 4) (e : ∀ c, (135 ≤ c ∧ c < 147 ∨ 4096 ≤ c) → c ∉ QMS → M' c = M c) (z : Z0 M') (h10 : M' 10 = R1) (hT : TC M' T1 n1) (h4 : M' 0 4 = M 0 4) (h5 : M' 0 5 = M 0 5) (hP : Ps M' nx1 ln1 H1) (hS : Se M' sn1 sc1 sa1 sd1) (h9 : M' 0 9 = im1) (hI : im1 = 1 → ∀ j, j < 144 → M' 14 j = I1 j) : JC M' T1 n1 t lws h R1 nx1 ln1 H1 sn1 sc1 sa1 sd1 im1 I1 := by
  obtain ⟨a1, a2, a3, a4, a5, a6, a7, a8, a9, a10, a11⟩ := j
  exact ⟨z, h10, hT, h4.trans a4, fun k hk => LRc_c (a5 k hk) (e _ (by omega) (QMS_law k (by omega)).1) (e _ (by omega) (QMS_law k (by omega)).2), h5.trans a6, hP, hS, h9, hI, STc_c a11 (fun c hc => e c (by omega) (fun h => by have := QMS_lt c h; omega))⟩
theorem JR_k (j : JR M T n t lws h R ln G sn sc sa sd im N) (e : ∀ c, 149 ≤ c → c ≤ 155 → M' c = M c) (hT : TR M' T1 n1) (h13 : M' 147 13 = M 147 13) (h30 : M' 147 30 = M 147 30) (hX : Sx M' R1) (hN : Nw (M' 165) R1) (hP : Pm M' ln1 G1) (hS : Sm M' R1 sn1 sc1 sa1 sd1) (h49 : M' 147 49 = im1) (hI : im1 = 1 → ∀ j, j < 213 → M' 177 j = N1 j) : JR M' T1 n1 t lws h R1 ln1 G1 sn1 sc1 sa1 sd1 im1 N1 := by
  obtain ⟨a1, a2, a3, a4, a5, a6, a7, a8, a9, a10⟩ := j
  exact ⟨hT, h13.trans a2, fun k hk => LRm_fr (a3 k hk) (by rw [e 152 (by decide) (by decide)]) (fun i _ => by rw [e 149 (by decide) (by decide), e 150 (by decide) (by decide)]; exact ⟨rfl, rfl⟩) (fun i _ => by rw [e 153 (by decide) (by decide), e 154 (by decide) (by decide), e 155 (by decide) (by decide)]; exact ⟨rfl, rfl, rfl⟩), h30.trans a4, hX, hN, hP, hS, h49, hI⟩
theorem TC_o (h : TC M T n) (e1 : M' 1 1 = M 1 1) (e2 : M' 2 = M 2) : TC M' T n := ⟨e1.trans h.1, h.2.1, by rw [e2]; exact h.2.2⟩
theorem TR_o (h : TR M T n) (e1 : M' 147 2 = M 147 2) (e2 : M' 148 = M 148) : TR M' T n := ⟨e1.trans h.1, h.2.1, by rw [e2]; exact h.2.2⟩
theorem Ps_o (h : Ps M nx ln H) (e1 : M' 15 = M 15) (e : ∀ c, 18 ≤ c → c < 97 → M' c = M c) : Ps M' nx ln H := by
  obtain ⟨p1, p2, p3, p4, p5⟩ := h
  exact ⟨by rw [e1]; exact p1, p2, by rw [e1]; exact p3, p4, fun i hi j hj => by rw [e _ (by omega) (by omega)]; exact p5 i hi j hj⟩
theorem Se_o (h : Se M sn sc sa sd) (e1 : M' 0 12 = M 0 12) (e2 : M' 97 = M 97) : Se M' sn sc sa sd := ⟨e1.trans h.1, h.2.1, by rw [e2]; exact h.2.2⟩
theorem Sx_o (h : Sx M R) (e7 : ∀ j, 26 ≤ j → j ≤ 28 → M' 147 j = M 147 j) (e : ∀ c, 161 ≤ c → c ≤ 164 → M' c = M c) : Sx M' R := by
  unfold Sx
  rw [e7 26 (by decide) (by decide), e7 27 (by decide) (by decide), e7 28 (by decide) (by decide), e 161 (by decide) (by decide), e 162 (by decide) (by decide), e 163 (by decide) (by decide), e 164 (by decide) (by decide)]
  exact h
theorem Sm_o (h : Sm M R sn sc sa sd) (e7 : M' 147 46 = M 147 46) (e : ∀ c, 173 ≤ c → c ≤ 175 → M' c = M c) : Sm M' R sn sc sa sd := by
  unfold Sm
  rw [e7, e 173 (by decide) (by decide), e 174 (by decide) (by decide), e 175 (by decide) (by decide)]
  exact h
theorem Z0_o (z : Z0 M) (e : ∀ c, c = 106 ∨ c = 121 → M' c = M c) : Z0 M' := by
  unfold Z0
  rw [e 106 (.inl rfl), e 121 (.inr rfl)]
  exact z
end P98a
section P98
variable {d : Nat} {ss : List (Nat × Nat)} {dd : Nat} {M : pz_M}
theorem Rf_147 {M M' : pz_M} (h : Rf M) (e : ∀ c, c ≠ 147 → M' c ≠ M c → 148 ≤ c ∧ c < 178) (e7 : ∀ j, (147, j) ∈ rf_L.map (fun x => (x.1, x.2.1)) → M' 147 j = M 147 j) : Rf M' := Rf_of h (fun x hx => by
  have h1 : x.1 < 148 ∨ 178 ≤ x.1 := (by decide +kernel : ∀ x ∈ rf_L, x.1 < 148 ∨ 178 ≤ x.1) x hx
  by_cases g : x.1 = 147
  · rw [g]
    refine e7 x.2.1 (List.mem_map.mpr ⟨x, hx, ?_⟩)
    rw [← g]
  · by_cases g2 : M' x.1 = M x.1
    · rw [g2]
    · have := e x.1 g g2; omega)
theorem w_end (hJ : JJ M) {x : Int} : ∃ v M1 M2, pz_cal (d + 40) 96 [(2, 0), (0, x)] ((pz_SH, ss, 0, 0, dd), M) = some (some (0, v), ((pz_SH, ss, 0, 0, dd), M1)) ∧ pz_cal (d + 40) 182 [(2, 147), (0, x)] ((pz_SH, ss, 0, 0, dd), M1) = some (some (0, v), ((pz_SH, ss, 0, 0, dd), M2)) ∧ JJ M2 ∧ Ou M M2 := by
  obtain ⟨hR, T, n, t, lws, h, R, nx, ln, H, G, sn, sc, sa, sd, im, I, N, jc, jr, jp⟩ := id hJ
  have k1 := c_CC_end (d := d + 38) (ss := ss) (dd := dd) (n := x) hR
  rw [jc.2.2.1.1] at k1
  have n240 := jr.1.2.1
  by_cases g : 0 ≤ x ∧ x ≤ (n : Int)
  · rw [if_pos g] at k1
    have k2 := c_Mo_end (d := d + 39) (ss := ss) (dd := dd) (M := pz_up M 1 1 x) (n := x)
    have o1 : ∀ c, c ≠ 1 → pz_up M 1 1 x c = M c := fun c hc => by funext z; rw [up_at, if_neg (by omega)]
    rw [o1 147 (by decide), jr.1.1, if_pos g] at k2
    have o2 : ∀ c, c ≠ 1 → c ≠ 147 → pz_up (pz_up M 1 1 x) 147 2 x c = M c := fun c h1 h2 => by rw [u7_c h2]; exact o1 c h1
    have u7 : ∀ j, j ≠ 2 → pz_up (pz_up M 1 1 x) 147 2 x 147 j = M 147 j := fun j hj => by rw [u7_o hj, o1 147 (by decide)]
    have v1 : pz_up (pz_up M 1 1 x) 147 2 x 1 1 = x := by rw [u7_c (by decide), up_at, if_pos ⟨rfl, rfl⟩]
    have v2 : pz_up (pz_up M 1 1 x) 147 2 x 147 2 = x := by rw [up_at, if_pos ⟨rfl, rfl⟩]
    have r2 : Rf (pz_up (pz_up M 1 1 x) 147 2 x) := Rf_up (Rf_up hR (by decide +kernel)) (by decide +kernel)
    refine ⟨_, _, _, k1, k2, ⟨r2, T, x.toNat, t, lws, h, R, nx, ln, H, G, sn, sc, sa, sd, im, I, N, ?_, ?_, jp⟩, fun c hc => o2 c (by omega) (by omega)⟩
    · generalize pz_up (pz_up M 1 1 x) 147 2 x = M2 at *
      exact JC_k jc jp.1 (fun c hc _ => o2 c (by omega) (by omega)) (Z0_o jc.1 (fun c hc => o2 c (by omega) (by omega))) ((o2 10 (by decide) (by decide)).trans jc.2.1) ⟨by rw [v1]; omega, by omega, fun i hi => by rw [o2 2 (by decide) (by decide)]; exact jc.2.2.1.2.2 i (by omega)⟩ (by rw [o2 0 (by decide) (by decide)]) (by rw [o2 0 (by decide) (by decide)]) (Ps_o jc.2.2.2.2.2.2.1 (o2 15 (by decide) (by decide)) (fun c h1 h2 => o2 c (by omega) (by omega))) (Se_o jc.2.2.2.2.2.2.2.1 (by rw [o2 0 (by decide) (by decide)]) (o2 97 (by decide) (by decide))) (by rw [o2 0 (by decide) (by decide)]; exact jc.2.2.2.2.2.2.2.2.1) (by rw [o2 14 (by decide) (by decide)]; exact jc.2.2.2.2.2.2.2.2.2.1)
    · generalize pz_up (pz_up M 1 1 x) 147 2 x = M2 at *
      exact JR_k jr (fun c h1 h2 => o2 c (by omega) (by omega)) ⟨by rw [v2]; omega, by omega, fun i hi => by rw [o2 148 (by decide) (by decide)]; exact jr.1.2.2 i (by omega)⟩ (u7 13 (by decide)) (u7 30 (by decide)) (Sx_o jr.2.2.2.2.1 (fun j h1 h2 => u7 j (by omega)) (fun c h1 h2 => o2 c (by omega) (by omega))) (by rw [o2 165 (by decide) (by decide)]; exact jr.2.2.2.2.2.1) (Pm_fr jr.2.2.2.2.2.2.1 (u7 36 (by decide)) (o2 169 (by decide) (by decide))) (Sm_o jr.2.2.2.2.2.2.2.1 (u7 46 (by decide)) (fun c h1 h2 => o2 c (by omega) (by omega))) ((u7 49 (by decide)).trans jr.2.2.2.2.2.2.2.2.1) (by rw [o2 177 (by decide) (by decide)]; exact jr.2.2.2.2.2.2.2.2.2)
  · rw [if_neg g] at k1
    have k2 := c_Mo_end (d := d + 39) (ss := ss) (dd := dd) (M := M) (n := x)
    rw [jr.1.1, if_neg g] at k2
    exact ⟨_, M, M, k1, k2, hJ, Ou_r⟩
/-- two tapes that agree -/
def ag (f g : (Nat → Int) × Int) : Prop := f.2 = g.2 ∧ 0 ≤ f.2 ∧ ∀ i : Nat, (i : Int) < f.2 → f.1 i = g.1 i
theorem ag_pT {f g : (Nat → Int) × Int} {x : Int} (h : ag f g) : ag (pT f x) (pT g x) := by
  unfold pT
  by_cases e : x = 0
  · rw [if_pos e, if_pos e]; exact h
  · rw [if_neg e, if_neg e]
    refine ⟨by show f.2 + 1 = g.2 + 1; rw [h.1], by show 0 ≤ f.2 + 1; have := h.2.1; omega, fun i hi => ?_⟩
    have hi : (i : Int) < f.2 + 1 := hi
    show (if i = f.2.toNat then x else f.1 i) = (if i = g.2.toNat then x else g.1 i)
    rw [← h.1]
    by_cases e2 : i = f.2.toNat
    · rw [if_pos e2, if_pos e2]
    · rw [if_neg e2, if_neg e2]; exact h.2.2 i (by have := h.2.1; omega)
theorem ag_p4 {f g : (Nat → Int) × Int} {a : Int} (h : ag f g) : ag (p4 f a) (p4 g a) := ag_pT (ag_pT (ag_pT (ag_pT h)))
theorem w_feed (hJ : JJ M) {a b c e f : Int} : ∃ v M1 M2, pz_cal (d + 40) 95 [(2, 0), (0, a), (0, b), (0, c), (0, e), (0, f)] ((pz_SH, ss, 0, 0, dd), M) = some (some (0, v), ((pz_SH, ss, 0, 0, dd), M1)) ∧ pz_cal (d + 40) 180 [(2, 147), (0, a), (0, b), (0, c), (0, e), (0, f)] ((pz_SH, ss, 0, 0, dd), M1) = some (some (0, v), ((pz_SH, ss, 0, 0, dd), M2)) ∧ JJ M2 ∧ Ou M M2 := by
  obtain ⟨hR, T, n, t, lws, h, R, nx, ln, H, G, sn, sc, sa, sd, im, I, N, jc, jr, jp⟩ := id hJ
  have n240 := jr.1.2.1
  have n11 := jc.2.2.1.1
  have n72 := jr.1.1
  have k1 := c_CC_feed (d := d + 38) (ss := ss) (dd := dd) (a := a) (b := b) (c := c) (e := e) (f := f) hR (by rw [n11]; omega) (by rw [n11]; omega)
  have nn := nb_r a
  have nn2 := nb_r b
  have nn3 := nb_r c
  have nn4 := nb_r e
  have nn5 := nb_r f
  by_cases g : 240 < M 1 1 + (nb a + nb b + nb c + nb e + nb f)
  · rw [if_pos g] at k1
    have k2 := c_Mo_feed (d := d + 38) (ss := ss) (dd := dd) (a := a) (b := b) (c := c) (e := e) (f := f) hR (by rw [n72]; omega) (by rw [n72]; omega)
    rw [n72, ← n11, if_pos g] at k2
    exact ⟨_, M, M, k1, k2, hJ, Ou_r⟩
  · rw [if_neg g] at k1
    have a0 : ag (M 2, M 1 1) (M 148, M 147 2) := ⟨by show M 1 1 = M 147 2; rw [n11, n72], by show 0 ≤ M 1 1; rw [n11]; omega, fun i hi => by
      have hi : (i : Int) < M 1 1 := hi
      show M 2 i = M 148 i
      rw [jc.2.2.1.2.2 i (by omega), jr.1.2.2 i (by omega)]⟩
    have a5 := ag_p4 (a := f) (ag_p4 (a := e) (ag_p4 (a := c) (ag_p4 (a := b) (ag_p4 (a := a) a0))))
    have l1 : (p4 (p4 (p4 (p4 (p4 (M 2, M 1 1) a) b) c) e) f).2 = M 1 1 + (nb a + nb b + nb c + nb e + nb f) := by
      rw [p4_2, p4_2, p4_2, p4_2, p4_2]
      show M 1 1 + nb a + nb b + nb c + nb e + nb f = _
      omega
    generalize hp : p4 (p4 (p4 (p4 (p4 (M 2, M 1 1) a) b) c) e) f = P1 at *
    have o1 : ∀ c, c ≠ 1 → c ≠ 2 → sT M 2 1 1 P1 c = M c := fun c h1 h2 => by
      funext z
      unfold sT
      rw [if_neg h2, if_neg (fun h => h1 h.1)]
    have r1 : Rf (sT M 2 1 1 P1) := Rf_of hR (fun x hx => by
      have h1 : x.1 ≠ 2 ∧ (x.1 = 1 → x.2.1 ≠ 1) := (by decide +kernel : ∀ x ∈ rf_L, x.1 ≠ 2 ∧ (x.1 = 1 → x.2.1 ≠ 1)) x hx
      unfold sT
      rw [if_neg h1.1, if_neg (fun h => h1.2 h.1 h.2)])
    have v11 : sT M 2 1 1 P1 1 1 = P1.2 := by unfold sT; rw [if_neg (by decide), if_pos ⟨rfl, rfl⟩]
    have v2 : sT M 2 1 1 P1 2 = P1.1 := by funext z; unfold sT; rw [if_pos rfl]
    have k2 := c_Mo_feed (d := d + 38) (ss := ss) (dd := dd) (M := sT M 2 1 1 P1) (a := a) (b := b) (c := c) (e := e) (f := f) r1 (by rw [o1 147 (by decide) (by decide), n72]; omega) (by rw [o1 147 (by decide) (by decide), n72]; omega)
    rw [o1 147 (by decide) (by decide), o1 148 (by decide) (by decide), n72, ← n11, if_neg g] at k2
    rw [n72, ← n11] at a5
    generalize sT M 2 1 1 P1 = M1 at *
    generalize p4 (p4 (p4 (p4 (p4 (M 148, M 1 1) a) b) c) e) f = P2 at *
    have u1 : ∀ c, c ≠ 147 → c ≠ 148 → sT M1 148 147 2 P2 c = M1 c := fun c h1 h2 => by
      funext z
      unfold sT
      rw [if_neg h2, if_neg (fun h => h1 h.1)]
    have u7 : ∀ j, j ≠ 2 → sT M1 148 147 2 P2 147 j = M 147 j := fun j hj => by
      unfold sT
      rw [if_neg (by decide), if_neg (fun h => hj h.2), o1 147 (by decide) (by decide)]
    have w72 : sT M1 148 147 2 P2 147 2 = P2.2 := by unfold sT; rw [if_neg (by decide), if_pos ⟨rfl, rfl⟩]
    have w148 : sT M1 148 147 2 P2 148 = P2.1 := by funext z; unfold sT; rw [if_pos rfl]
    have r2 : Rf (sT M1 148 147 2 P2) := Rf_of r1 (fun x hx => by
      have h1 : x.1 ≠ 148 ∧ (x.1 = 147 → x.2.1 ≠ 2) := (by decide +kernel : ∀ x ∈ rf_L, x.1 ≠ 148 ∧ (x.1 = 147 → x.2.1 ≠ 2)) x hx
      unfold sT
      rw [if_neg h1.1, if_neg (fun h => h1.2 h.1 h.2)])
    have o2 : ∀ c, c ≠ 1 → c ≠ 2 → c ≠ 147 → c ≠ 148 → sT M1 148 147 2 P2 c = M c := fun c x y z w => (u1 c z w).trans (o1 c x y)
    have m1 : sT M1 148 147 2 P2 1 = M1 1 := u1 1 (by decide) (by decide)
    have m2 : sT M1 148 147 2 P2 2 = M1 2 := u1 2 (by decide) (by decide)
    have lb : 0 ≤ P1.2 ∧ P1.2 ≤ 240 := by rw [l1, n11]; omega
    refine ⟨_, _, _, k1, k2, ⟨r2, P1.1, P1.2.toNat, t, lws, h, R, nx, ln, H, G, sn, sc, sa, sd, im, I, N, ?_, ?_, jp⟩, fun c hc => o2 c (by omega) (by omega) (by omega) (by omega)⟩
    · generalize sT M1 148 147 2 P2 = M2 at *
      exact JC_k jc jp.1 (fun c hc _ => o2 c (by omega) (by omega) (by omega) (by omega)) (Z0_o jc.1 (fun c hc => o2 c (by omega) (by omega) (by omega) (by omega))) ((o2 10 (by decide) (by decide) (by decide) (by decide)).trans jc.2.1) ⟨by rw [m1, v11]; omega, by omega, fun i hi => by rw [m2, v2]⟩ (by rw [o2 0 (by decide) (by decide) (by decide) (by decide)]) (by rw [o2 0 (by decide) (by decide) (by decide) (by decide)]) (Ps_o jc.2.2.2.2.2.2.1 (o2 15 (by decide) (by decide) (by decide) (by decide)) (fun c h1 h2 => o2 c (by omega) (by omega) (by omega) (by omega))) (Se_o jc.2.2.2.2.2.2.2.1 (by rw [o2 0 (by decide) (by decide) (by decide) (by decide)]) (o2 97 (by decide) (by decide) (by decide) (by decide))) (by rw [o2 0 (by decide) (by decide) (by decide) (by decide)]; exact jc.2.2.2.2.2.2.2.2.1) (by rw [o2 14 (by decide) (by decide) (by decide) (by decide)]; exact jc.2.2.2.2.2.2.2.2.2.1)
    · generalize sT M1 148 147 2 P2 = M2 at *
      have o3 : ∀ c, 149 ≤ c → M2 c = M c := fun c hc => o2 c (by omega) (by omega) (by omega) (by omega)
      exact JR_k jr (fun c h1 h2 => o3 c h1) ⟨by rw [w72, ← a5.1]; omega, by omega, fun i hi => by rw [w148]; exact (a5.2.2 i (by omega)).symm⟩ (u7 13 (by decide)) (u7 30 (by decide)) (Sx_o jr.2.2.2.2.1 (fun j h1 h2 => u7 j (by omega)) (fun c h1 h2 => o3 c (by omega))) (by rw [o3 165 (by decide)]; exact jr.2.2.2.2.2.1) (Pm_fr jr.2.2.2.2.2.2.1 (u7 36 (by decide)) (o3 169 (by decide))) (Sm_o jr.2.2.2.2.2.2.2.1 (u7 46 (by decide)) (fun c h1 h2 => o3 c (by omega))) ((u7 49 (by decide)).trans jr.2.2.2.2.2.2.2.2.1) (by rw [o3 177 (by decide)]; exact jr.2.2.2.2.2.2.2.2.2)
theorem w_see (hJ : JJ M) {c a e : Int} : ∃ v M1 M2, pz_cal (d + 40) 167 [(2, 0), (0, c), (0, a), (0, e)] ((pz_SH, ss, 0, 0, dd), M) = some (some (0, v), ((pz_SH, ss, 0, 0, dd), M1)) ∧ pz_cal (d + 40) 280 [(2, 147), (0, c), (0, a), (0, e)] ((pz_SH, ss, 0, 0, dd), M1) = some (some (0, v), ((pz_SH, ss, 0, 0, dd), M2)) ∧ JJ M2 ∧ Ou M M2 := by
  obtain ⟨hR, T, n, t, lws, h, R, nx, ln, H, G, sn, sc, sa, sd, im, I, N, jc, jr, jp⟩ := id hJ
  have k1 := c_CC_see (d := d + 36) (ss := ss) (dd := dd) (c := c) (a := a) (e := e) (Ev_J hR jc jp) jc.2.2.2.2.2.2.2.1
  by_cases g : (CtP R c ∧ AcP R a) ∧ DeP e ∧ sn < 16
  · rw [if_pos g] at k1
    have c8 : R 141 ≤ 8 := jp.2.2.2.1.1.2.2.2.2.1
    have a6 : R 142 ≤ 6 := jp.2.2.2.1.1.2.2.2.2.2.1
    obtain ⟨⟨⟨g1, g2⟩, g3, g4⟩, ⟨g5, g6⟩, g7⟩ := id g
    have o1 : ∀ x, x ≠ 0 → x ≠ 97 → pz_up (pz_up M 97 sn (100 * c + 10 * a + e)) 0 12 ((sn : Int) + 1) x = M x := fun x h1 h2 => by funext z; rw [up_at, if_neg (by omega), up_at, if_neg (by omega)]
    have o0 : ∀ j, j ≠ 12 → pz_up (pz_up M 97 sn (100 * c + 10 * a + e)) 0 12 ((sn : Int) + 1) 0 j = M 0 j := fun j hj => by rw [up_at, if_neg (by omega), up_at, if_neg (by omega)]
    have v0 : pz_up (pz_up M 97 sn (100 * c + 10 * a + e)) 0 12 ((sn : Int) + 1) 0 12 = (sn : Int) + 1 := by rw [up_at, if_pos ⟨rfl, rfl⟩]
    have v97 : ∀ i, pz_up (pz_up M 97 sn (100 * c + 10 * a + e)) 0 12 ((sn : Int) + 1) 97 i = if i = sn then 100 * c + 10 * a + e else M 97 i := fun i => by
      rw [up_at, if_neg (by omega), up_at]
      by_cases q : i = sn
      · rw [if_pos ⟨rfl, q⟩, if_pos q]
      · rw [if_neg (fun h => q h.2), if_neg q]
    have r1 : Rf (pz_up (pz_up M 97 sn (100 * c + 10 * a + e)) 0 12 ((sn : Int) + 1)) := Rf_of hR (fun x hx => by
      have h1 : x.1 ≠ 97 ∧ (x.1 = 0 → x.2.1 ≠ 12) := (by decide +kernel : ∀ x ∈ rf_L, x.1 ≠ 97 ∧ (x.1 = 0 → x.2.1 ≠ 12)) x hx
      rw [up_at, if_neg (fun h => h1.2 h.1 h.2), up_at, if_neg (fun h => h1.1 h.1)])
    generalize pz_up (pz_up M 97 sn (100 * c + 10 * a + e)) 0 12 ((sn : Int) + 1) = M1 at *
    have j1 : JR M1 T n t lws h R ln G sn sc sa sd im N := JR_c jr (fun x a b => o1 x (by omega) (by omega))
    have k2 := m_see (d := d + 37) (ss := ss) (dd := dd) (c := c) (a := a) (e := e) (Em_J r1 j1 jp) j1.2.2.2.2.2.2.2.1
    rw [if_pos g] at k2
    have u1 : ∀ x, x ≠ 147 → x ≠ 173 → x ≠ 174 → x ≠ 175 → pz_up (pz_up (pz_up (pz_up M1 173 sn c) 174 sn a) 175 sn e) 147 46 ((sn : Int) + 1) x = M1 x := fun x h1 h2 h3 h4 => by funext z; rw [up_at, if_neg (by omega), up_at, if_neg (by omega), up_at, if_neg (by omega), up_at, if_neg (by omega)]
    have u7 : ∀ j, j ≠ 46 → pz_up (pz_up (pz_up (pz_up M1 173 sn c) 174 sn a) 175 sn e) 147 46 ((sn : Int) + 1) 147 j = M 147 j := fun j hj => by rw [u7_o hj, up_at, if_neg (by omega), up_at, if_neg (by omega), up_at, if_neg (by omega), o1 147 (by decide) (by decide)]
    have w46 : pz_up (pz_up (pz_up (pz_up M1 173 sn c) 174 sn a) 175 sn e) 147 46 ((sn : Int) + 1) 147 46 = (sn : Int) + 1 := by rw [up_at, if_pos ⟨rfl, rfl⟩]
    have w173 : ∀ i, pz_up (pz_up (pz_up (pz_up M1 173 sn c) 174 sn a) 175 sn e) 147 46 ((sn : Int) + 1) 173 i = if i = sn then c else M1 173 i := fun i => by
      rw [u7_c (by decide), up_at, if_neg (by omega), up_at, if_neg (by omega), up_at]
      by_cases q : i = sn
      · rw [if_pos ⟨rfl, q⟩, if_pos q]
      · rw [if_neg (fun h => q h.2), if_neg q]
    have w174 : ∀ i, pz_up (pz_up (pz_up (pz_up M1 173 sn c) 174 sn a) 175 sn e) 147 46 ((sn : Int) + 1) 174 i = if i = sn then a else M1 174 i := fun i => by
      rw [u7_c (by decide), up_at, if_neg (by omega), up_at]
      by_cases q : i = sn
      · rw [if_pos ⟨rfl, q⟩, if_pos q]
      · rw [if_neg (fun h => q h.2), if_neg q, up_at, if_neg (by omega)]
    have w175 : ∀ i, pz_up (pz_up (pz_up (pz_up M1 173 sn c) 174 sn a) 175 sn e) 147 46 ((sn : Int) + 1) 175 i = if i = sn then e else M1 175 i := fun i => by
      rw [u7_c (by decide), up_at]
      by_cases q : i = sn
      · rw [if_pos ⟨rfl, q⟩, if_pos q]
      · rw [if_neg (fun h => q h.2), if_neg q, up_at, if_neg (by omega), up_at, if_neg (by omega)]
    have r2 : Rf (pz_up (pz_up (pz_up (pz_up M1 173 sn c) 174 sn a) 175 sn e) 147 46 ((sn : Int) + 1)) := Rf_of r1 (fun x hx => by
      have h1 : x.1 ≠ 173 ∧ x.1 ≠ 174 ∧ x.1 ≠ 175 ∧ (x.1 = 147 → x.2.1 ≠ 46) := (by decide +kernel : ∀ x ∈ rf_L, x.1 ≠ 173 ∧ x.1 ≠ 174 ∧ x.1 ≠ 175 ∧ (x.1 = 147 → x.2.1 ≠ 46)) x hx
      rw [up_at, if_neg (fun h => h1.2.2.2 h.1 h.2), up_at, if_neg (fun h => h1.2.2.1 h.1), up_at, if_neg (fun h => h1.2.1 h.1), up_at, if_neg (fun h => h1.1 h.1)])
    have o2 : ∀ x, x ≠ 0 → x ≠ 97 → x ≠ 147 → x ≠ 173 → x ≠ 174 → x ≠ 175 → pz_up (pz_up (pz_up (pz_up M1 173 sn c) 174 sn a) 175 sn e) 147 46 ((sn : Int) + 1) x = M x := fun x a b c d e f => (u1 x c d e f).trans (o1 x a b)
    have m0 : pz_up (pz_up (pz_up (pz_up M1 173 sn c) 174 sn a) 175 sn e) 147 46 ((sn : Int) + 1) 0 = M1 0 := u1 0 (by decide) (by decide) (by decide) (by decide)
    have m97 : pz_up (pz_up (pz_up (pz_up M1 173 sn c) 174 sn a) 175 sn e) 147 46 ((sn : Int) + 1) 97 = M1 97 := u1 97 (by decide) (by decide) (by decide) (by decide)
    refine ⟨_, _, _, k1, k2, ⟨r2, T, n, t, lws, h, R, nx, ln, H, G, sn + 1, (fun i => if i = sn then c.toNat else sc i), (fun i => if i = sn then a.toNat else sa i), (fun i => if i = sn then e.toNat else sd i), im, I, N, ?_, ?_, jp⟩, fun x hx => o2 x (by omega) (by omega) (by omega) (by omega) (by omega) (by omega)⟩
    · generalize pz_up (pz_up (pz_up (pz_up M1 173 sn c) 174 sn a) 175 sn e) 147 46 ((sn : Int) + 1) = M2 at *
      have o3 : ∀ x, x ≠ 0 → x ≠ 97 → (x < 147 ∨ 178 ≤ x) → M2 x = M x := fun x a b c => o2 x a b (by omega) (by omega) (by omega) (by omega)
      refine JC_k jc jp.1 (fun c hc _ => o3 c (by omega) (by omega) (by omega)) (Z0_o jc.1 (fun c hc => o3 c (by omega) (by omega) (by omega))) ((o3 10 (by decide) (by decide) (by decide)).trans jc.2.1) (TC_o jc.2.2.1 (by rw [o3 1 (by decide) (by decide) (by decide)]) (o3 2 (by decide) (by decide) (by decide))) (by rw [m0]; exact o0 4 (by decide)) (by rw [m0]; exact o0 5 (by decide)) (Ps_o jc.2.2.2.2.2.2.1 (o3 15 (by decide) (by decide) (by decide)) (fun c h1 h2 => o3 c (by omega) (by omega) (by omega))) ⟨by rw [m0, v0]; omega, by omega, fun i hi => ?_⟩ (by rw [m0, o0 9 (by decide)]; exact jc.2.2.2.2.2.2.2.2.1) (by rw [o3 14 (by decide) (by decide) (by decide)]; exact jc.2.2.2.2.2.2.2.2.2.1)
      rw [m97, v97]
      by_cases q : i = sn
      · simp only [if_pos q]
        exact ⟨by omega, by omega, by omega, by omega⟩
      · simp only [if_neg q]
        exact jc.2.2.2.2.2.2.2.1.2.2 i (by omega)
    · generalize pz_up (pz_up (pz_up (pz_up M1 173 sn c) 174 sn a) 175 sn e) 147 46 ((sn : Int) + 1) = M2 at *
      have o3 : ∀ x, 148 ≤ x → x < 173 ∨ 175 < x → M2 x = M x := fun x a b => o2 x (by omega) (by omega) (by omega) (by omega) (by omega) (by omega)
      refine JR_k jr (fun c h1 h2 => o3 c (by omega) (by omega)) (TR_o jr.1 (u7 2 (by decide)) (o3 148 (by decide) (by decide))) (u7 13 (by decide)) (u7 30 (by decide)) (Sx_o jr.2.2.2.2.1 (fun j h1 h2 => u7 j (by omega)) (fun c h1 h2 => o3 c (by omega) (by omega))) (by rw [o3 165 (by decide) (by decide)]; exact jr.2.2.2.2.2.1) (Pm_fr jr.2.2.2.2.2.2.1 (u7 36 (by decide)) (o3 169 (by decide) (by decide))) ⟨by rw [w46]; omega, by omega, fun i hi => ?_⟩ ((u7 49 (by decide)).trans jr.2.2.2.2.2.2.2.2.1) (by rw [o3 177 (by decide) (by decide)]; exact jr.2.2.2.2.2.2.2.2.2)
      rw [w173, w174, w175]
      by_cases q : i = sn
      · simp only [if_pos q]
        exact ⟨by omega, by omega, by omega, by omega, by omega, by omega⟩
      · simp only [if_neg q]
        exact j1.2.2.2.2.2.2.2.1.2.2 i (by omega)
  · rw [if_neg g] at k1
    have k2 := m_see (d := d + 37) (ss := ss) (dd := dd) (c := c) (a := a) (e := e) (Em_J hR jr jp) jr.2.2.2.2.2.2.2.1
    rw [if_neg g] at k2
    exact ⟨_, M, M, k1, k2, hJ, Ou_r⟩
end P98
