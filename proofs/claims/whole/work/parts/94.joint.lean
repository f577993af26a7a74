/-! BOTH TOGETHER: what holds between two calls -/
/-- a good row: its bounds, its fish, its log -/
def Gr2 (R : Nat → Int) : Prop := Ro R ∧ (∀ c, c < 8 → R (7 + 7 * c + 4) ≤ 9) ∧ Lg R
/-- two rows of one court -/
def St (R' R : Nat → Int) : Prop := (∀ j, j < 5 → R' j = R j) ∧ (∀ c k, c < 8 → k < 4 → R' (7 + 7 * c + k) = R (7 + 7 * c + k)) ∧ (∀ a, a < 6 → R' (63 + 3 * a) = R (63 + 3 * a) ∧ R' (63 + 3 * a + 2) = R (63 + 3 * a + 2)) ∧ R' 141 = R 141 ∧ R' 142 = R 142
theorem St_r {R : Nat → Int} : St R R := ⟨fun _ _ => rfl, fun _ _ _ _ => rfl, fun _ _ => ⟨rfl, rfl⟩, rfl, rfl⟩
theorem St_t {R1 R2 R3 : Nat → Int} (h : St R1 R2) (g : St R2 R3) : St R1 R3 := ⟨fun j a => (h.1 j a).trans (g.1 j a), fun c k a b => (h.2.1 c k a b).trans (g.2.1 c k a b), fun a b => ⟨(h.2.2.1 a b).1.trans (g.2.2.1 a b).1, (h.2.2.1 a b).2.trans (g.2.2.1 a b).2⟩, h.2.2.2.1.trans g.2.2.2.1, h.2.2.2.2.trans g.2.2.2.2⟩
theorem St_s {R1 R2 : Nat → Int} (h : St R1 R2) : St R2 R1 := ⟨fun j a => (h.1 j a).symm, fun c k a b => (h.2.1 c k a b).symm, fun a b => ⟨(h.2.2.1 a b).1.symm, (h.2.2.1 a b).2.symm⟩, h.2.2.2.1.symm, h.2.2.2.2.symm⟩
theorem St_e {R' R : Nat → Int} (e : ∀ j, j < 144 → R' j = R j) : St R' R := ⟨fun j h => e j (by omega), fun c k a b => e _ (by omega), fun a b => ⟨e _ (by omega), e _ (by omega)⟩, e _ (by decide), e _ (by decide)⟩
theorem Ro_e {R' R : Nat → Int} (h : Ro R) (e : ∀ j, j < 144 → R' j = R j) : Ro R' := by
  obtain ⟨a, b, c, d, f, g, i⟩ := h
  refine ⟨fun j hj => by rw [e j hj]; exact a j hj, fun j hj => by rw [e j (by omega)]; exact b j hj, fun x hx => by rw [e _ (by omega)]; exact c x hx, fun x hx => by rw [e _ (by omega), e _ (by omega)]; exact d x hx, by rw [e _ (by decide)]; exact f, by rw [e _ (by decide)]; exact g, by rw [e _ (by decide)]; exact i⟩
theorem Gr2_e {R' R : Nat → Int} (h : Gr2 R) (e : ∀ j, j < 144 → R' j = R j) : Gr2 R' := ⟨Ro_e h.1 e, fun c hc => by rw [e _ (by omega)]; exact h.2.1 c hc, fun i hi h2 => by rw [e 143 (by decide)] at h2; rw [e _ (by omega)]; exact h.2.2 i hi h2⟩
theorem Sx_St {M : pz_M} {R R' : Nat → Int} (h : Sx M R) (s : St R' R) : Sx M R' := by
  obtain ⟨⟨a1, a2, a3, a4⟩, b, c⟩ := h
  obtain ⟨s1, s2, s3, s4, s5⟩ := s
  refine ⟨⟨fun d hd => by rw [s1 d (by omega)]; exact a1 d hd, by rw [s1 4 (by decide)]; exact a2, by rw [s4]; exact a3, by rw [s5]; exact a4⟩, fun x hx h8 k hk => ?_, fun x hx h6 => ?_⟩
  · rw [s4] at hx; rw [s2 x k h8 hk]; exact b x hx h8 k hk
  · rw [s5] at hx; rw [(s3 x h6).1, (s3 x h6).2]; exact c x hx h6
theorem Sm_St {M : pz_M} {R R' : Nat → Int} {n : Nat} {sc sa sd : Nat → Nat} (h : Sm M R n sc sa sd) (s : St R' R) : Sm M R' n sc sa sd := ⟨h.1, h.2.1, fun i hi => by rw [s.2.2.2.1, s.2.2.2.2]; exact h.2.2 i hi⟩
/-- the law that holds -/
def Lh (lws : Nat → List (Option Ex × Ex)) (h : Int) : Option ((Nat → Int) → Int) := if h = -1 then none else some (lwv (lws h.toNat))
/-- of the class -/
def JC (M : pz_M) (T : Nat → Int) (n t : Nat) (lws : Nat → List (Option Ex × Ex)) (h : Int) (R : Nat → Int) (nx ln : Nat) (H : Nat → Nat → Int) (sn : Nat) (sc sa sd : Nat → Nat) (im : Int) (I : Nat → Int) : Prop := Z0 M ∧ M 10 = R ∧ TC M T n ∧ M 0 4 = (t : Int) ∧ (∀ k, k < t → LRc M k (lws k)) ∧ M 0 5 = h ∧ Ps M nx ln H ∧ Se M sn sc sa sd ∧ M 0 9 = im ∧ (im = 1 → ∀ j, j < 144 → M 14 j = I j) ∧ STc M
/-- of the reference -/
def JR (M : pz_M) (T : Nat → Int) (n t : Nat) (lws : Nat → List (Option Ex × Ex)) (h : Int) (R : Nat → Int) (ln : Nat) (G : Nat → Nat → Int) (sn : Nat) (sc sa sd : Nat → Nat) (im : Int) (N : Nat → Int) : Prop := TR M T n ∧ M 147 13 = (t : Int) ∧ (∀ k, k < t → LRm M k (lws k)) ∧ M 147 30 = h ∧ Sx M R ∧ Nw (M 165) R ∧ Pm M ln G ∧ Sm M R sn sc sa sd ∧ M 147 49 = im ∧ (im = 1 → ∀ j, j < 213 → M 177 j = N j)
/-- of neither -/
def JP (t : Nat) (lws : Nat → List (Option Ex × Ex)) (h : Int) (R : Nat → Int) (ln : Nat) (H G : Nat → Nat → Int) (im : Int) (I N : Nat → Int) : Prop := t ≤ 4 ∧ (∀ k, k < t → ∀ x ∈ lws k, Cg x) ∧ (h = -1 ∨ 0 ≤ h ∧ h < (t : Int)) ∧ Gr2 R ∧ (∀ i, i < ln → Gr2 (H i) ∧ Nw (G i) (H i) ∧ St (H i) R) ∧ (im = 0 ∨ im = 1) ∧ (im = 1 → Gr2 I ∧ Nw N I ∧ St I R)
def JJ (M : pz_M) : Prop := Rf M ∧ ∃ (T : Nat → Int) (n t : Nat) (lws : Nat → List (Option Ex × Ex)) (h : Int) (R : Nat → Int) (nx ln : Nat) (H G : Nat → Nat → Int) (sn : Nat) (sc sa sd : Nat → Nat) (im : Int) (I N : Nat → Int), JC M T n t lws h R nx ln H sn sc sa sd im I ∧ JR M T n t lws h R ln G sn sc sa sd im N ∧ JP t lws h R ln H G im I N
/-- what lies outside both -/
def Ou (M M' : pz_M) : Prop := ∀ c, 178 ≤ c → M' c = M c
theorem Ou_r {M : pz_M} : Ou M M := fun _ _ => rfl
theorem Ou_t {M M1 M2 : pz_M} (h : Ou M M1) (g : Ou M1 M2) : Ou M M2 := fun c hc => (g c hc).trans (h c hc)
section P94
variable {M M' : pz_M} {T : Nat → Int} {n t : Nat} {lws : Nat → List (Option Ex × Ex)} {h : Int} {R : Nat → Int} {nx ln : Nat} {H G : Nat → Nat → Int} {sn : Nat} {sc sa sd : Nat → Nat} {im : Int} {I N : Nat → Int}
theorem LRc_c {k : Nat} {lw : List (Option Ex × Ex)} (h : LRc M k lw) (h1 : M' (135 + 3 * k) = M (135 + 3 * k)) (h2 : M' (136 + 3 * k) = M (136 + 3 * k)) : LRc M' k lw := by
  unfold LRc
  rw [h1, h2]
  exact h
theorem STc_c (h : STc M) (e : ∀ c, 4096 ≤ c → M' c = M c) : STc M' := by
  unfold STc LLt
  rw [e 4096 (by decide), e 4097 (by decide), e 4098 (by decide), e 4099 (by decide), e 4100 (by decide), e 4101 (by decide), e 4102 (by decide), e 4103 (by decide), e 4104 (by decide), e 4105 (by decide)]
  exact h
/-- the class's part stands where its cells do (but what questions use) -/
theorem JC_c (j : JC M T n t lws h R nx ln H sn sc sa sd im I) (ht : t ≤ 4) (z : Z0 M') (e : ∀ c, c ∉ QMS → (c < 147 ∨ 178 ≤ c) → M' c = M c) : JC M' T n t lws h R nx ln H sn sc sa sd im I := by
  obtain ⟨a1, a2, a3, a4, a5, a6, a7, a8, a9, a10, a11⟩ := j
  have e0 : M' 0 = M 0 := e 0 (by decide) (by decide)
  have e1 : M' 1 = M 1 := e 1 (by decide) (by decide)
  have e2 : M' 2 = M 2 := e 2 (by decide) (by decide)
  have e15 : M' 15 = M 15 := e 15 (by decide) (by decide)
  have ep : ∀ i, i < 40 → M' (18 + 2 * i) = M (18 + 2 * i) := fun i hi => e _ (by
    have : ∀ i, i < 40 → 18 + 2 * i ∉ QMS := by decide +kernel
    exact this i hi) (by omega)
  refine ⟨z, by rw [e 10 (by decide) (by decide)]; exact a2, ⟨by rw [e1]; exact a3.1, a3.2.1, by rw [e2]; exact a3.2.2⟩, by rw [e0]; exact a4, fun k hk => LRc_c (a5 k hk) (e _ (QMS_law k (by omega)).1 (by omega)) (e _ (QMS_law k (by omega)).2 (by omega)), by rw [e0]; exact a6, ?_, ?_, by rw [e0]; exact a9, by rw [e 14 (by decide) (by decide)]; exact a10, STc_c a11 (fun c hc => e c (by
    have : ∀ c ∈ QMS, c < 4096 := by decide +kernel
    exact fun h => by have := this c h; omega) (by omega))⟩
  · obtain ⟨p1, p2, p3, p4, p5⟩ := a7
    exact ⟨by rw [e15]; exact p1, p2, by rw [e15]; exact p3, p4, fun i hi j hj => by rw [ep _ (by omega)]; exact p5 i hi j hj⟩
  · obtain ⟨p1, p2, p3⟩ := a8
    exact ⟨by rw [e0]; exact p1, p2, by rw [e 97 (by decide) (by decide)]; exact p3⟩
theorem JR_c (j : JR M T n t lws h R ln G sn sc sa sd im N) (e : ∀ c, 147 ≤ c → c < 178 → M' c = M c) : JR M' T n t lws h R ln G sn sc sa sd im N := by
  obtain ⟨a1, a2, a3, a4, a5, a6, a7, a8, a9, a10⟩ := j
  have e7 : M' 147 = M 147 := e 147 (by decide) (by decide)
  refine ⟨⟨by rw [e7]; exact a1.1, a1.2.1, by rw [e 148 (by decide) (by decide)]; exact a1.2.2⟩, by rw [e7]; exact a2, fun k hk => LRm_fr (a3 k hk) (by rw [e 152 (by decide) (by decide)]) (fun i _ => by rw [e 149 (by decide) (by decide), e 150 (by decide) (by decide)]; exact ⟨rfl, rfl⟩) (fun i _ => by rw [e 153 (by decide) (by decide), e 154 (by decide) (by decide), e 155 (by decide) (by decide)]; exact ⟨rfl, rfl, rfl⟩), by rw [e7]; exact a4, ?_, by rw [e 165 (by decide) (by decide)]; exact a6, ?_, ?_, by rw [e7]; exact a9, by rw [e 177 (by decide) (by decide)]; exact a10⟩
  · unfold Sx
    rw [e7, e 161 (by decide) (by decide), e 162 (by decide) (by decide), e 163 (by decide) (by decide), e 164 (by decide) (by decide)]
    exact a5
  · unfold Pm
    rw [e7, e 169 (by decide) (by decide)]
    exact a7
  · unfold Sm
    rw [e7, e 173 (by decide) (by decide), e 174 (by decide) (by decide), e 175 (by decide) (by decide)]
    exact a8
/-- the reference's part behind a question of its own -/
theorem JR_Q (j : JR M T n t lws h R ln G sn sc sa sd im N) (q : Qm M M') : JR M' T n t lws h R ln G sn sc sa sd im N := by
  obtain ⟨a1, a2, a3, a4, a5, a6, a7, a8, a9, a10⟩ := j
  have e : ∀ c, c ≠ 147 → c ∉ SMc → M' c = M c := fun c a b => q.1 c b a
  refine ⟨⟨by rw [q.2 2 (by decide)]; exact a1.1, a1.2.1, by rw [e 148 (by decide) (by decide)]; exact a1.2.2⟩, by rw [q.2 13 (by decide)]; exact a2, fun k hk => LRm_fr (a3 k hk) (by rw [e 152 (by decide) (by decide)]) (fun i _ => by rw [e 149 (by decide) (by decide), e 150 (by decide) (by decide)]; exact ⟨rfl, rfl⟩) (fun i _ => by rw [e 153 (by decide) (by decide), e 154 (by decide) (by decide), e 155 (by decide) (by decide)]; exact ⟨rfl, rfl, rfl⟩), by rw [q.2 30 (by decide)]; exact a4, ?_, by rw [e 165 (by decide) (by decide)]; exact a6, ?_, ?_, by rw [q.2 49 (by decide)]; exact a9, by rw [e 177 (by decide) (by decide)]; exact a10⟩
  · unfold Sx
    rw [q.2 26 (by decide), q.2 27 (by decide), q.2 28 (by decide), e 161 (by decide) (by decide), e 162 (by decide) (by decide), e 163 (by decide) (by decide), e 164 (by decide) (by decide)]
    exact a5
  · unfold Pm
    rw [q.2 36 (by decide), e 169 (by decide) (by decide)]
    exact a7
  · unfold Sm
    rw [q.2 46 (by decide), e 173 (by decide) (by decide), e 174 (by decide) (by decide), e 175 (by decide) (by decide)]
    exact a8
theorem Ev_J (hR : Rf M) (j : JC M T n t lws h R nx ln H sn sc sa sd im I) (p : JP t lws h R ln H G im I N) : Ev M (Lh lws h) R := by
  obtain ⟨a1, a2, a3, a4, a5, a6, a7, a8, a9, a10, a11⟩ := j
  obtain ⟨p1, p2, p3, p4, p5, p6, p7⟩ := p
  refine ⟨hR, a1, a2, p4.1, ?_⟩
  unfold Lh
  by_cases g : h = -1
  · rw [if_pos g]; show M 0 5 = -1; rw [a6]; exact g
  · rw [if_neg g]
    exact ⟨h.toNat, by omega, by rw [a6]; omega, LawOk_of (by omega) (a5 _ (by omega)) (p2 _ (by omega))⟩
theorem Em_J (hR : Rf M) (j : JR M T n t lws h R ln G sn sc sa sd im N) (p : JP t lws h R ln H G im I N) : Em M (Lh lws h) R := by
  obtain ⟨a1, a2, a3, a4, a5, a6, a7, a8, a9, a10⟩ := j
  obtain ⟨p1, p2, p3, p4, p5, p6, p7⟩ := p
  refine ⟨hR, (Mm_of a5 a6).1, p4.1, ?_⟩
  unfold Lh
  by_cases g : h = -1
  · rw [if_pos g]; show M 147 30 = -1; rw [a4]; exact g
  · rw [if_neg g]
    exact ⟨h.toNat, by omega, by rw [a4]; omega, LawOm_of (by omega) (a3 _ (by omega)) (p2 _ (by omega))⟩
theorem QMS_lt : ∀ c ∈ QMS, c < 147 := by decide +kernel
theorem SMc_r : ∀ c ∈ SMc, 147 < c ∧ c < 178 := by decide +kernel
theorem Qu_e (q : Qu M M') : ∀ c, 147 ≤ c → M' c = M c := fun c hc => q.1 c (fun h => by have := QMS_lt c h; omega)
theorem Qm_e (q : Qm M M') : ∀ c, (c < 147 ∨ 178 ≤ c) → M' c = M c := fun c hc => q.1 c (fun h => by have := SMc_r c h; omega) (by omega)
/-- behind a question to both -/
theorem JJ_Q {M1 M2 : pz_M} (hR : Rf M) (jc : JC M T n t lws h R nx ln H sn sc sa sd im I) (jr : JR M T n t lws h R ln G sn sc sa sd im N) (jp : JP t lws h R ln H G im I N) (q1 : Qu M M1) (q2 : Qm M1 M2) : JJ M2 ∧ Ou M M2 := by
  have j1 := JC_c jc jp.1 q1.2.2 (fun c a _ => q1.1 c a)
  have j2 := JC_c j1 jp.1 (by
    have z := q1.2.2
    unfold Z0
    rw [Qm_e q2 106 (by decide), Qm_e q2 121 (by decide)]
    exact z) (fun c _ b => Qm_e q2 c b)
  have r1 := JR_c jr (fun c a _ => Qu_e q1 c a)
  exact ⟨⟨Rf_Qm q1.2.1 q2, T, n, t, lws, h, R, nx, ln, H, G, sn, sc, sa, sd, im, I, N, j2, JR_Q r1 q2, jp⟩, fun c hc => (Qm_e q2 c (by omega)).trans (Qu_e q1 c (by omega))⟩
end P94
