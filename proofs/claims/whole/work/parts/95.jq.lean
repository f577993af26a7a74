/-! BOTH TOGETHER: questions -/
section P95
variable {d : Nat} {ss : List (Nat × Nat)} {dd : Nat} {M : pz_M}
theorem w_mood (hJ : JJ M) {c a e g : Int} : ∃ v M1 M2, pz_cal (d + 40) 107 [(2, 0), (0, c), (0, a), (0, e), (0, g)] ((pz_SH, ss, 0, 0, dd), M) = some (some (0, v), ((pz_SH, ss, 0, 0, dd), M1)) ∧ pz_cal (d + 40) 223 [(2, 147), (0, c), (0, a), (0, e), (0, g)] ((pz_SH, ss, 0, 0, dd), M1) = some (some (0, v), ((pz_SH, ss, 0, 0, dd), M2)) ∧ Ou M M1 ∧ JJ M2 ∧ Ou M M2 := by
  obtain ⟨hR, T, n, t, lws, h, R, nx, ln, H, G, sn, sc, sa, sd, im, I, N, jc, jr, jp⟩ := hJ
  obtain ⟨M1, t1, q1⟩ := c_CC_mood (d := d + 36) (ss := ss) (dd := dd) (Ev_J hR jc jp)
  have r1 := JR_c jr (fun c a _ => Qu_e q1 c a)
  obtain ⟨M2, t2, q2⟩ := m_mood (d := d + 34) (ss := ss) (dd := dd) (Em_J q1.2.1 r1 jp)
  exact ⟨_, M1, M2, t1, t2, fun c hc => Qu_e q1 c (by omega), JJ_Q hR jc jr jp q1 q2⟩
theorem w_odds (hJ : JJ M) {c a e g : Int} : ∃ v M1 M2, pz_cal (d + 40) 113 [(2, 0), (0, c), (0, a), (0, e), (0, g)] ((pz_SH, ss, 0, 0, dd), M) = some (some (0, v), ((pz_SH, ss, 0, 0, dd), M1)) ∧ pz_cal (d + 40) 232 [(2, 147), (0, c), (0, a), (0, e), (0, g)] ((pz_SH, ss, 0, 0, dd), M1) = some (some (0, v), ((pz_SH, ss, 0, 0, dd), M2)) ∧ Ou M M1 ∧ JJ M2 ∧ Ou M M2 := by
  obtain ⟨hR, T, n, t, lws, h, R, nx, ln, H, G, sn, sc, sa, sd, im, I, N, jc, jr, jp⟩ := hJ
  obtain ⟨M1, t1, q1⟩ := c_CC_odds (d := d + 34) (ss := ss) (dd := dd) (Ev_J hR jc jp)
  have r1 := JR_c jr (fun c a _ => Qu_e q1 c a)
  obtain ⟨M2, t2, q2⟩ := m_odds (d := d + 32) (ss := ss) (dd := dd) (Em_J q1.2.1 r1 jp)
  exact ⟨_, M1, M2, t1, t2, fun c hc => Qu_e q1 c (by omega), JJ_Q hR jc jr jp q1 q2⟩
theorem w_held (hJ : JJ M) {s a g : Int} (hs : I32 s) : ∃ v M1 M2, pz_cal (d + 40) 114 [(2, 0), (0, s), (0, a), (0, g)] ((pz_SH, ss, 0, 0, dd), M) = some (some (0, v), ((pz_SH, ss, 0, 0, dd), M1)) ∧ pz_cal (d + 40) 235 [(2, 147), (0, s), (0, a), (0, g)] ((pz_SH, ss, 0, 0, dd), M1) = some (some (0, v), ((pz_SH, ss, 0, 0, dd), M2)) ∧ Ou M M1 ∧ JJ M2 ∧ Ou M M2 := by
  obtain ⟨hR, T, n, t, lws, h, R, nx, ln, H, G, sn, sc, sa, sd, im, I, N, jc, jr, jp⟩ := hJ
  obtain ⟨M1, t1, q1⟩ := c_CC_held (d := d + 33) (ss := ss) (dd := dd) (Ev_J hR jc jp) hs
  have r1 := JR_c jr (fun c a _ => Qu_e q1 c a)
  obtain ⟨M2, t2, q2⟩ := m_held (d := d + 31) (ss := ss) (dd := dd) (Em_J q1.2.1 r1 jp) hs
  exact ⟨_, M1, M2, t1, t2, fun c hc => Qu_e q1 c (by omega), JJ_Q hR jc jr jp q1 q2⟩
theorem w_right (hJ : JJ M) {s a : Int} (hs : I32 s) : ∃ v M1 M2, pz_cal (d + 40) 117 [(2, 0), (0, s), (0, a)] ((pz_SH, ss, 0, 0, dd), M) = some (some (0, v), ((pz_SH, ss, 0, 0, dd), M1)) ∧ pz_cal (d + 40) 242 [(2, 147), (0, s), (0, a)] ((pz_SH, ss, 0, 0, dd), M1) = some (some (0, v), ((pz_SH, ss, 0, 0, dd), M2)) ∧ Ou M M1 ∧ JJ M2 ∧ Ou M M2 := by
  obtain ⟨hR, T, n, t, lws, h, R, nx, ln, H, G, sn, sc, sa, sd, im, I, N, jc, jr, jp⟩ := hJ
  obtain ⟨M1, t1, q1⟩ := c_CC_right (d := d + 33) (ss := ss) (dd := dd) (Ev_J hR jc jp) hs
  have r1 := JR_c jr (fun c a _ => Qu_e q1 c a)
  obtain ⟨M2, t2, q2⟩ := m_right (d := d + 30) (ss := ss) (dd := dd) (Em_J q1.2.1 r1 jp) hs
  exact ⟨_, M1, M2, t1, t2, fun c hc => Qu_e q1 c (by omega), JJ_Q hR jc jr jp q1 q2⟩
theorem w_mean (hJ : JJ M) {s a g : Int} (hs : I32 s) : ∃ v M1 M2, pz_cal (d + 40) 120 [(2, 0), (0, s), (0, a), (0, g)] ((pz_SH, ss, 0, 0, dd), M) = some (some (0, v), ((pz_SH, ss, 0, 0, dd), M1)) ∧ pz_cal (d + 40) 272 [(2, 147), (0, s), (0, a), (0, g)] ((pz_SH, ss, 0, 0, dd), M1) = some (some (0, v), ((pz_SH, ss, 0, 0, dd), M2)) ∧ Ou M M1 ∧ JJ M2 ∧ Ou M M2 := by
  obtain ⟨hR, T, n, t, lws, h, R, nx, ln, H, G, sn, sc, sa, sd, im, I, N, jc, jr, jp⟩ := hJ
  obtain ⟨M1, t1, q1⟩ := c_CC_mean (d := d + 33) (ss := ss) (dd := dd) (Ev_J hR jc jp) hs
  have r1 := JR_c jr (fun c a _ => Qu_e q1 c a)
  obtain ⟨M2, t2, q2⟩ := m_mean (d := d + 32) (ss := ss) (dd := dd) (Em_J q1.2.1 r1 jp) hs
  exact ⟨_, M1, M2, t1, t2, fun c hc => Qu_e q1 c (by omega), JJ_Q hR jc jr jp q1 q2⟩
theorem w_likely (hJ : JJ M) {c a g : Int} : ∃ v M1 M2, pz_cal (d + 40) 121 [(2, 0), (0, c), (0, a), (0, g)] ((pz_SH, ss, 0, 0, dd), M) = some (some (0, v), ((pz_SH, ss, 0, 0, dd), M1)) ∧ pz_cal (d + 40) 273 [(2, 147), (0, c), (0, a), (0, g)] ((pz_SH, ss, 0, 0, dd), M1) = some (some (0, v), ((pz_SH, ss, 0, 0, dd), M2)) ∧ Ou M M1 ∧ JJ M2 ∧ Ou M M2 := by
  obtain ⟨hR, T, n, t, lws, h, R, nx, ln, H, G, sn, sc, sa, sd, im, I, N, jc, jr, jp⟩ := hJ
  obtain ⟨M1, t1, q1⟩ := c_CC_likely (d := d + 35) (ss := ss) (dd := dd) (Ev_J hR jc jp)
  have r1 := JR_c jr (fun c a _ => Qu_e q1 c a)
  obtain ⟨M2, t2, q2⟩ := m_likely (d := d + 33) (ss := ss) (dd := dd) (Em_J q1.2.1 r1 jp)
  exact ⟨_, M1, M2, t1, t2, fun c hc => Qu_e q1 c (by omega), JJ_Q hR jc jr jp q1 q2⟩
theorem w_quiet (hJ : JJ M) {s a g : Int} (hs : I32 s) : ∃ v M1 M2, pz_cal (d + 40) 122 [(2, 0), (0, s), (0, a), (0, g)] ((pz_SH, ss, 0, 0, dd), M) = some (some (0, v), ((pz_SH, ss, 0, 0, dd), M1)) ∧ pz_cal (d + 40) 275 [(2, 147), (0, s), (0, a), (0, g)] ((pz_SH, ss, 0, 0, dd), M1) = some (some (0, v), ((pz_SH, ss, 0, 0, dd), M2)) ∧ Ou M M1 ∧ JJ M2 ∧ Ou M M2 := by
  obtain ⟨hR, T, n, t, lws, h, R, nx, ln, H, G, sn, sc, sa, sd, im, I, N, jc, jr, jp⟩ := hJ
  obtain ⟨M1, t1, q1⟩ := c_CC_quiet (d := d + 34) (ss := ss) (dd := dd) (Ev_J hR jc jp) hs
  have r1 := JR_c jr (fun c a _ => Qu_e q1 c a)
  obtain ⟨M2, t2, q2⟩ := m_quiet (d := d + 32) (ss := ss) (dd := dd) (Em_J q1.2.1 r1 jp) hs
  exact ⟨_, M1, M2, t1, t2, fun c hc => Qu_e q1 c (by omega), JJ_Q hR jc jr jp q1 q2⟩
theorem w_surely (hJ : JJ M) {c a : Int} : ∃ v M1 M2, pz_cal (d + 40) 124 [(2, 0), (0, c), (0, a)] ((pz_SH, ss, 0, 0, dd), M) = some (some (0, v), ((pz_SH, ss, 0, 0, dd), M1)) ∧ pz_cal (d + 40) 270 [(2, 147), (0, c), (0, a)] ((pz_SH, ss, 0, 0, dd), M1) = some (some (0, v), ((pz_SH, ss, 0, 0, dd), M2)) ∧ Ou M M1 ∧ JJ M2 ∧ Ou M M2 := by
  obtain ⟨hR, T, n, t, lws, h, R, nx, ln, H, G, sn, sc, sa, sd, im, I, N, jc, jr, jp⟩ := hJ
  obtain ⟨M1, t1, q1⟩ := c_CC_surely (d := d + 34) (ss := ss) (dd := dd) (Ev_J hR jc jp)
  have r1 := JR_c jr (fun c a _ => Qu_e q1 c a)
  obtain ⟨M2, t2, q2⟩ := m_surely (d := d + 32) (ss := ss) (dd := dd) (Em_J q1.2.1 r1 jp)
  exact ⟨_, M1, M2, t1, t2, fun c hc => Qu_e q1 c (by omega), JJ_Q hR jc jr jp q1 q2⟩
theorem w_alike (hJ : JJ M) {c a x y : Int} : ∃ v M1 M2, pz_cal (d + 40) 127 [(2, 0), (0, c), (0, a), (0, x), (0, y)] ((pz_SH, ss, 0, 0, dd), M) = some (some (0, v), ((pz_SH, ss, 0, 0, dd), M1)) ∧ pz_cal (d + 40) 266 [(2, 147), (0, c), (0, a), (0, x), (0, y)] ((pz_SH, ss, 0, 0, dd), M1) = some (some (0, v), ((pz_SH, ss, 0, 0, dd), M2)) ∧ Ou M M1 ∧ JJ M2 ∧ Ou M M2 := by
  obtain ⟨hR, T, n, t, lws, h, R, nx, ln, H, G, sn, sc, sa, sd, im, I, N, jc, jr, jp⟩ := hJ
  obtain ⟨M1, t1, q1⟩ := c_CC_alike (d := d + 34) (ss := ss) (dd := dd) (Ev_J hR jc jp)
  have r1 := JR_c jr (fun c a _ => Qu_e q1 c a)
  obtain ⟨M2, t2, q2⟩ := m_alike (d := d + 33) (ss := ss) (dd := dd) (Em_J q1.2.1 r1 jp)
  exact ⟨_, M1, M2, t1, t2, fun c hc => Qu_e q1 c (by omega), JJ_Q hR jc jr jp q1 q2⟩
theorem w_noisy (hJ : JJ M) {a w : Int} : ∃ v M1 M2, pz_cal (d + 40) 125 [(2, 0), (0, a), (0, w)] ((pz_SH, ss, 0, 0, dd), M) = some (some (0, v), ((pz_SH, ss, 0, 0, dd), M1)) ∧ pz_cal (d + 40) 271 [(2, 147), (0, a), (0, w)] ((pz_SH, ss, 0, 0, dd), M1) = some (some (0, v), ((pz_SH, ss, 0, 0, dd), M2)) ∧ Ou M M1 ∧ JJ M2 ∧ Ou M M2 := by
  obtain ⟨hR, T, n, t, lws, h, R, nx, ln, H, G, sn, sc, sa, sd, im, I, N, jc, jr, jp⟩ := hJ
  obtain ⟨M1, t1, q1⟩ := c_CC_noisy (d := d + 33) (ss := ss) (dd := dd) (Ev_J hR jc jp)
  have r1 := JR_c jr (fun c a _ => Qu_e q1 c a)
  obtain ⟨M2, t2, q2⟩ := m_noisy (d := d + 32) (ss := ss) (dd := dd) (Em_J q1.2.1 r1 jp)
  exact ⟨_, M1, M2, t1, t2, fun c hc => Qu_e q1 c (by omega), JJ_Q hR jc jr jp q1 q2⟩
theorem w_bar (hJ : JJ M) {s a w : Int} (hs : I32 s) : ∃ v M1 M2, pz_cal (d + 40) 151 [(2, 0), (0, s), (0, a), (0, w)] ((pz_SH, ss, 0, 0, dd), M) = some (some (0, v), ((pz_SH, ss, 0, 0, dd), M1)) ∧ pz_cal (d + 40) 276 [(2, 147), (0, s), (0, a), (0, w)] ((pz_SH, ss, 0, 0, dd), M1) = some (some (0, v), ((pz_SH, ss, 0, 0, dd), M2)) ∧ Ou M M1 ∧ JJ M2 ∧ Ou M M2 := by
  obtain ⟨hR, T, n, t, lws, h, R, nx, ln, H, G, sn, sc, sa, sd, im, I, N, jc, jr, jp⟩ := hJ
  obtain ⟨M1, t1, q1⟩ := c_CC_bar (d := d + 33) (ss := ss) (dd := dd) (Ev_J hR jc jp) hs
  have r1 := JR_c jr (fun c a _ => Qu_e q1 c a)
  obtain ⟨M2, t2, q2⟩ := m_bar (d := d + 32) (ss := ss) (dd := dd) (Em_J q1.2.1 r1 jp) hs
  exact ⟨_, M1, M2, t1, t2, fun c hc => Qu_e q1 c (by omega), JJ_Q hR jc jr jp q1 q2⟩
theorem w_spare (hJ : JJ M) {a w : Int} : ∃ v M1 M2, pz_cal (d + 40) 150 [(2, 0), (0, a), (0, w)] ((pz_SH, ss, 0, 0, dd), M) = some (some (0, v), ((pz_SH, ss, 0, 0, dd), M1)) ∧ pz_cal (d + 40) 261 [(2, 147), (0, a), (0, w)] ((pz_SH, ss, 0, 0, dd), M1) = some (some (0, v), ((pz_SH, ss, 0, 0, dd), M2)) ∧ Ou M M1 ∧ JJ M2 ∧ Ou M M2 := by
  obtain ⟨hR, T, n, t, lws, h, R, nx, ln, H, G, sn, sc, sa, sd, im, I, N, jc, jr, jp⟩ := hJ
  obtain ⟨M1, t1, q1⟩ := c_CC_spare (d := d + 33) (ss := ss) (dd := dd) (Ev_J hR jc jp)
  have r1 := JR_c jr (fun c a _ => Qu_e q1 c a)
  obtain ⟨M2, t2, q2⟩ := m_spare (d := d + 30) (ss := ss) (dd := dd) (Em_J q1.2.1 r1 jp)
  exact ⟨_, M1, M2, t1, t2, fun c hc => Qu_e q1 c (by omega), JJ_Q hR jc jr jp q1 q2⟩
theorem w_brothers (hJ : JJ M) {s a x : Int} (hs : I32 s) : ∃ v M1 M2, pz_cal (d + 40) 160 [(2, 0), (0, s), (0, a), (0, x)] ((pz_SH, ss, 0, 0, dd), M) = some (some (0, v), ((pz_SH, ss, 0, 0, dd), M1)) ∧ pz_cal (d + 40) 278 [(2, 147), (0, s), (0, a), (0, x)] ((pz_SH, ss, 0, 0, dd), M1) = some (some (0, v), ((pz_SH, ss, 0, 0, dd), M2)) ∧ Ou M M1 ∧ JJ M2 ∧ Ou M M2 := by
  obtain ⟨hR, T, n, t, lws, h, R, nx, ln, H, G, sn, sc, sa, sd, im, I, N, jc, jr, jp⟩ := hJ
  obtain ⟨M1, t1, q1⟩ := c_CC_brothers (d := d + 32) (ss := ss) (dd := dd) (Ev_J hR jc jp) hs
  have r1 := JR_c jr (fun c a _ => Qu_e q1 c a)
  obtain ⟨M2, t2, q2⟩ := m_brothers (d := d + 30) (ss := ss) (dd := dd) (Em_J q1.2.1 r1 jp) hs
  exact ⟨_, M1, M2, t1, t2, fun c hc => Qu_e q1 c (by omega), JJ_Q hR jc jr jp q1 q2⟩
theorem w_free (hJ : JJ M) {s : Int} (hs : I32 s) : ∃ v M1 M2, pz_cal (d + 40) 162 [(2, 0), (0, s)] ((pz_SH, ss, 0, 0, dd), M) = some (some (0, v), ((pz_SH, ss, 0, 0, dd), M1)) ∧ pz_cal (d + 40) 291 [(2, 147), (0, s)] ((pz_SH, ss, 0, 0, dd), M1) = some (some (0, v), ((pz_SH, ss, 0, 0, dd), M2)) ∧ Ou M M1 ∧ JJ M2 ∧ Ou M M2 := by
  obtain ⟨hR, T, n, t, lws, h, R, nx, ln, H, G, sn, sc, sa, sd, im, I, N, jc, jr, jp⟩ := hJ
  obtain ⟨M1, t1, q1⟩ := c_CC_free (d := d + 32) (ss := ss) (dd := dd) (Ev_J hR jc jp) hs
  have r1 := JR_c jr (fun c a _ => Qu_e q1 c a)
  obtain ⟨M2, t2, q2⟩ := m_free (d := d + 30) (ss := ss) (dd := dd) (Em_J q1.2.1 r1 jp) hs
  exact ⟨_, M1, M2, t1, t2, fun c hc => Qu_e q1 c (by omega), JJ_Q hR jc jr jp q1 q2⟩
theorem w_moonlit (hJ : JJ M) {s a w : Int} (hs : I32 s) : ∃ v M1 M2, pz_cal (d + 40) 152 [(2, 0), (0, s), (0, a), (0, w)] ((pz_SH, ss, 0, 0, dd), M) = some (some (0, v), ((pz_SH, ss, 0, 0, dd), M1)) ∧ pz_cal (d + 40) 277 [(2, 147), (0, s), (0, a), (0, w)] ((pz_SH, ss, 0, 0, dd), M1) = some (some (0, v), ((pz_SH, ss, 0, 0, dd), M2)) ∧ Ou M M1 ∧ JJ M2 ∧ Ou M M2 := by
  obtain ⟨hR, T, n, t, lws, h, R, nx, ln, H, G, sn, sc, sa, sd, im, I, N, jc, jr, jp⟩ := hJ
  obtain ⟨M1, t1, q1⟩ := c_CC_moonlit (d := d + 32) (ss := ss) (dd := dd) (Ev_J hR jc jp) hs
  have r1 := JR_c jr (fun c a _ => Qu_e q1 c a)
  obtain ⟨M2, t2, q2⟩ := m_moonlit (d := d + 30) (ss := ss) (dd := dd) (Em_J q1.2.1 r1 jp) hs
  exact ⟨_, M1, M2, t1, t2, fun c hc => Qu_e q1 c (by omega), JJ_Q hR jc jr jp q1 q2⟩
theorem w_appeals (hJ : JJ M) {s a k : Int} (hs : I32 s) : ∃ v M1 M2, pz_cal (d + 40) 159 [(2, 0), (0, s), (0, a), (0, k)] ((pz_SH, ss, 0, 0, dd), M) = some (some (0, v), ((pz_SH, ss, 0, 0, dd), M1)) ∧ pz_cal (d + 40) 265 [(2, 147), (0, s), (0, a), (0, k)] ((pz_SH, ss, 0, 0, dd), M1) = some (some (0, v), ((pz_SH, ss, 0, 0, dd), M2)) ∧ Ou M M1 ∧ JJ M2 ∧ Ou M M2 := by
  obtain ⟨hR, T, n, t, lws, h, R, nx, ln, H, G, sn, sc, sa, sd, im, I, N, jc, jr, jp⟩ := hJ
  obtain ⟨M1, t1, q1⟩ := c_CC_appeals (d := d + 33) (ss := ss) (dd := dd) (Ev_J hR jc jp) hs
  have r1 := JR_c jr (fun c a _ => Qu_e q1 c a)
  obtain ⟨M2, t2, q2⟩ := m_appeals (d := d + 31) (ss := ss) (dd := dd) (Em_J q1.2.1 r1 jp) hs
  exact ⟨_, M1, M2, t1, t2, fun c hc => Qu_e q1 c (by omega), JJ_Q hR jc jr jp q1 q2⟩
theorem w_rests (hJ : JJ M) {a i : Int} : ∃ v M1 M2, pz_cal (d + 40) 163 [(2, 0), (0, a), (0, i)] ((pz_SH, ss, 0, 0, dd), M) = some (some (0, v), ((pz_SH, ss, 0, 0, dd), M1)) ∧ pz_cal (d + 40) 267 [(2, 147), (0, a), (0, i)] ((pz_SH, ss, 0, 0, dd), M1) = some (some (0, v), ((pz_SH, ss, 0, 0, dd), M2)) ∧ Ou M M1 ∧ JJ M2 ∧ Ou M M2 := by
  obtain ⟨hR, T, n, t, lws, h, R, nx, ln, H, G, sn, sc, sa, sd, im, I, N, jc, jr, jp⟩ := hJ
  obtain ⟨M1, t1, q1⟩ := c_CC_rests (d := d + 32) (ss := ss) (dd := dd) (Ev_J hR jc jp)
  have r1 := JR_c jr (fun c a _ => Qu_e q1 c a)
  obtain ⟨M2, t2, q2⟩ := m_rests (d := d + 29) (ss := ss) (dd := dd) (Em_J q1.2.1 r1 jp)
  exact ⟨_, M1, M2, t1, t2, fun c hc => Qu_e q1 c (by omega), JJ_Q hR jc jr jp q1 q2⟩
theorem w_ask (hJ : JJ M) {x a w : Int} : ∃ v M1 M2, pz_cal (d + 40) 146 [(2, 0), (0, x), (0, a), (0, w)] ((pz_SH, ss, 0, 0, dd), M) = some (some (0, v), ((pz_SH, ss, 0, 0, dd), M1)) ∧ pz_cal (d + 40) 259 [(2, 147), (0, x), (0, a), (0, w)] ((pz_SH, ss, 0, 0, dd), M1) = some (some (0, v), ((pz_SH, ss, 0, 0, dd), M2)) ∧ Ou M M1 ∧ JJ M2 ∧ Ou M M2 := by
  obtain ⟨hR, T, n, t, lws, h, R, nx, ln, H, G, sn, sc, sa, sd, im, I, N, jc, jr, jp⟩ := hJ
  obtain ⟨M1, t1, q1⟩ := c_CC_ask (d := d + 33) (ss := ss) (dd := dd) (Ev_J hR jc jp)
  have r1 := JR_c jr (fun c a _ => Qu_e q1 c a)
  obtain ⟨M2, t2, q2⟩ := m_ask (d := d + 30) (ss := ss) (dd := dd) (Em_J q1.2.1 r1 jp)
  exact ⟨_, M1, M2, t1, t2, fun c hc => Qu_e q1 c (by omega), JJ_Q hR jc jr jp q1 q2⟩
theorem w_three (hJ : JJ M) {a : Int} : ∃ v M1 M2, pz_cal (d + 40) 148 [(2, 0), (0, a)] ((pz_SH, ss, 0, 0, dd), M) = some (some (0, v), ((pz_SH, ss, 0, 0, dd), M1)) ∧ pz_cal (d + 40) 260 [(2, 147), (0, a)] ((pz_SH, ss, 0, 0, dd), M1) = some (some (0, v), ((pz_SH, ss, 0, 0, dd), M2)) ∧ Ou M M1 ∧ JJ M2 ∧ Ou M M2 := by
  obtain ⟨hR, T, n, t, lws, h, R, nx, ln, H, G, sn, sc, sa, sd, im, I, N, jc, jr, jp⟩ := hJ
  obtain ⟨M1, t1, q1⟩ := c_CC_three (d := d + 33) (ss := ss) (dd := dd) (Ev_J hR jc jp)
  have r1 := JR_c jr (fun c a _ => Qu_e q1 c a)
  obtain ⟨M2, t2, q2⟩ := m_three (d := d + 31) (ss := ss) (dd := dd) (Em_J q1.2.1 r1 jp)
  exact ⟨_, M1, M2, t1, t2, fun c hc => Qu_e q1 c (by omega), JJ_Q hR jc jr jp q1 q2⟩
theorem w_mercy (hJ : JJ M) {s a b w : Int} (hs : I32 s) : ∃ v M1 M2, pz_cal (d + 40) 153 [(2, 0), (0, s), (0, a), (0, b), (0, w)] ((pz_SH, ss, 0, 0, dd), M) = some (some (0, v), ((pz_SH, ss, 0, 0, dd), M1)) ∧ pz_cal (d + 40) 263 [(2, 147), (0, s), (0, a), (0, b), (0, w)] ((pz_SH, ss, 0, 0, dd), M1) = some (some (0, v), ((pz_SH, ss, 0, 0, dd), M2)) ∧ Ou M M1 ∧ JJ M2 ∧ Ou M M2 := by
  obtain ⟨hR, T, n, t, lws, h, R, nx, ln, H, G, sn, sc, sa, sd, im, I, N, jc, jr, jp⟩ := hJ
  obtain ⟨M1, t1, q1⟩ := c_CC_mercy (d := d + 33) (ss := ss) (dd := dd) (Ev_J hR jc jp) jp.2.2.2.1.2.1 hs
  have r1 := JR_c jr (fun c a _ => Qu_e q1 c a)
  obtain ⟨M2, t2, q2⟩ := m_mercy (d := d + 31) (ss := ss) (dd := dd) (Em_J q1.2.1 r1 jp) jp.2.2.2.1.2.1 (fun x h8 hx => by rw [((Mm_of r1.2.2.2.2.1 r1.2.2.2.2.2.1).1.2.1 x hx h8).2.1]; have := jp.2.2.2.1.1.1 (7 + 7 * x + 4) (by omega); omega) hs
  exact ⟨_, M1, M2, t1, t2, fun c hc => Qu_e q1 c (by omega), JJ_Q hR jc jr jp q1 q2⟩
theorem w_guess (hJ : JJ M) {a : Int} : ∃ v M1 M2, pz_cal (d + 40) 168 [(2, 0), (0, a)] ((pz_SH, ss, 0, 0, dd), M) = some (some (0, v), ((pz_SH, ss, 0, 0, dd), M1)) ∧ pz_cal (d + 40) 281 [(2, 147), (0, a)] ((pz_SH, ss, 0, 0, dd), M1) = some (some (0, v), ((pz_SH, ss, 0, 0, dd), M2)) ∧ Ou M M1 ∧ JJ M2 ∧ Ou M M2 := by
  obtain ⟨hR, T, n, t, lws, h, R, nx, ln, H, G, sn, sc, sa, sd, im, I, N, jc, jr, jp⟩ := hJ
  obtain ⟨M1, t1, q1⟩ := c_CC_guess (d := d + 33) (ss := ss) (dd := dd) (Ev_J hR jc jp) jc.2.2.2.2.2.2.2.1
  have r1 := JR_c jr (fun c a _ => Qu_e q1 c a)
  obtain ⟨M2, t2, q2⟩ := m_guess (d := d + 31) (ss := ss) (dd := dd) (Em_J q1.2.1 r1 jp) r1.2.2.2.2.2.2.2.1
  exact ⟨_, M1, M2, t1, t2, fun c hc => Qu_e q1 c (by omega), JJ_Q hR jc jr jp q1 q2⟩
theorem w_drank (hJ : JJ M) {i : Int} : ∃ v M1 M2, pz_cal (d + 40) 170 [(2, 0), (0, i)] ((pz_SH, ss, 0, 0, dd), M) = some (some (0, v), ((pz_SH, ss, 0, 0, dd), M1)) ∧ pz_cal (d + 40) 283 [(2, 147), (0, i)] ((pz_SH, ss, 0, 0, dd), M1) = some (some (0, v), ((pz_SH, ss, 0, 0, dd), M2)) ∧ Ou M M1 ∧ JJ M2 ∧ Ou M M2 := by
  obtain ⟨hR, T, n, t, lws, h, R, nx, ln, H, G, sn, sc, sa, sd, im, I, N, jc, jr, jp⟩ := hJ
  obtain ⟨M1, t1, q1⟩ := c_CC_drank (d := d + 32) (ss := ss) (dd := dd) (Ev_J hR jc jp) jc.2.2.2.2.2.2.2.1
  have r1 := JR_c jr (fun c a _ => Qu_e q1 c a)
  obtain ⟨M2, t2, q2⟩ := m_drank (d := d + 30) (ss := ss) (dd := dd) (Em_J q1.2.1 r1 jp) r1.2.2.2.2.2.2.2.1
  exact ⟨_, M1, M2, t1, t2, fun c hc => Qu_e q1 c (by omega), JJ_Q hR jc jr jp q1 q2⟩
theorem w_sure (hJ : JJ M) : ∃ v M1 M2, pz_cal (d + 40) 174 [(2, 0)] ((pz_SH, ss, 0, 0, dd), M) = some (some (0, v), ((pz_SH, ss, 0, 0, dd), M1)) ∧ pz_cal (d + 40) 286 [(2, 147)] ((pz_SH, ss, 0, 0, dd), M1) = some (some (0, v), ((pz_SH, ss, 0, 0, dd), M2)) ∧ Ou M M1 ∧ JJ M2 ∧ Ou M M2 := by
  obtain ⟨hR, T, n, t, lws, h, R, nx, ln, H, G, sn, sc, sa, sd, im, I, N, jc, jr, jp⟩ := hJ
  obtain ⟨M1, t1, q1⟩ := c_CC_sure (d := d + 32) (ss := ss) (dd := dd) (Ev_J hR jc jp) jc.2.2.2.2.2.2.2.1
  have r1 := JR_c jr (fun c a _ => Qu_e q1 c a)
  obtain ⟨M2, t2, q2⟩ := m_sure (d := d + 30) (ss := ss) (dd := dd) (Em_J q1.2.1 r1 jp) r1.2.2.2.2.2.2.2.1
  exact ⟨_, M1, M2, t1, t2, fun c hc => Qu_e q1 c (by omega), JJ_Q hR jc jr jp q1 q2⟩
theorem w_fits (hJ : JJ M) {w : Int} : ∃ v M1 M2, pz_cal (d + 40) 175 [(2, 0), (0, w)] ((pz_SH, ss, 0, 0, dd), M) = some (some (0, v), ((pz_SH, ss, 0, 0, dd), M1)) ∧ pz_cal (d + 40) 287 [(2, 147), (0, w)] ((pz_SH, ss, 0, 0, dd), M1) = some (some (0, v), ((pz_SH, ss, 0, 0, dd), M2)) ∧ Ou M M1 ∧ JJ M2 ∧ Ou M M2 := by
  obtain ⟨hR, T, n, t, lws, h, R, nx, ln, H, G, sn, sc, sa, sd, im, I, N, jc, jr, jp⟩ := hJ
  obtain ⟨M1, t1, q1⟩ := c_CC_fits (d := d + 34) (ss := ss) (dd := dd) (Ev_J hR jc jp) jc.2.2.2.2.2.2.2.1 (LW := fun k => lwv (lws k)) ⟨jc.2.2.2.1, jp.1, fun k hk => LawOk_of (by have := jp.1; omega) (jc.2.2.2.2.1 k hk) (jp.2.1 k hk)⟩
  have r1 := JR_c jr (fun c a _ => Qu_e q1 c a)
  obtain ⟨M2, t2, q2⟩ := m_fits (d := d + 32) (ss := ss) (dd := dd) (Em_J q1.2.1 r1 jp) r1.2.2.2.2.2.2.2.1 (LW := fun k => lwv (lws k)) ⟨r1.2.1, jp.1, fun k hk => LawOm_of (by have := jp.1; omega) (r1.2.2.1 k hk) (jp.2.1 k hk)⟩
  exact ⟨_, M1, M2, t1, t2, fun c hc => Qu_e q1 c (by omega), JJ_Q hR jc jr jp q1 q2⟩
theorem w_often (hJ : JJ M) {c e : Int} : ∃ v M1 M2, pz_cal (d + 40) 143 [(2, 0), (0, c), (0, e)] ((pz_SH, ss, 0, 0, dd), M) = some (some (0, v), ((pz_SH, ss, 0, 0, dd), M1)) ∧ pz_cal (d + 40) 289 [(2, 147), (0, c), (0, e)] ((pz_SH, ss, 0, 0, dd), M1) = some (some (0, v), ((pz_SH, ss, 0, 0, dd), M2)) ∧ Ou M M1 ∧ JJ M2 ∧ Ou M M2 := by
  obtain ⟨hR, T, n, t, lws, h, R, nx, ln, H, G, sn, sc, sa, sd, im, I, N, jc, jr, jp⟩ := id hJ
  exact ⟨_, M, M, c_CC_often (d := d + 37) (ss := ss) (dd := dd) (Ev_J hR jc jp), m_often (d := d + 37) (ss := ss) (dd := dd) (Em_J hR jr jp) (Mm_of jr.2.2.2.2.1 jr.2.2.2.2.2.1).2, Ou_r, hJ, Ou_r⟩
theorem w_harsh (hJ : JJ M) : ∃ v M1 M2, pz_cal (d + 40) 144 [(2, 0)] ((pz_SH, ss, 0, 0, dd), M) = some (some (0, v), ((pz_SH, ss, 0, 0, dd), M1)) ∧ pz_cal (d + 40) 290 [(2, 147)] ((pz_SH, ss, 0, 0, dd), M1) = some (some (0, v), ((pz_SH, ss, 0, 0, dd), M2)) ∧ Ou M M1 ∧ JJ M2 ∧ Ou M M2 := by
  obtain ⟨hR, T, n, t, lws, h, R, nx, ln, H, G, sn, sc, sa, sd, im, I, N, jc, jr, jp⟩ := id hJ
  exact ⟨_, M, M, c_CC_harsh (d := d + 37) (ss := ss) (dd := dd) (Ev_J hR jc jp) jp.2.2.2.1.2.2, m_harsh (d := d + 38) (ss := ss) (dd := dd) (Em_J hR jr jp) (Mm_of jr.2.2.2.2.1 jr.2.2.2.2.2.1).2 jp.2.2.2.1.2.2, Ou_r, hJ, Ou_r⟩
theorem w_log (hJ : JJ M) {i w : Int} : ∃ v M1 M2, pz_cal (d + 40) 138 [(2, 0), (0, i), (0, w)] ((pz_SH, ss, 0, 0, dd), M) = some (some (0, v), ((pz_SH, ss, 0, 0, dd), M1)) ∧ pz_cal (d + 40) 257 [(2, 147), (0, i), (0, w)] ((pz_SH, ss, 0, 0, dd), M1) = some (some (0, v), ((pz_SH, ss, 0, 0, dd), M2)) ∧ Ou M M1 ∧ JJ M2 ∧ Ou M M2 := by
  obtain ⟨hR, T, n, t, lws, h, R, nx, ln, H, G, sn, sc, sa, sd, im, I, N, jc, jr, jp⟩ := id hJ
  exact ⟨_, M, M, c_CC_log (d := d + 37) (ss := ss) (dd := dd) (Ev_J hR jc jp), m_log (d := d + 38) (ss := ss) (dd := dd) (Em_J hR jr jp) (Mm_of jr.2.2.2.2.1 jr.2.2.2.2.2.1).2, Ou_r, hJ, Ou_r⟩
theorem w_bench (hJ : JJ M) {w : Int} : ∃ v M1 M2, pz_cal (d + 40) 103 [(2, 0), (0, w)] ((pz_SH, ss, 0, 0, dd), M) = some (some (0, v), ((pz_SH, ss, 0, 0, dd), M1)) ∧ pz_cal (d + 40) 216 [(2, 147), (0, w)] ((pz_SH, ss, 0, 0, dd), M1) = some (some (0, v), ((pz_SH, ss, 0, 0, dd), M2)) ∧ Ou M M1 ∧ JJ M2 ∧ Ou M M2 := by
  obtain ⟨hR, T, n, t, lws, h, R, nx, ln, H, G, sn, sc, sa, sd, im, I, N, jc, jr, jp⟩ := id hJ
  have e := c_CC_bench (d := d + 38) (ss := ss) (dd := dd) (w := w) hR
  rw [jc.2.1] at e
  have e2 : (if R 141 = 0 ∨ ¬ (0 ≤ w ∧ w < 7) then -1 else R w.toNat) = aBench R w := by
    unfold aBench
    by_cases g : R 141 ≠ 0 ∧ 0 ≤ w ∧ w < 7
    · rw [if_pos g, if_neg (fun h => h.elim g.1 (fun h => h g.2))]
    · rw [if_neg g, if_pos (by omega)]
  rw [e2] at e
  exact ⟨_, M, M, e, m_bench (d := d + 38) (ss := ss) (dd := dd) (Em_J hR jr jp), Ou_r, hJ, Ou_r⟩
theorem w_accused (hJ : JJ M) {a w : Int} : ∃ v M1 M2, pz_cal (d + 40) 104 [(2, 0), (0, a), (0, w)] ((pz_SH, ss, 0, 0, dd), M) = some (some (0, v), ((pz_SH, ss, 0, 0, dd), M1)) ∧ pz_cal (d + 40) 220 [(2, 147), (0, a), (0, w)] ((pz_SH, ss, 0, 0, dd), M1) = some (some (0, v), ((pz_SH, ss, 0, 0, dd), M2)) ∧ Ou M M1 ∧ JJ M2 ∧ Ou M M2 := by
  obtain ⟨hR, T, n, t, lws, h, R, nx, ln, H, G, sn, sc, sa, sd, im, I, N, jc, jr, jp⟩ := id hJ
  have e := c_CC_accused (d := d + 37) (ss := ss) (dd := dd) (c := a) (w := w) hR (by rw [jc.2.1]; exact jp.2.2.2.1.1.2.2.2.2.2.1)
  rw [jc.2.1] at e
  have e2 : (if (0 ≤ a ∧ a < R 142) ∧ 0 ≤ w ∧ w < 3 then R (63 + 3 * a + w).toNat else -1) = aAcc R a w := by
    unfold aAcc
    by_cases g : (0 ≤ a ∧ a < R 142) ∧ 0 ≤ w ∧ w < 3
    · rw [if_pos g, if_pos g]; congr 1; omega
    · rw [if_neg g, if_neg g]
  rw [e2] at e
  exact ⟨_, M, M, e, m_accused (d := d + 37) (ss := ss) (dd := dd) (Em_J hR jr jp), Ou_r, hJ, Ou_r⟩
theorem w_count (hJ : JJ M) {w : Int} : ∃ v M1 M2, pz_cal (d + 40) 106 [(2, 0), (0, w)] ((pz_SH, ss, 0, 0, dd), M) = some (some (0, v), ((pz_SH, ss, 0, 0, dd), M1)) ∧ pz_cal (d + 40) 294 [(2, 147), (0, w)] ((pz_SH, ss, 0, 0, dd), M1) = some (some (0, v), ((pz_SH, ss, 0, 0, dd), M2)) ∧ Ou M M1 ∧ JJ M2 ∧ Ou M M2 := by
  obtain ⟨hR, T, n, t, lws, h, R, nx, ln, H, G, sn, sc, sa, sd, im, I, N, jc, jr, jp⟩ := id hJ
  have e := c_CC_count (d := d + 37) (ss := ss) (dd := dd) (w := w) (Ev_J hR jc jp)
  have e2 := m_count (d := d + 35) (ss := ss) (dd := dd) (w := w) (Em_J hR jr jp) (Mm_of jr.2.2.2.2.1 jr.2.2.2.2.2.1).2
  rw [jc.2.2.2.1, jc.2.2.1.1, jc.2.2.2.2.2.1, jc.2.2.2.2.2.2.2.1.1, jc.2.2.2.2.2.2.1.2.2.1] at e
  rw [jr.2.1, jr.1.1, jr.2.2.2.1, jr.2.2.2.2.2.2.2.1.1, jr.2.2.2.2.2.2.1.1] at e2
  exact ⟨_, M, M, e, e2, Ou_r, hJ, Ou_r⟩
end P95
