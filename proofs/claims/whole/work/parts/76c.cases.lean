/-! The law's cases: what holds before a call holds after it. -/
def pqI (fu : Nat) (x : XT) (w : MT) : Prop := pqLadT x.2.1 w.2.1 ∧ pqSaved x.1.1 x.2.2.2.2.2.2.2.2.2 w.2.2.2.2.1 w.2.2.2.1 ∧ pqTxt x.1.2.1 x.2.2.2.1 w.2.2.2.2.2.2.1 w.2.2.2.2.2.1 ∧ (x.1.2.2.1 = 0 ∨ x.1.2.2.1 = 1 ∧ pqRA fu w.2.1 x.2.2.2.2.2.2.1) ∧ (x.1.2.2.2 = 0 ∨ x.1.2.2.2 = 1 ∧ pqCA fu w.2.1 x.2.2.2.2.2.2.2.1)
theorem pq_zwl {out : Nat → Int64} {v : Int64} : zwl out 1 (0 : Int32) v = some (vp_updL out 0 v) := rfl
theorem pq_zrl {out : Nat → Int64} {v : Int64} : zrl (vp_updL out 0 v) 1 (0 : Int32) = some v := rfl
theorem pq_lgs {v : Int64} : lg_cmp v v = 0 := by simp only [lg_cmp_eq]
theorem pq_xs {xs : Nat → Int32} {L it k : Nat} (hL : 4 * it + 4 ≤ L) (h2 : L ≤ 2048) (hk : k < 4) : zrd xs L (nI (4 * it) + nI k) = some (xs (4 * it + k)) := by
  rw [nI_add, pq_rd (by omega) (by omega)]
theorem pq_I1 : nI 1 = (1 : Int32) := rfl
theorem pq_I2 : nI 2 = (2 : Int32) := rfl
theorem pq_I3 : nI 3 = (3 : Int32) := rfl
theorem pq_20 : ¬ (2 : Int32) = 0 := by decide
theorem pq_30 : ¬ (3 : Int32) = 0 := by decide
theorem pq_N10 : ¬ (1 : Nat) = 0 := by decide
theorem pq_N20 : ¬ (2 : Nat) = 0 := by decide
theorem pq_N30 : ¬ (3 : Nat) = 0 := by decide
theorem pq_N21 : ¬ (2 : Nat) = 1 := by decide
theorem pq_N13 : ¬ (1 : Nat) = 3 := by decide
theorem pq_N23 : ¬ (2 : Nat) = 3 := by decide
theorem pq_c0 {fu it L : Nat} {xs : Nat → Int32} {rec : Int32 → XT → MT → (Nat → Int64) → Option Int32} {x : XT} {w : MT} (hL : 4 * it + 4 ≤ L) (h2 : L ≤ 2048) (hf : 4096 ≤ fu) (hI : pqI fu x w) (hrec : ∀ x2 w2 o2, pqI fu x2 w2 → rec (nI (4 * it) + (4 : Int32)) x2 w2 o2 = some 1) (out : Nat → Int64) : F_law_c0 fu xs L rec x w out (nI (4 * it)) = some 1 := by
  have x1 : zrd xs L (nI (4 * it) + (1 : Int32)) = _ := pq_xs (k := 1) hL h2 (by decide)
  have x2 : zrd xs L (nI (4 * it) + (2 : Int32)) = _ := pq_xs (k := 2) hL h2 (by decide)
  obtain ⟨⟨sc, len, rk, ck⟩, ⟨nn, br, cl, op, pu, dr, cg, inp, mot, tk, ch⟩, tr, sg, rd, wy, ra, ca, sv⟩ := x
  obtain ⟨thr, s, th, past, sd, tx, rl, m⟩ := w
  obtain ⟨⟨n, b, hn, hl⟩, hS, hT, hk, hc⟩ := hI
  simp only at hn hl hS hT hk hc
  obtain rfl := hn
  rcases pq_add (fu := fu) (rk := rk) (ck := ck) (th := thr) (p0 := xs (4 * it + 1)) (p1 := xs (4 * it + 2)) hl hS hf with ⟨e, he, k1, k2⟩ | ⟨v, sc2, n2, br2, pu2, dr2, cg2, sv2, s2, past2, k1, k2, k3, k4⟩
  · rcases he with rfl | rfl
    · simp only [F_law_c0, F_L_add, x1, x2, k1, k2, Option.bind_some, F_X4_thrown, ↓reduceIte, pq_zwl, pq_zrl, pq_lgs, pq_I1, pq_I2, pq_10, pq_20, pq_N10, pq_N20, pq_N21]
      exact hrec _ _ _ ⟨⟨n, b, rfl, hl⟩, hS, hT, hk, hc⟩
    · simp only [F_law_c0, F_L_add, x1, x2, k1, k2, Option.bind_some, F_X4_thrown, ↓reduceIte, pq_zwl, pq_zrl, pq_lgs, pq_I1, pq_I2, pq_10, pq_20, pq_N10, pq_N20, pq_N21]
      exact hrec _ _ _ ⟨⟨n, b, rfl, hl⟩, hS, hT, hk, hc⟩
  · simp only [F_law_c0, F_L_add, x1, x2, k1, k2, Option.bind_some, F_X4_thrown, ↓reduceIte, pq_zwl, pq_zrl, pq_lgs]
    exact hrec _ _ _ ⟨k3, k4, hT, Or.inl rfl, Or.inl rfl⟩
