theorem pq_c13 {fu it L : Nat} {xs : Nat → Int32} {rec : Int32 → XT → MT → (Nat → Int64) → Option Int32} {x : XT} {w : MT} (hL : 4 * it + 4 ≤ L) (h2 : L ≤ 2048) (hf : 4096 ≤ fu) (hI : pqI fu x w) (hrec : ∀ x2 w2 o2, pqI fu x2 w2 → rec (nI (4 * it) + (4 : Int32)) x2 w2 o2 = some 1) (out : Nat → Int64) : F_law_c13 fu xs L rec x w out (nI (4 * it)) = some 1 := by
  have x1 : zrd xs L (nI (4 * it) + (1 : Int32)) = _ := pq_xs (k := 1) hL h2 (by decide)
  have x2 : zrd xs L (nI (4 * it) + (2 : Int32)) = _ := pq_xs (k := 2) hL h2 (by decide)
  obtain ⟨⟨sc, len, rk, ck⟩, ⟨nn, br, cl, op, pu, dr, cg, inp, mot, tk, ch⟩, tr, sg, rd, wy, ra, ca, sv⟩ := x
  obtain ⟨thr, s, th, past, sd, tx, rl, m⟩ := w
  obtain ⟨⟨n, b, hn, hl⟩, hS, hT, hk, hc⟩ := hI
  simp only at hn hl hS hT hk hc
  obtain rfl := hn
  rcases pq_relay (fu := fu) (th := thr) (p0 := xs (4 * it + 1)) (p1 := xs (4 * it + 2)) hl hf with ⟨e, e2, he, k1, k2⟩ | ⟨v, k1, k2⟩
  · rcases he with ⟨rfl, rfl⟩ | ⟨rfl, rfl⟩
    · simp only [F_law_c13, F_L_relay, x1, x2, k1, k2, Option.bind_some, F_X4_thrown, ↓reduceIte, pq_zwl, pq_zrl, pq_lgs, pq_I1, pq_I2, pq_I3, pq_10, pq_20, pq_30, pq_N10, pq_N20, pq_N30, pq_N21, pq_N13, pq_N23]
      exact hrec _ _ _ ⟨⟨n, b, rfl, hl⟩, hS, hT, hk, hc⟩
    · simp only [F_law_c13, F_L_relay, x1, x2, k1, k2, Option.bind_some, F_X4_thrown, ↓reduceIte, pq_zwl, pq_zrl, pq_lgs, pq_I1, pq_I2, pq_I3, pq_10, pq_20, pq_30, pq_N10, pq_N20, pq_N30, pq_N21, pq_N13, pq_N23]
      exact hrec _ _ _ ⟨⟨n, b, rfl, hl⟩, hS, hT, hk, hc⟩
  · simp only [F_law_c13, F_L_relay, x1, x2, k1, k2, Option.bind_some, F_X4_thrown, ↓reduceIte, pq_zwl, pq_zrl, pq_lgs, pq_I1, pq_I2, pq_I3, pq_10, pq_20, pq_30, pq_N10, pq_N20, pq_N30, pq_N21, pq_N13, pq_N23]
    exact hrec _ _ _ ⟨⟨n, b, rfl, hl⟩, hS, hT, hk, hc⟩
theorem pq_c14 {fu it L : Nat} {xs : Nat → Int32} {rec : Int32 → XT → MT → (Nat → Int64) → Option Int32} {x : XT} {w : MT} (hL : 4 * it + 4 ≤ L) (h2 : L ≤ 2048) (hf : 4096 ≤ fu) (hI : pqI fu x w) (hrec : ∀ x2 w2 o2, pqI fu x2 w2 → rec (nI (4 * it) + (4 : Int32)) x2 w2 o2 = some 1) (out : Nat → Int64) : F_law_c14 fu xs L rec x w out (nI (4 * it)) = some 1 := by
  have x1 : zrd xs L (nI (4 * it) + (1 : Int32)) = _ := pq_xs (k := 1) hL h2 (by decide)
  have x2 : zrd xs L (nI (4 * it) + (2 : Int32)) = _ := pq_xs (k := 2) hL h2 (by decide)
  have x3 : zrd xs L (nI (4 * it) + (3 : Int32)) = _ := pq_xs (k := 3) hL h2 (by decide)
  obtain ⟨⟨sc, len, rk, ck⟩, ⟨nn, br, cl, op, pu, dr, cg, inp, mot, tk, ch⟩, tr, sg, rd, wy, ra, ca, sv⟩ := x
  obtain ⟨thr, s, th, past, sd, tx, rl, m⟩ := w
  obtain ⟨⟨n, b, hn, hl⟩, hS, hT, hk, hc⟩ := hI
  simp only at hn hl hS hT hk hc
  obtain rfl := hn
  rcases pq_contacts (fu := fu) (th := thr) (p0 := xs (4 * it + 1)) (p1 := xs (4 * it + 2)) (p2 := xs (4 * it + 3)) hl hf with ⟨e, e2, he, k1, k2⟩ | ⟨v, k1, k2⟩
  · rcases he with ⟨rfl, rfl⟩ | ⟨rfl, rfl⟩
    · simp only [F_law_c14, F_L_contacts, x1, x2, x3, k1, k2, Option.bind_some, F_X4_thrown, ↓reduceIte, pq_zwl, pq_zrl, pq_lgs, pq_I1, pq_I2, pq_I3, pq_10, pq_20, pq_30, pq_N10, pq_N20, pq_N30, pq_N21, pq_N13, pq_N23]
      exact hrec _ _ _ ⟨⟨n, b, rfl, hl⟩, hS, hT, hk, hc⟩
    · simp only [F_law_c14, F_L_contacts, x1, x2, x3, k1, k2, Option.bind_some, F_X4_thrown, ↓reduceIte, pq_zwl, pq_zrl, pq_lgs, pq_I1, pq_I2, pq_I3, pq_10, pq_20, pq_30, pq_N10, pq_N20, pq_N30, pq_N21, pq_N13, pq_N23]
      exact hrec _ _ _ ⟨⟨n, b, rfl, hl⟩, hS, hT, hk, hc⟩
  · simp only [F_law_c14, F_L_contacts, x1, x2, x3, k1, k2, Option.bind_some, F_X4_thrown, ↓reduceIte, pq_zwl, pq_zrl, pq_lgs, pq_I1, pq_I2, pq_I3, pq_10, pq_20, pq_30, pq_N10, pq_N20, pq_N30, pq_N21, pq_N13, pq_N23]
    exact hrec _ _ _ ⟨⟨n, b, rfl, hl⟩, hS, hT, hk, hc⟩
theorem pq_c15 {fu it L : Nat} {xs : Nat → Int32} {rec : Int32 → XT → MT → (Nat → Int64) → Option Int32} {x : XT} {w : MT} (hL : 4 * it + 4 ≤ L) (h2 : L ≤ 2048) (hf : 4096 ≤ fu) (hI : pqI fu x w) (hrec : ∀ x2 w2 o2, pqI fu x2 w2 → rec (nI (4 * it) + (4 : Int32)) x2 w2 o2 = some 1) (out : Nat → Int64) : F_law_c15 fu xs L rec x w out (nI (4 * it)) = some 1 := by
  have x1 : zrd xs L (nI (4 * it) + (1 : Int32)) = _ := pq_xs (k := 1) hL h2 (by decide)
  obtain ⟨⟨sc, len, rk, ck⟩, ⟨nn, br, cl, op, pu, dr, cg, inp, mot, tk, ch⟩, tr, sg, rd, wy, ra, ca, sv⟩ := x
  obtain ⟨thr, s, th, past, sd, tx, rl, m⟩ := w
  obtain ⟨⟨n, b, hn, hl⟩, hS, hT, hk, hc⟩ := hI
  simp only at hn hl hS hT hk hc
  obtain rfl := hn
  obtain rfl : sc = sd := by
    obtain ⟨k, _, e1, e2, _⟩ := hS
    rw [e1, e2]
  rcases pq_count (fu := fu) (th := thr) (p0 := xs (4 * it + 1)) (sc := sc) hl hf with ⟨k1, k2⟩ | ⟨v, k1, k2⟩
  · simp only [F_law_c15, F_L_count, x1, k1, k2, Option.bind_some, F_X4_thrown, ↓reduceIte, pq_zwl, pq_zrl, pq_lgs, pq_I1, pq_I2, pq_I3, pq_10, pq_20, pq_30, pq_N10, pq_N20, pq_N30, pq_N21, pq_N13, pq_N23]
    exact hrec _ _ _ ⟨⟨n, b, rfl, hl⟩, hS, hT, hk, hc⟩
  · simp only [F_law_c15, F_L_count, x1, k1, k2, Option.bind_some, F_X4_thrown, ↓reduceIte, pq_zwl, pq_zrl, pq_lgs, pq_I1, pq_I2, pq_I3, pq_10, pq_20, pq_30, pq_N10, pq_N20, pq_N30, pq_N21, pq_N13, pq_N23]
    exact hrec _ _ _ ⟨⟨n, b, rfl, hl⟩, hS, hT, hk, hc⟩
theorem pq_c20 {fu it L : Nat} {xs : Nat → Int32} {rec : Int32 → XT → MT → (Nat → Int64) → Option Int32} {x : XT} {w : MT} (hL : 4 * it + 4 ≤ L) (h2 : L ≤ 2048) (hf : 4096 ≤ fu) (hI : pqI fu x w) (hrec : ∀ x2 w2 o2, pqI fu x2 w2 → rec (nI (4 * it) + (4 : Int32)) x2 w2 o2 = some 1) (out : Nat → Int64) : F_law_c20 fu xs L rec x w out (nI (4 * it)) = some 1 := by
  have x1 : zrd xs L (nI (4 * it) + (1 : Int32)) = _ := pq_xs (k := 1) hL h2 (by decide)
  obtain ⟨⟨sc, len, rk, ck⟩, ⟨nn, br, cl, op, pu, dr, cg, inp, mot, tk, ch⟩, tr, sg, rd, wy, ra, ca, sv⟩ := x
  obtain ⟨thr, s, th, past, sd, tx, rl, m⟩ := w
  obtain ⟨⟨n, b, hn, hl⟩, hS, hT, hk, hc⟩ := hI
  simp only at hn hl hS hT hk hc
  obtain rfl := hn
  rcases pq_idles (fu := fu) (th := thr) (p0 := xs (4 * it + 1)) hl hf with ⟨k1, k2⟩ | ⟨v, k1, k2⟩
  · simp only [F_law_c20, F_L_idle, x1, k1, k2, Option.bind_some, F_X4_thrown, ↓reduceIte, pq_zwl, pq_zrl, pq_lgs, pq_I1, pq_I2, pq_I3, pq_10, pq_20, pq_30, pq_N10, pq_N20, pq_N30, pq_N21, pq_N13, pq_N23]
    exact hrec _ _ _ ⟨⟨n, b, rfl, hl⟩, hS, hT, hk, hc⟩
  · simp only [F_law_c20, F_L_idle, x1, k1, k2, Option.bind_some, F_X4_thrown, ↓reduceIte, pq_zwl, pq_zrl, pq_lgs, pq_I1, pq_I2, pq_I3, pq_10, pq_20, pq_30, pq_N10, pq_N20, pq_N30, pq_N21, pq_N13, pq_N23]
    exact hrec _ _ _ ⟨⟨n, b, rfl, hl⟩, hS, hT, hk, hc⟩
theorem pq_c16 {fu it L : Nat} {xs : Nat → Int32} {rec : Int32 → XT → MT → (Nat → Int64) → Option Int32} {x : XT} {w : MT} (hL : 4 * it + 4 ≤ L) (h2 : L ≤ 2048) (hf : 4096 ≤ fu) (hI : pqI fu x w) (hrec : ∀ x2 w2 o2, pqI fu x2 w2 → rec (nI (4 * it) + (4 : Int32)) x2 w2 o2 = some 1) (out : Nat → Int64) : F_law_c16 fu xs L rec x w out (nI (4 * it)) = some 1 := by
  have x1 : zrd xs L (nI (4 * it) + (1 : Int32)) = _ := pq_xs (k := 1) hL h2 (by decide)
  have x2 : zrd xs L (nI (4 * it) + (2 : Int32)) = _ := pq_xs (k := 2) hL h2 (by decide)
  obtain ⟨⟨sc, len, rk, ck⟩, ⟨nn, br, cl, op, pu, dr, cg, inp, mot, tk, ch⟩, ⟨r9, b9, cl9, op9, pu9, dr9, cg9, i9, m9, t9, h9⟩, sg, rd, wy, ra, ca, sv⟩ := x
  obtain ⟨thr, s, th, past, sd, tx, rl, ct, du, me, tb, wa, wo, nt, ms, is, re, le, mo, iw, en, sp, od, ord, xa, xr, xw, ha⟩ := w
  obtain ⟨⟨n, b, hn, hl⟩, hS, hT, hk, hc⟩ := hI
  simp only at hn hl hS hT hk hc
  obtain rfl := hn
  rcases pq_leads (fu := fu) (thr := thr) (p0 := xs (4 * it + 1)) (p1 := xs (4 * it + 2)) (c0 := ct) (d0 := du) (e0 := en) (th := th) hl hf r9 i9 m9 t9 h9 b9 cl9 op9 pu9 dr9 cg9 with ⟨k1, k2⟩ | ⟨v, q1, q2, q3, q4, q5, g1, g2, g3, g4, g5, g6, c1, d1, e1, th2, k1, k2⟩
  · simp only [F_law_c16, F_L_leads, x1, x2, k1, k2, Option.bind_some, F_X4_thrown, ↓reduceIte, pq_zwl, pq_zrl, pq_lgs, pq_I1, pq_I2, pq_I3, pq_10, pq_20, pq_30, pq_N10, pq_N20, pq_N30, pq_N21, pq_N13, pq_N23]
    exact hrec _ _ _ ⟨⟨n, b, rfl, hl⟩, hS, hT, hk, hc⟩
  · simp only [F_law_c16, F_L_leads, x1, x2, k1, k2, Option.bind_some, F_X4_thrown, ↓reduceIte, pq_zwl, pq_zrl, pq_lgs, pq_I1, pq_I2, pq_I3, pq_10, pq_20, pq_30, pq_N10, pq_N20, pq_N30, pq_N21, pq_N13, pq_N23]
    exact hrec _ _ _ ⟨⟨n, b, rfl, hl⟩, hS, hT, hk, hc⟩
theorem pq_c17 {fu it L : Nat} {xs : Nat → Int32} {rec : Int32 → XT → MT → (Nat → Int64) → Option Int32} {x : XT} {w : MT} (hL : 4 * it + 4 ≤ L) (h2 : L ≤ 2048) (hf : 4096 ≤ fu) (hI : pqI fu x w) (hrec : ∀ x2 w2 o2, pqI fu x2 w2 → rec (nI (4 * it) + (4 : Int32)) x2 w2 o2 = some 1) (out : Nat → Int64) : F_law_c17 fu xs L rec x w out (nI (4 * it)) = some 1 := by
  have x1 : zrd xs L (nI (4 * it) + (1 : Int32)) = _ := pq_xs (k := 1) hL h2 (by decide)
  obtain ⟨⟨sc, len, rk, ck⟩, ⟨nn, br, cl, op, pu, dr, cg, inp, mot, tk, ch⟩, tr, sg, rd, ⟨w5, w6, w7, w8, w9, w10, w11, w1, w2, w3, w4⟩, ra, ca, sv⟩ := x
  obtain ⟨thr, s, th, past, sd, tx, rl, ct, du, me, tb, wa, wo, nt, ms, is, re, le, mo, iw, en, sp, od, ord, xa, xr, xw, ha⟩ := w
  obtain ⟨⟨n, b, hn, hl⟩, hS, hT, hk, hc⟩ := hI
  simp only at hn hl hS hT hk hc
  obtain rfl := hn
  rcases pq_raceQ (fu := fu) (p0 := xs (4 * it + 1)) hl hk hf w1 w2 w3 w4 w5 w6 w7 w8 w9 w10 w11 thr ct du ms is re le mo iw me tb wa wo nt with ⟨k1, k2⟩ | ⟨v, z1, z2, z3, z4, z5, z6, z7, z8, z9, z10, z11, ra2, c1, d1, ms2, it2, re2, le2, mo2, iw2, t1, t2, t3, t4, t5, k1, k2, k3⟩
  · simp only [F_law_c17, F_L_race, x1, k1, k2, Option.bind_some, F_X4_thrown, ↓reduceIte, pq_zwl, pq_zrl, pq_lgs, pq_I1, pq_I2, pq_I3, pq_10, pq_20, pq_30, pq_N10, pq_N20, pq_N30, pq_N21, pq_N13, pq_N23]
    exact hrec _ _ _ ⟨⟨n, b, rfl, hl⟩, hS, hT, hk, hc⟩
  · simp only [F_law_c17, F_L_race, x1, k1, k2, Option.bind_some, F_X4_thrown, ↓reduceIte, pq_zwl, pq_zrl, pq_lgs, pq_I1, pq_I2, pq_I3, pq_10, pq_20, pq_30, pq_N10, pq_N20, pq_N30, pq_N21, pq_N13, pq_N23]
    exact hrec _ _ _ ⟨⟨n, b, rfl, hl⟩, hS, hT, Or.inr ⟨rfl, k3⟩, hc⟩
theorem pq_c19 {fu it L : Nat} {xs : Nat → Int32} {rec : Int32 → XT → MT → (Nat → Int64) → Option Int32} {x : XT} {w : MT} (hL : 4 * it + 4 ≤ L) (h2 : L ≤ 2048) (hf : 4096 ≤ fu) (hI : pqI fu x w) (hrec : ∀ x2 w2 o2, pqI fu x2 w2 → rec (nI (4 * it) + (4 : Int32)) x2 w2 o2 = some 1) (out : Nat → Int64) : F_law_c19 fu xs L rec x w out (nI (4 * it)) = some 1 := by
  obtain ⟨⟨sc, len, rk, ck⟩, ⟨nn, br, cl, op, pu, dr, cg, inp, mot, tk, ch⟩, ⟨r9, b9, cl9, op9, pu9, dr9, cg9, i9, m9, t9, h9⟩, sg, rd, wy, ra, ca, sv⟩ := x
  obtain ⟨thr, s, th, past, sd, tx, rl, ct, du, me, tb, wa, wo, nt, ms, is, re, le, mo, iw, en, sp, od, ord, xa, xr, xw, ha⟩ := w
  obtain ⟨⟨n, b, hn, hl⟩, hS, hT, hk, hc⟩ := hI
  simp only at hn hl hS hT hk hc
  obtain rfl := hn
  obtain ⟨v, q1, q2, q3, q4, q5, g1, g2, g3, g4, g5, g6, c1, d1, e1, th2, k1, k2⟩ := pq_hold (fu := fu) (c0 := ct) (d0 := du) (e0 := en) (th := th) hl hf r9 i9 m9 t9 h9 b9 cl9 op9 pu9 dr9 cg9
  simp only [F_law_c19, F_X4_holding, k1, k2, Option.bind_some, F_X4_thrown, ↓reduceIte, pq_zwl, pq_zrl, pq_lgs, pq_I1, pq_I2, pq_I3, pq_10, pq_20, pq_30, pq_N10, pq_N20, pq_N30, pq_N21, pq_N13, pq_N23]
  exact hrec _ _ _ ⟨⟨n, b, rfl, hl⟩, hS, hT, hk, hc⟩
