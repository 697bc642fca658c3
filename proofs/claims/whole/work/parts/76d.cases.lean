theorem pq_c1 {fu it L : Nat} {xs : Nat → Int32} {rec : Int32 → XT → MT → (Nat → Int64) → Option Int32} {x : XT} {w : MT} (hL : 4 * it + 4 ≤ L) (h2 : L ≤ 2048) (hf : 4096 ≤ fu) (hI : pqI fu x w) (hrec : ∀ x2 w2 o2, pqI fu x2 w2 → rec (nI (4 * it) + (4 : Int32)) x2 w2 o2 = some 1) (out : Nat → Int64) : F_law_c1 fu xs L rec x w out (nI (4 * it)) = some 1 := by
  have x1 : zrd xs L (nI (4 * it) + (1 : Int32)) = _ := pq_xs (k := 1) hL h2 (by decide)
  have x2 : zrd xs L (nI (4 * it) + (2 : Int32)) = _ := pq_xs (k := 2) hL h2 (by decide)
  have x3 : zrd xs L (nI (4 * it) + (3 : Int32)) = _ := pq_xs (k := 3) hL h2 (by decide)
  obtain ⟨⟨sc, len, rk, ck⟩, ⟨nn, br, cl, op, pu, dr, cg, inp, mot, tk, ch⟩, tr, sg, rd, wy, ra, ca, sv⟩ := x
  obtain ⟨thr, s, th, past, sd, tx, rl, m⟩ := w
  obtain ⟨⟨n, b, hn, hl⟩, hS, hT, hk, hc⟩ := hI
  simp only at hn hl hS hT hk hc
  obtain rfl := hn
  rcases pq_branch (fu := fu) (rk := rk) (ck := ck) (th := thr) (p0 := xs (4 * it + 1)) (p1 := xs (4 * it + 2)) (p2 := xs (4 * it + 3)) hl hS hf with ⟨e, e2, he, k1, k2⟩ | ⟨v, sc2, br2, cl2, op2, sv2, s2, past2, k1, k2, k3, k4⟩
  · rcases he with ⟨rfl, rfl⟩ | ⟨rfl, rfl⟩ | ⟨rfl, rfl⟩
    · simp only [F_law_c1, F_L_branch, x1, x2, x3, k1, k2, Option.bind_some, F_X4_thrown, ↓reduceIte, pq_zwl, pq_zrl, pq_lgs, pq_I1, pq_I2, pq_I3, pq_10, pq_20, pq_30, pq_N10, pq_N20, pq_N30, pq_N21, pq_N13, pq_N23]
      exact hrec _ _ _ ⟨⟨n, b, rfl, hl⟩, hS, hT, hk, hc⟩
    · simp only [F_law_c1, F_L_branch, x1, x2, x3, k1, k2, Option.bind_some, F_X4_thrown, ↓reduceIte, pq_zwl, pq_zrl, pq_lgs, pq_I1, pq_I2, pq_I3, pq_10, pq_20, pq_30, pq_N10, pq_N20, pq_N30, pq_N21, pq_N13, pq_N23]
      exact hrec _ _ _ ⟨⟨n, b, rfl, hl⟩, hS, hT, hk, hc⟩
    · simp only [F_law_c1, F_L_branch, x1, x2, x3, k1, k2, Option.bind_some, F_X4_thrown, ↓reduceIte, pq_zwl, pq_zrl, pq_lgs, pq_I1, pq_I2, pq_I3, pq_10, pq_20, pq_30, pq_N10, pq_N20, pq_N30, pq_N21, pq_N13, pq_N23]
      exact hrec _ _ _ ⟨⟨n, b, rfl, hl⟩, hS, hT, hk, hc⟩
  · simp only [F_law_c1, F_L_branch, x1, x2, x3, k1, k2, Option.bind_some, F_X4_thrown, ↓reduceIte, pq_zwl, pq_zrl, pq_lgs, pq_I1, pq_I2, pq_I3, pq_10, pq_20, pq_30, pq_N10, pq_N20, pq_N30, pq_N21, pq_N13, pq_N23]
    exact hrec _ _ _ ⟨k3, k4, hT, Or.inl rfl, Or.inl rfl⟩
theorem pq_c2 {fu it L : Nat} {xs : Nat → Int32} {rec : Int32 → XT → MT → (Nat → Int64) → Option Int32} {x : XT} {w : MT} (hL : 4 * it + 4 ≤ L) (h2 : L ≤ 2048) (hf : 4096 ≤ fu) (hI : pqI fu x w) (hrec : ∀ x2 w2 o2, pqI fu x2 w2 → rec (nI (4 * it) + (4 : Int32)) x2 w2 o2 = some 1) (out : Nat → Int64) : F_law_c2 fu xs L rec x w out (nI (4 * it)) = some 1 := by
  have x1 : zrd xs L (nI (4 * it) + (1 : Int32)) = _ := pq_xs (k := 1) hL h2 (by decide)
  obtain ⟨⟨sc, len, rk, ck⟩, ⟨nn, br, cl, op, pu, dr, cg, inp, mot, tk, ch⟩, tr, sg, rd, wy, ra, ca, sv⟩ := x
  obtain ⟨thr, s, th, past, sd, tx, rl, m⟩ := w
  obtain ⟨⟨n, b, hn, hl⟩, hS, hT, hk, hc⟩ := hI
  simp only at hn hl hS hT hk hc
  obtain rfl := hn
  rcases pq_strip (fu := fu) (rk := rk) (ck := ck) (th := thr) (p0 := xs (4 * it + 1)) hl hS hf with ⟨k1, k2⟩ | ⟨v, sc2, br2, sv2, s2, past2, k1, k2, k3, k4⟩
  · simp only [F_law_c2, F_L_strip, x1, k1, k2, Option.bind_some, F_X4_thrown, ↓reduceIte, pq_zwl, pq_zrl, pq_lgs, pq_I1, pq_I2, pq_I3, pq_10, pq_20, pq_30, pq_N10, pq_N20, pq_N30, pq_N21, pq_N13, pq_N23]
    exact hrec _ _ _ ⟨⟨n, b, rfl, hl⟩, hS, hT, hk, hc⟩
  · simp only [F_law_c2, F_L_strip, x1, k1, k2, Option.bind_some, F_X4_thrown, ↓reduceIte, pq_zwl, pq_zrl, pq_lgs, pq_I1, pq_I2, pq_I3, pq_10, pq_20, pq_30, pq_N10, pq_N20, pq_N30, pq_N21, pq_N13, pq_N23]
    exact hrec _ _ _ ⟨k3, k4, hT, Or.inl rfl, Or.inl rfl⟩
theorem pq_c3 {fu it L : Nat} {xs : Nat → Int32} {rec : Int32 → XT → MT → (Nat → Int64) → Option Int32} {x : XT} {w : MT} (hL : 4 * it + 4 ≤ L) (h2 : L ≤ 2048) (hf : 4096 ≤ fu) (hI : pqI fu x w) (hrec : ∀ x2 w2 o2, pqI fu x2 w2 → rec (nI (4 * it) + (4 : Int32)) x2 w2 o2 = some 1) (out : Nat → Int64) : F_law_c3 fu xs L rec x w out (nI (4 * it)) = some 1 := by
  have x1 : zrd xs L (nI (4 * it) + (1 : Int32)) = _ := pq_xs (k := 1) hL h2 (by decide)
  have x2 : zrd xs L (nI (4 * it) + (2 : Int32)) = _ := pq_xs (k := 2) hL h2 (by decide)
  have x3 : zrd xs L (nI (4 * it) + (3 : Int32)) = _ := pq_xs (k := 3) hL h2 (by decide)
  obtain ⟨⟨sc, len, rk, ck⟩, ⟨nn, br, cl, op, pu, dr, cg, inp, mot, tk, ch⟩, tr, sg, rd, wy, ra, ca, sv⟩ := x
  obtain ⟨thr, s, th, past, sd, tx, rl, m⟩ := w
  obtain ⟨⟨n, b, hn, hl⟩, hS, hT, hk, hc⟩ := hI
  simp only at hn hl hS hT hk hc
  obtain rfl := hn
  rcases pq_delay (fu := fu) (rk := rk) (ck := ck) (th := thr) (p0 := xs (4 * it + 1)) (p1 := xs (4 * it + 2)) (p2 := xs (4 * it + 3)) hl hS hf with ⟨e, e2, he, k1, k2⟩ | ⟨v, sc2, pu2, dr2, sv2, s2, past2, k1, k2, k3, k4⟩
  · rcases he with ⟨rfl, rfl⟩ | ⟨rfl, rfl⟩
    · simp only [F_law_c3, F_L_delay, x1, x2, x3, k1, k2, Option.bind_some, F_X4_thrown, ↓reduceIte, pq_zwl, pq_zrl, pq_lgs, pq_I1, pq_I2, pq_I3, pq_10, pq_20, pq_30, pq_N10, pq_N20, pq_N30, pq_N21, pq_N13, pq_N23]
      exact hrec _ _ _ ⟨⟨n, b, rfl, hl⟩, hS, hT, hk, hc⟩
    · simp only [F_law_c3, F_L_delay, x1, x2, x3, k1, k2, Option.bind_some, F_X4_thrown, ↓reduceIte, pq_zwl, pq_zrl, pq_lgs, pq_I1, pq_I2, pq_I3, pq_10, pq_20, pq_30, pq_N10, pq_N20, pq_N30, pq_N21, pq_N13, pq_N23]
      exact hrec _ _ _ ⟨⟨n, b, rfl, hl⟩, hS, hT, hk, hc⟩
  · simp only [F_law_c3, F_L_delay, x1, x2, x3, k1, k2, Option.bind_some, F_X4_thrown, ↓reduceIte, pq_zwl, pq_zrl, pq_lgs, pq_I1, pq_I2, pq_I3, pq_10, pq_20, pq_30, pq_N10, pq_N20, pq_N30, pq_N21, pq_N13, pq_N23]
    exact hrec _ _ _ ⟨k3, k4, hT, Or.inl rfl, Or.inl rfl⟩
theorem pq_c4 {fu it L : Nat} {xs : Nat → Int32} {rec : Int32 → XT → MT → (Nat → Int64) → Option Int32} {x : XT} {w : MT} (hL : 4 * it + 4 ≤ L) (h2 : L ≤ 2048) (hf : 4096 ≤ fu) (hI : pqI fu x w) (hrec : ∀ x2 w2 o2, pqI fu x2 w2 → rec (nI (4 * it) + (4 : Int32)) x2 w2 o2 = some 1) (out : Nat → Int64) : F_law_c4 fu xs L rec x w out (nI (4 * it)) = some 1 := by
  have x1 : zrd xs L (nI (4 * it) + (1 : Int32)) = _ := pq_xs (k := 1) hL h2 (by decide)
  obtain ⟨⟨sc, len, rk, ck⟩, ⟨nn, br, cl, op, pu, dr, cg, inp, mot, tk, ch⟩, tr, sg, rd, wy, ra, ca, sv⟩ := x
  obtain ⟨thr, s, th, past, sd, tx, rl, m⟩ := w
  obtain ⟨⟨n, b, hn, hl⟩, hS, hT, hk, hc⟩ := hI
  simp only at hn hl hS hT hk hc
  obtain rfl := hn
  rcases pq_press (fu := fu) (rk := rk) (ck := ck) (th := thr) (p0 := xs (4 * it + 1)) hl hS hf with ⟨k1, k2⟩ | ⟨v, sc2, inp2, sv2, s2, past2, k1, k2, k3, k4⟩
  · simp only [F_law_c4, F_L_press, x1, k1, k2, Option.bind_some, F_X4_thrown, ↓reduceIte, pq_zwl, pq_zrl, pq_lgs, pq_I1, pq_I2, pq_I3, pq_10, pq_20, pq_30, pq_N10, pq_N20, pq_N30, pq_N21, pq_N13, pq_N23]
    exact hrec _ _ _ ⟨⟨n, b, rfl, hl⟩, hS, hT, hk, hc⟩
  · simp only [F_law_c4, F_L_press, x1, k1, k2, Option.bind_some, F_X4_thrown, ↓reduceIte, pq_zwl, pq_zrl, pq_lgs, pq_I1, pq_I2, pq_I3, pq_10, pq_20, pq_30, pq_N10, pq_N20, pq_N30, pq_N21, pq_N13, pq_N23]
    exact hrec _ _ _ ⟨k3, k4, hT, Or.inl rfl, Or.inl rfl⟩
theorem pq_c5 {fu it L : Nat} {xs : Nat → Int32} {rec : Int32 → XT → MT → (Nat → Int64) → Option Int32} {x : XT} {w : MT} (hL : 4 * it + 4 ≤ L) (h2 : L ≤ 2048) (hf : 4096 ≤ fu) (hI : pqI fu x w) (hrec : ∀ x2 w2 o2, pqI fu x2 w2 → rec (nI (4 * it) + (4 : Int32)) x2 w2 o2 = some 1) (out : Nat → Int64) : F_law_c5 fu xs L rec x w out (nI (4 * it)) = some 1 := by
  have x1 : zrd xs L (nI (4 * it) + (1 : Int32)) = _ := pq_xs (k := 1) hL h2 (by decide)
  obtain ⟨⟨sc, len, rk, ck⟩, ⟨nn, br, cl, op, pu, dr, cg, inp, mot, tk, ch⟩, tr, sg, rd, wy, ra, ca, sv⟩ := x
  obtain ⟨thr, s, th, past, sd, tx, rl, ct, du, me, tb, wa, wo, nt, ms, is, re, le, mo, iw, en, sp, od, ord, xa, xr, xw, ha⟩ := w
  obtain ⟨⟨n, b, hn, hl⟩, hS, hT, hk, hc⟩ := hI
  simp only at hn hl hS hT hk hc
  obtain rfl := hn
  rcases pq_run (fu := fu) (rk := rk) (ck := ck) (th := thr) (p0 := xs (4 * it + 1)) (c0 := ct) (d0 := du) hl hS hf with ⟨c1, d1, k1, k2⟩ | ⟨v, sc2, mot2, tk2, ch2, cg2, sv2, c1, d1, s2, past2, k1, k2, k3, k4⟩
  · simp only [F_law_c5, F_L_run, x1, k1, k2, Option.bind_some, F_X4_thrown, ↓reduceIte, pq_zwl, pq_zrl, pq_lgs, pq_I1, pq_I2, pq_I3, pq_10, pq_20, pq_30, pq_N10, pq_N20, pq_N30, pq_N21, pq_N13, pq_N23]
    exact hrec _ _ _ ⟨⟨n, b, rfl, hl⟩, hS, hT, hk, hc⟩
  · simp only [F_law_c5, F_L_run, x1, k1, k2, Option.bind_some, F_X4_thrown, ↓reduceIte, pq_zwl, pq_zrl, pq_lgs, pq_I1, pq_I2, pq_I3, pq_10, pq_20, pq_30, pq_N10, pq_N20, pq_N30, pq_N21, pq_N13, pq_N23]
    exact hrec _ _ _ ⟨k3, k4, hT, Or.inl rfl, Or.inl rfl⟩
theorem pq_c7 {fu it L : Nat} {xs : Nat → Int32} {rec : Int32 → XT → MT → (Nat → Int64) → Option Int32} {x : XT} {w : MT} (hL : 4 * it + 4 ≤ L) (h2 : L ≤ 2048) (hf : 4096 ≤ fu) (hI : pqI fu x w) (hrec : ∀ x2 w2 o2, pqI fu x2 w2 → rec (nI (4 * it) + (4 : Int32)) x2 w2 o2 = some 1) (out : Nat → Int64) : F_law_c7 fu xs L rec x w out (nI (4 * it)) = some 1 := by
  obtain ⟨⟨sc, len, rk, ck⟩, ⟨nn, br, cl, op, pu, dr, cg, inp, mot, tk, ch⟩, tr, sg, rd, wy, ra, ca, sv⟩ := x
  obtain ⟨thr, s, th, past, sd, tx, rl, m⟩ := w
  obtain ⟨⟨n, b, hn, hl⟩, hS, hT, hk, hc⟩ := hI
  simp only at hn hl hS hT hk hc
  obtain rfl := hn
  obtain ⟨v, sc2, sv2, s2, past2, k1, k2, k3, k4⟩ := pq_reset (fu := fu) (rk := rk) (ck := ck) (th := thr) hl hS hf
  simp only [F_law_c7, k1, k2, Option.bind_some, F_X4_thrown, ↓reduceIte, pq_zwl, pq_zrl, pq_lgs, pq_I1, pq_I2, pq_I3, pq_10, pq_20, pq_30, pq_N10, pq_N20, pq_N30, pq_N21, pq_N13, pq_N23]
  exact hrec _ _ _ ⟨k3, k4, hT, Or.inl rfl, Or.inl rfl⟩
theorem pq_c8 {fu it L : Nat} {xs : Nat → Int32} {rec : Int32 → XT → MT → (Nat → Int64) → Option Int32} {x : XT} {w : MT} (hL : 4 * it + 4 ≤ L) (h2 : L ≤ 2048) (hf : 4096 ≤ fu) (hI : pqI fu x w) (hrec : ∀ x2 w2 o2, pqI fu x2 w2 → rec (nI (4 * it) + (4 : Int32)) x2 w2 o2 = some 1) (out : Nat → Int64) : F_law_c8 fu xs L rec x w out (nI (4 * it)) = some 1 := by
  have x1 : zrd xs L (nI (4 * it) + (1 : Int32)) = _ := pq_xs (k := 1) hL h2 (by decide)
  obtain ⟨⟨sc, len, rk, ck⟩, ⟨nn, br, cl, op, pu, dr, cg, inp, mot, tk, ch⟩, tr, sg, rd, wy, ra, ca, sv⟩ := x
  obtain ⟨thr, s, th, past, sd, tx, rl, m⟩ := w
  obtain ⟨⟨n, b, hn, hl⟩, hS, hT, hk, hc⟩ := hI
  simp only at hn hl hS hT hk hc
  obtain rfl := hn
  rcases pq_append (fu := fu) (th := thr) (p0 := xs (4 * it + 1)) hT with ⟨e, he, k1, k2⟩ | ⟨v, sg2, tx2, k1, k2, k3⟩
  · rcases he with rfl | rfl
    · simp only [F_law_c8, F_L_append, x1, k1, k2, Option.bind_some, F_X4_thrown, ↓reduceIte, pq_zwl, pq_zrl, pq_lgs, pq_I1, pq_I2, pq_I3, pq_10, pq_20, pq_30, pq_N10, pq_N20, pq_N30, pq_N21, pq_N13, pq_N23]
      exact hrec _ _ _ ⟨⟨n, b, rfl, hl⟩, hS, hT, hk, hc⟩
    · simp only [F_law_c8, F_L_append, x1, k1, k2, Option.bind_some, F_X4_thrown, ↓reduceIte, pq_zwl, pq_zrl, pq_lgs, pq_I1, pq_I2, pq_I3, pq_10, pq_20, pq_30, pq_N10, pq_N20, pq_N30, pq_N21, pq_N13, pq_N23]
      exact hrec _ _ _ ⟨⟨n, b, rfl, hl⟩, hS, hT, hk, hc⟩
  · simp only [F_law_c8, F_L_append, x1, k1, k2, Option.bind_some, F_X4_thrown, ↓reduceIte, pq_zwl, pq_zrl, pq_lgs, pq_I1, pq_I2, pq_I3, pq_10, pq_20, pq_30, pq_N10, pq_N20, pq_N30, pq_N21, pq_N13, pq_N23]
    exact hrec _ _ _ ⟨⟨n, b, rfl, hl⟩, hS, k3, hk, hc⟩
theorem pq_c12 {fu it L : Nat} {xs : Nat → Int32} {rec : Int32 → XT → MT → (Nat → Int64) → Option Int32} {x : XT} {w : MT} (hL : 4 * it + 4 ≤ L) (h2 : L ≤ 2048) (hf : 4096 ≤ fu) (hI : pqI fu x w) (hrec : ∀ x2 w2 o2, pqI fu x2 w2 → rec (nI (4 * it) + (4 : Int32)) x2 w2 o2 = some 1) (out : Nat → Int64) : F_law_c12 fu xs L rec x w out (nI (4 * it)) = some 1 := by
  obtain ⟨⟨sc, len, rk, ck⟩, ⟨nn, br, cl, op, pu, dr, cg, inp, mot, tk, ch⟩, tr, sg, rd, wy, ra, ca, sv⟩ := x
  obtain ⟨thr, s, th, past, sd, tx, rl, m⟩ := w
  obtain ⟨⟨n, b, hn, hl⟩, hS, hT, hk, hc⟩ := hI
  simp only at hn hl hS hT hk hc
  obtain rfl := hn
  rcases pq_undo (fu := fu) (rk := rk) (ck := ck) (th := thr) hS hf (r0 := nI n) (i0 := inp) (m0 := mot) (t0 := tk) (h0 := ch) (br := br) (cl := cl) (op := op) (pu := pu) (dr := dr) (cg := cg) (s := s) with ⟨k1, k2⟩ | ⟨v, n2, i2, m2, t2, h2, br2, cl2, op2, pu2, dr2, cg2, s2, k1, k2, k3, k4⟩
  · simp only [F_law_c12, F_L_undo, k1, k2, Option.bind_some, F_X4_thrown, ↓reduceIte, pq_zwl, pq_zrl, pq_lgs, pq_I1, pq_I2, pq_I3, pq_10, pq_20, pq_30, pq_N10, pq_N20, pq_N30, pq_N21, pq_N13, pq_N23]
    exact hrec _ _ _ ⟨⟨n, b, rfl, hl⟩, hS, hT, hk, hc⟩
  · simp only [F_law_c12, F_L_undo, k1, k2, Option.bind_some, F_X4_thrown, ↓reduceIte, pq_zwl, pq_zrl, pq_lgs, pq_I1, pq_I2, pq_I3, pq_10, pq_20, pq_30, pq_N10, pq_N20, pq_N30, pq_N21, pq_N13, pq_N23]
    exact hrec _ _ _ ⟨k3, k4, hT, Or.inl rfl, Or.inl rfl⟩
