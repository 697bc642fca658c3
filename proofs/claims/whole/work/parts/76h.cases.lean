theorem pq_c18 {fu it L : Nat} {xs : Nat → Int32} {rec : Int32 → XT → MT → (Nat → Int64) → Option Int32} {x : XT} {w : MT} (hL : 4 * it + 4 ≤ L) (h2 : L ≤ 2048) (hf : 4096 ≤ fu) (hI : pqI fu x w) (hrec : ∀ x2 w2 o2, pqI fu x2 w2 → rec (nI (4 * it) + (4 : Int32)) x2 w2 o2 = some 1) (out : Nat → Int64) : F_law_c18 fu xs L rec x w out (nI (4 * it)) = some 1 := by
  have x1 : zrd xs L (nI (4 * it) + (1 : Int32)) = _ := pq_xs (k := 1) hL h2 (by decide)
  obtain ⟨⟨sc, len, rk, ck⟩, ⟨nn, br, cl, op, pu, dr, cg, inp, mot, tk, ch⟩, ⟨r9, b9, cl9, op9, pu9, dr9, cg9, i9, m9, t9, h9⟩, sg, rd, ⟨w5, w6, w7, w8, w9, w10, w11, w1, w2, w3, w4⟩, ra, ca, sv⟩ := x
  obtain ⟨thr, s, th, past, sd, tx, rl, ct, du, me, tb, wa, wo, nt, ms, is, re, le, mo, iw, en, sp, od, ord, xa, xr, xw, ha⟩ := w
  obtain ⟨⟨n, b, hn, hl⟩, hS, hT, hk, hc⟩ := hI
  simp only at hn hl hS hT hk hc
  obtain rfl := hn
  rcases pq_cureQ (fu := fu) (p0 := xs (4 * it + 1)) hl hk hc hf r9 i9 m9 t9 h9 b9 cl9 op9 pu9 dr9 cg9 w1 w2 w3 w4 w5 w6 w7 w8 w9 w10 w11 thr ct du ms is re le mo iw xa xr xw th me tb wa wo nt with ⟨k1, k2⟩ | ⟨v, r, q, k1, k2, k3, k4, k5⟩
  · simp only [F_law_c18, F_L_cure, x1, k1, k2, Option.bind_some, F_X4_thrown, ↓reduceIte, pq_zwl, pq_zrl, pq_lgs, pq_I1, pq_I2, pq_I3, pq_10, pq_20, pq_30, pq_N10, pq_N20, pq_N30, pq_N21, pq_N13, pq_N23]
    refine hrec _ _ _ ?_
    exact ⟨⟨n, b, rfl, hl⟩, hS, hT, hk, hc⟩
  · simp only [F_law_c18, F_L_cure, x1, k1, k2, Option.bind_some, F_X4_thrown, ↓reduceIte, pq_zwl, pq_zrl, pq_lgs, pq_I1, pq_I2, pq_I3, pq_10, pq_20, pq_30, pq_N10, pq_N20, pq_N30, pq_N21, pq_N13, pq_N23]
    refine hrec _ _ _ ?_
    exact ⟨⟨n, b, rfl, hl⟩, hS, hT, k3, Or.inr ⟨k4, k5⟩⟩
theorem pq_c22 {fu it L : Nat} {xs : Nat → Int32} {rec : Int32 → XT → MT → (Nat → Int64) → Option Int32} {x : XT} {w : MT} (hL : 4 * it + 4 ≤ L) (h2 : L ≤ 2048) (hf : 4096 ≤ fu) (hI : pqI fu x w) (hrec : ∀ x2 w2 o2, pqI fu x2 w2 → rec (nI (4 * it) + (4 : Int32)) x2 w2 o2 = some 1) (out : Nat → Int64) : F_law_c22 fu xs L rec x w out (nI (4 * it)) = some 1 := by
  obtain ⟨⟨sc, len, rk, ck⟩, ⟨nn, br, cl, op, pu, dr, cg, inp, mot, tk, ch⟩, ⟨r9, b9, cl9, op9, pu9, dr9, cg9, i9, m9, t9, h9⟩, sg, rd, ⟨w5, w6, w7, w8, w9, w10, w11, w1, w2, w3, w4⟩, ra, ca, sv⟩ := x
  obtain ⟨thr, s, th, past, sd, tx, rl, ct, du, me, tb, wa, wo, nt, ms, is, re, le, mo, iw, en, sp, od, ord, xa, xr, xw, ha⟩ := w
  obtain ⟨⟨n, b, hn, hl⟩, hS, hT, hk, hc⟩ := hI
  simp only at hn hl hS hT hk hc
  obtain rfl := hn
  obtain rfl : sc = sd := by
    obtain ⟨k, _, e1, e2, _⟩ := hS
    rw [e1, e2]
  obtain ⟨r, m, k1, k2, k3, k4, k5, k6⟩ := pq_digest (fu := fu) hl hk hc hT hf r9 i9 m9 t9 h9 b9 cl9 op9 pu9 dr9 cg9 w1 w2 w3 w4 w5 w6 w7 w8 w9 w10 w11 thr ct du ms is re le mo iw en xa xr xw ha th me tb wa wo nt (sv := sc)
  simp only [F_law_c22, k1, k2, k3, Option.bind_some, F_X4_thrown, ↓reduceIte, pq_zwl, pq_zrl, pq_lgs, pq_I1, pq_I2, pq_I3, pq_10, pq_20, pq_30, pq_N10, pq_N20, pq_N30, pq_N21, pq_N13, pq_N23]
  refine hrec _ _ _ ?_
  exact ⟨⟨n, b, rfl, hl⟩, hS, hT, k5, k6⟩
theorem pq_dcmp : ∀ n, n < 7 → ∀ c, c < 7 → c ≤ n → Op.cmpValue (FP.dcmp (pqV n c) (pqV n c)) CmpOp.l = 0 := by decide +kernel
theorem pq_c21 {fu it L : Nat} {xs : Nat → Int32} {rec : Int32 → XT → MT → (Nat → Int64) → Option Int32} {x : XT} {w : MT} (hL : 4 * it + 4 ≤ L) (h2 : L ≤ 2048) (hf : 4096 ≤ fu) (hI : pqI fu x w) (hrec : ∀ x2 w2 o2, pqI fu x2 w2 → rec (nI (4 * it) + (4 : Int32)) x2 w2 o2 = some 1) (out : Nat → Int64) : F_law_c21 fu xs L rec x w out (nI (4 * it)) = some 1 := by
  obtain ⟨⟨sc, len, rk, ck⟩, ⟨nn, br, cl, op, pu, dr, cg, inp, mot, tk, ch⟩, tr, sg, rd, wy, ra, ca, sv⟩ := x
  obtain ⟨thr, s, th, past, sd, tx, rl, m⟩ := w
  obtain ⟨⟨n, b, hn, hl⟩, hS, hT, hk, hc⟩ := hI
  simp only at hn hl hS hT hk hc
  obtain rfl := hn
  have hn6 := hl.1.1
  obtain ⟨c, hcn, k1, k2⟩ := pq_share (fu := fu) hl hf
  simp only [F_law_c21, F_X4_quietShare, k1, k2, pq_dcmp n (by omega) c (by omega) hcn, Option.bind_some, F_X4_thrown, ↓reduceIte, pq_zwl, pq_zrl, pq_lgs, pq_I1, pq_I2, pq_I3, pq_10, pq_20, pq_30, pq_N10, pq_N20, pq_N30, pq_N21, pq_N13, pq_N23]
  refine hrec _ _ _ ?_
  exact ⟨⟨n, b, rfl, hl⟩, hS, hT, hk, hc⟩
