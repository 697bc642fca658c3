theorem pq_c6 {fu it L : Nat} {xs : Nat → Int32} {rec : Int32 → XT → MT → (Nat → Int64) → Option Int32} {x : XT} {w : MT} (hL : 4 * it + 4 ≤ L) (h2 : L ≤ 2048) (hf : 4096 ≤ fu) (hI : pqI fu x w) (hrec : ∀ x2 w2 o2, pqI fu x2 w2 → rec (nI (4 * it) + (4 : Int32)) x2 w2 o2 = some 1) (out : Nat → Int64) : F_law_c6 fu xs L rec x w out (nI (4 * it)) = some 1 := by
  obtain ⟨⟨sc, len, rk, ck⟩, ⟨nn, br, cl, op, pu, dr, cg, inp, mot, tk, ch⟩, ⟨r9, b9, cl9, op9, pu9, dr9, cg9, i9, m9, t9, h9⟩, sg, rd, wy, ra, ca, sv⟩ := x
  obtain ⟨thr, s, th, past, sd, tx, rl, ct, du, me, tb, wa, wo, nt, ms, is, re, le, mo, iw, en, sp, od, ord, xa, xr, xw, ha⟩ := w
  obtain ⟨⟨n, b, hn, hl⟩, hS, hT, hk, hc⟩ := hI
  simp only at hn hl hS hT hk hc
  obtain rfl := hn
  rcases pq_settle (fu := fu) (rk := rk) (ck := ck) (th := thr) (c0 := ct) (d0 := du) (e0 := en) hl hS hf r9 i9 m9 t9 h9 b9 cl9 op9 pu9 dr9 cg9 with ⟨q1, q2, q3, q4, q5, g1, g2, g3, g4, g5, g6, c1, d1, e1, k1, k2⟩ | ⟨v, sc2, n2, inp2, mot2, tk2, ch2, br2, cl2, op2, pu2, dr2, cg2, q1, q2, q3, q4, q5, g1, g2, g3, g4, g5, g6, sv2, c1, d1, e1, s2, past2, k1, k2, k3, k4⟩
  · simp only [F_law_c6, F_L_settle, k1, k2, Option.bind_some, F_X4_thrown, ↓reduceIte, pq_zwl, pq_zrl, pq_lgs, pq_I1, pq_I2, pq_I3, pq_10, pq_20, pq_30, pq_N10, pq_N20, pq_N30, pq_N21, pq_N13, pq_N23]
    exact hrec _ _ _ ⟨⟨n, b, rfl, hl⟩, hS, hT, hk, hc⟩
  · simp only [F_law_c6, F_L_settle, k1, k2, Option.bind_some, F_X4_thrown, ↓reduceIte, pq_zwl, pq_zrl, pq_lgs, pq_I1, pq_I2, pq_I3, pq_10, pq_20, pq_30, pq_N10, pq_N20, pq_N30, pq_N21, pq_N13, pq_N23]
    exact hrec _ _ _ ⟨k3, k4, hT, Or.inl rfl, Or.inl rfl⟩
