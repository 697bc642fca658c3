theorem pq_txtcs {len rl : Int32} {sg tx : Nat → Int32} (h : pqTxt len sg rl tx) : ∃ l, pqCs l tx (fun i => (tx i).toInt.toNat) ∧ (∀ i, i < l → sg i = tx i) ∧ len = nI l ∧ rl = nI l := by
  obtain ⟨l, h1, h2, h3, h4⟩ := h
  refine ⟨l, ⟨h1, fun i hi => ?_⟩, fun i hi => (h4 i hi).1, h2, h3⟩
  obtain ⟨c, c1, c2, c3⟩ := (h4 i hi).2
  have e : (tx i).toInt.toNat = c := by
    rw [c3, nI_toInt (by omega)]
    omega
  show tx i = nI (tx i).toInt.toNat ∧ 33 ≤ (tx i).toInt.toNat ∧ (tx i).toInt.toNat < 127
  rw [e]
  exact ⟨c3, c1, by omega⟩
theorem pq_txt0 {sg tx : Nat → Int32} : pqTxt 0 sg 0 tx := ⟨0, by omega, rfl, rfl, fun i hi => absurd hi (Nat.not_lt_zero _)⟩
theorem pq_lenrl {len rl : Int32} {sg tx : Nat → Int32} (h : pqTxt len sg rl tx) : len = rl := by
  obtain ⟨l, h1, h2, h3, h4⟩ := h
  rw [h2, h3]
theorem pq_c9 {fu it L : Nat} {xs : Nat → Int32} {rec : Int32 → XT → MT → (Nat → Int64) → Option Int32} {x : XT} {w : MT} (hL : 4 * it + 4 ≤ L) (h2 : L ≤ 2048) (hf : 4096 ≤ fu) (hI : pqI fu x w) (hrec : ∀ x2 w2 o2, pqI fu x2 w2 → rec (nI (4 * it) + (4 : Int32)) x2 w2 o2 = some 1) (out : Nat → Int64) : F_law_c9 fu xs L rec x w out (nI (4 * it)) = some 1 := by
  obtain ⟨⟨sc, len, rk, ck⟩, ⟨nn, br, cl, op, pu, dr, cg, inp, mot, tk, ch⟩, tr, sg, rd, wy, ra, ca, sv⟩ := x
  obtain ⟨thr, s, th, past, sd, tx, rl, m⟩ := w
  obtain ⟨⟨n, b, hn, hl⟩, hS, hT, hk, hc⟩ := hI
  simp only at hn hl hS hT hk hc
  obtain rfl := hn
  obtain rfl := pq_lenrl hT
  simp only [F_law_c9, F_X3_clearBuffer, F_X4_clearBuffer, Option.bind_some, F_X4_thrown, ↓reduceIte, pq_zwl, pq_zrl, pq_lgs, pq_I1, pq_I2, pq_I3, pq_10, pq_20, pq_30, pq_N10, pq_N20, pq_N30, pq_N21, pq_N13, pq_N23]
  refine hrec _ _ _ ?_
  exact ⟨⟨n, b, rfl, hl⟩, hS, pq_txt0, hk, hc⟩
theorem pq_c10 {fu it L : Nat} {xs : Nat → Int32} {rec : Int32 → XT → MT → (Nat → Int64) → Option Int32} {x : XT} {w : MT} (hL : 4 * it + 4 ≤ L) (h2 : L ≤ 2048) (hf : 4096 ≤ fu) (hI : pqI fu x w) (hrec : ∀ x2 w2 o2, pqI fu x2 w2 → rec (nI (4 * it) + (4 : Int32)) x2 w2 o2 = some 1) (out : Nat → Int64) : F_law_c10 fu xs L rec x w out (nI (4 * it)) = some 1 := by
  obtain ⟨⟨sc, len, rk, ck⟩, ⟨nn, br, cl, op, pu, dr, cg, inp, mot, tk, ch⟩, tr, sg, ⟨nx, kd, ow, rt, rb, rcu, rc, ro⟩, wy, ra, ca, sv⟩ := x
  obtain ⟨thr, s, th, past, sd, tx, rl, ct, du, me, tb, wa, wo, nt, ms, is, re, le, mo, iw, en, sp, od, ord, xa, xr, xw, ha⟩ := w
  obtain ⟨⟨n, b, hn, hl⟩, hS, hT, hk, hc⟩ := hI
  simp only at hn hl hS hT hk hc
  obtain rfl := hn
  obtain ⟨l, hcs, hsg, rfl, rfl⟩ : ∃ l, pqCs l tx (fun i => (tx i).toInt.toNat) ∧ (∀ i, i < l → sg i = tx i) ∧ len = nI l ∧ rl = nI l := pq_txtcs hT
  obtain ⟨v, ⟨y1, y2, y3, y4, y5, y6, y7, y8⟩, sp2, od2, R2, k1, k2⟩ := pq_ferr (fu := fu) (nx := nx) (kd := kd) (ow := ow) (t := rt) (b := rb) (cu := rcu) (cl := rc) (op := ro) (th := thr) (sp := sp) (od := ord) (R0 := od) hcs hsg hf
  simp only [F_law_c10, k1, k2, Option.bind_some, F_X4_thrown, ↓reduceIte, pq_zwl, pq_zrl, pq_lgs, pq_I1, pq_I2, pq_I3, pq_10, pq_20, pq_30, pq_N10, pq_N20, pq_N30, pq_N21, pq_N13, pq_N23]
  refine hrec _ _ _ ?_
  exact ⟨⟨n, b, rfl, hl⟩, hS, hT, hk, hc⟩
theorem pq_c11 {fu it L : Nat} {xs : Nat → Int32} {rec : Int32 → XT → MT → (Nat → Int64) → Option Int32} {x : XT} {w : MT} (hL : 4 * it + 4 ≤ L) (h2 : L ≤ 2048) (hf : 4096 ≤ fu) (hI : pqI fu x w) (hrec : ∀ x2 w2 o2, pqI fu x2 w2 → rec (nI (4 * it) + (4 : Int32)) x2 w2 o2 = some 1) (out : Nat → Int64) : F_law_c11 fu xs L rec x w out (nI (4 * it)) = some 1 := by
  obtain ⟨⟨sc, len, rk, ck⟩, ⟨nn, br, cl, op, pu, dr, cg, inp, mot, tk, ch⟩, tr, sg, ⟨nx, kd, ow, rt, rb, rcu, rc, ro⟩, wy, ra, ca, sv⟩ := x
  obtain ⟨thr, s, th, past, sd, tx, rl, ct, du, me, tb, wa, wo, nt, ms, is, re, le, mo, iw, en, sp, od, ord, xa, xr, xw, ha⟩ := w
  obtain ⟨⟨n, b, hn, hl⟩, hS, hT, hk, hc⟩ := hI
  simp only at hn hl hS hT hk hc
  obtain rfl := hn
  obtain ⟨l, hcs, hsg, rfl, rfl⟩ : ∃ l, pqCs l tx (fun i => (tx i).toInt.toNat) ∧ (∀ i, i < l → sg i = tx i) ∧ len = nI l ∧ rl = nI l := pq_txtcs hT
  rcases pq_draw (fu := fu) (rk := rk) (ck := ck) (th := thr) (nx := nx) (kd := kd) (ow := ow) (t := rt) (rb := rb) (cu := rcu) (rc := rc) (ro := ro) (sp := sp) (od := ord) (R0 := od) hl hS hcs hsg hf with ⟨y1, y2, y3, y4, y5, y6, y7, y8, sp2, od2, R2, k1, k2⟩ | ⟨v, sc2, br2, cl2, op2, pu2, dr2, y1, y2, y3, y4, y5, y6, y7, y8, sv2, sp2, od2, R2, s2, past2, k1, k2, k3, k4⟩
  · simp only [F_law_c11, F_L_draw, k1, k2, Option.bind_some, F_X4_thrown, ↓reduceIte, pq_zwl, pq_zrl, pq_lgs, pq_I1, pq_I2, pq_I3, pq_10, pq_20, pq_30, pq_N10, pq_N20, pq_N30, pq_N21, pq_N13, pq_N23]
    refine hrec _ _ _ ?_
    exact ⟨⟨n, b, rfl, hl⟩, hS, hT, hk, hc⟩
  · simp only [F_law_c11, F_L_draw, k1, k2, Option.bind_some, F_X4_thrown, ↓reduceIte, pq_zwl, pq_zrl, pq_lgs, pq_I1, pq_I2, pq_I3, pq_10, pq_20, pq_30, pq_N10, pq_N20, pq_N30, pq_N21, pq_N13, pq_N23]
    refine hrec _ _ _ ?_
    exact ⟨k3, k4, pq_txt0, Or.inl rfl, Or.inl rfl⟩
