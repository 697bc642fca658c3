theorem pq_dvq {a c q : Nat} (h : a < c) : (a + c * q) / c = q := by
  rw [Nat.add_mul_div_left _ _ (by omega), Nat.div_eq_of_lt h, Nat.zero_add]
theorem pq_sb4 {p0 p1 p2 T1 T2 T3 v3 v4 : Nat} (e3 : v3 = p0 + 256 * T1) (t1 : T1 = p1 + 256 * T2) (t2 : T2 = p2 + 256 * T3) (e4 : v4 = v3 + T1) : v4 = ((p0 + p1) + 256 * (p1 + p2)) + 65536 * (T2 + T3) := by
  subst e4 e3 t1 t2
  omega
theorem pq_sb5 {p0 p1 p2 p3 p4 p5 p6 T2 T3 T4 T5 T6 T7 v4 v5 : Nat} (f4 : v4 = ((p0 + p1) + 256 * (p1 + p2)) + 65536 * (T2 + T3)) (t2 : T2 = p2 + 256 * T3) (t3 : T3 = p3 + 256 * T4) (t4 : T4 = p4 + 256 * T5) (t5 : T5 = p5 + 256 * T6) (t6 : T6 = p6 + 256 * T7) (e5 : v5 = v4 + (T2 + T3)) : v5 = ((p0 + p1 + p2 + p3) + 256 * (p1 + p2 + p3 + p4) + 65536 * (p2 + p3 + p4 + p5) + 16777216 * (p3 + p4 + p5 + p6)) + 4294967296 * (T4 + T5 + T6 + T7) := by
  subst e5 f4 t2 t3 t4 t5 t6
  omega
theorem pq_sb6 {p0 p1 p2 p3 p4 p5 p6 p7 T4 T5 T6 v5 v6 : Nat} (f5 : v5 = ((p0 + p1 + p2 + p3) + 256 * (p1 + p2 + p3 + p4) + 65536 * (p2 + p3 + p4 + p5) + 16777216 * (p3 + p4 + p5 + p6)) + 4294967296 * (T4 + T5 + T6 + p7)) (t4 : T4 = p4 + 256 * T5) (t5 : T5 = p5 + 256 * T6) (t6 : T6 = p6 + 256 * p7) (e6 : v6 = v5 + (T4 + T5 + T6 + p7)) : v6 = (p0 + p1 + p2 + p3 + p4 + p5 + p6 + p7) + 128 * (2 * ((p1 + p2 + p3 + p4) + 256 * (p2 + p3 + p4 + p5) + 65536 * (p3 + p4 + p5 + p6) + 16777216 * (T4 + T5 + T6 + p7) + (T5 + T6 + p7))) := by
  subst e6 f5 t4 t5 t6
  omega
theorem pq_sbn {a b c T U : Nat} (t : T = a + 256 * U) (ha : a ≤ 8) (hU : U ≤ b) (hc : 8 + 256 * b ≤ c) : T ≤ c := by omega
theorem pq_s128 {a b v : Nat} (h : v = a + 128 * b) (ha : a < 128) : v % 128 = a := by
  rw [h, Nat.add_mul_mod_self_left]
  exact Nat.mod_eq_of_lt ha
theorem pq_sumb {p0 p1 p2 p3 p4 p5 p6 p7 : Nat} (h0 : p0 ≤ 8) (h1 : p1 ≤ 8) (h2 : p2 ≤ 8) (h3 : p3 ≤ 8) (h4 : p4 ≤ 8) (h5 : p5 ≤ 8) (h6 : p6 ≤ 8) (h7 : p7 ≤ 8) {v3 v4 v5 v6 : Nat} (e3 : v3 = p0 + 256 * (p1 + 256 * (p2 + 256 * (p3 + 256 * (p4 + 256 * (p5 + 256 * (p6 + 256 * p7))))))) (e4 : v4 = v3 + v3 / 256) (e5 : v5 = v4 + v4 / 65536) (e6 : v6 = v5 + v5 / 4294967296) : v6 % 128 = p0 + p1 + p2 + p3 + p4 + p5 + p6 + p7 := by
  obtain ⟨T6, t6⟩ : ∃ T, T = p6 + 256 * p7 := ⟨_, rfl⟩
  obtain ⟨T5, t5⟩ : ∃ T, T = p5 + 256 * T6 := ⟨_, rfl⟩
  obtain ⟨T4, t4⟩ : ∃ T, T = p4 + 256 * T5 := ⟨_, rfl⟩
  obtain ⟨T3, t3⟩ : ∃ T, T = p3 + 256 * T4 := ⟨_, rfl⟩
  obtain ⟨T2, t2⟩ : ∃ T, T = p2 + 256 * T3 := ⟨_, rfl⟩
  obtain ⟨T1, t1⟩ : ∃ T, T = p1 + 256 * T2 := ⟨_, rfl⟩
  rw [← t6, ← t5, ← t4, ← t3, ← t2, ← t1] at e3
  have d3 : v3 / 256 = T1 := by
    rw [e3]
    exact pq_dvq (Nat.lt_of_le_of_lt h0 (by decide))
  rw [d3] at e4
  have f4 := pq_sb4 e3 t1 t2 e4
  have g4 : (p0 + p1) + 256 * (p1 + p2) < 65536 := by
    clear e3 e4 e5 e6 d3 f4 t1 t2 t3 t4 t5 t6
    omega
  have d4 : v4 / 65536 = T2 + T3 := by
    rw [f4]
    exact pq_dvq g4
  rw [d4] at e5
  have f5 := pq_sb5 f4 t2 t3 t4 t5 t6 e5
  have g5 : (p0 + p1 + p2 + p3) + 256 * (p1 + p2 + p3 + p4) + 65536 * (p2 + p3 + p4 + p5) + 16777216 * (p3 + p4 + p5 + p6) < 4294967296 := by
    clear e3 e4 e5 e6 d3 d4 f4 f5 g4 t1 t2 t3 t4 t5 t6
    omega
  have d5 : v5 / 4294967296 = T4 + T5 + T6 + p7 := by
    rw [f5]
    exact pq_dvq g5
  rw [d5] at e6
  have f6 := pq_sb6 f5 t4 t5 t6 e6
  have g6 : p0 + p1 + p2 + p3 + p4 + p5 + p6 + p7 < 128 := by
    clear e3 e4 e5 e6 d3 d4 d5 f4 f5 f6 g4 g5 t1 t2 t3 t4 t5 t6
    omega
  exact pq_s128 f6 g6
