theorem pq_lbc {fu R : Nat} (hR : R < 2 ^ 64) : F_J13_bitCount_95d88 fu (lN R) = some (nI (pqPc R 64)) := by
  have c1 : (6148914691236517205 : Int64) = lN (pqMw 85 8) := by decide +kernel
  have c2 : (3689348814741910323 : Int64) = lN (pqMw 51 8) := by decide +kernel
  have c3 : (1085102592571150095 : Int64) = lN (pqMw 15 8) := by decide +kernel
  have s1 : ∀ a, a < 2 ^ 64 → ((lN a).toUInt64 >>> ((1 : Int32).toInt64.toUInt64 &&& Int64.toUInt64 63)).toInt64 = lN (a / 2) := fun a h => wb_shr (k := 1) h (by decide)
  have s2 : ∀ a, a < 2 ^ 64 → ((lN a).toUInt64 >>> ((2 : Int32).toInt64.toUInt64 &&& Int64.toUInt64 63)).toInt64 = lN (a / 4) := fun a h => wb_shr (k := 2) h (by decide)
  have s4 : ∀ a, a < 2 ^ 64 → ((lN a).toUInt64 >>> ((4 : Int32).toInt64.toUInt64 &&& Int64.toUInt64 63)).toInt64 = lN (a / 16) := fun a h => wb_shr (k := 4) h (by decide)
  have s8 : ∀ a, a < 2 ^ 64 → ((lN a).toUInt64 >>> ((8 : Int32).toInt64.toUInt64 &&& Int64.toUInt64 63)).toInt64 = lN (a / 256) := fun a h => wb_shr (k := 8) h (by decide)
  have s16 : ∀ a, a < 2 ^ 64 → ((lN a).toUInt64 >>> ((16 : Int32).toInt64.toUInt64 &&& Int64.toUInt64 63)).toInt64 = lN (a / 65536) := fun a h => wb_shr (k := 16) h (by decide)
  have s32 : ∀ a, a < 2 ^ 64 → ((lN a).toUInt64 >>> ((32 : Int32).toInt64.toUInt64 &&& Int64.toUInt64 63)).toInt64 = lN (a / 4294967296) := fun a h => wb_shr (k := 32) h (by decide)
  obtain ⟨b0, y0, hb0, e0, -⟩ := pq_bytes R
  obtain ⟨b1, y1, hb1, e1, -⟩ := pq_bytes y0
  obtain ⟨b2, y2, hb2, e2, -⟩ := pq_bytes y1
  obtain ⟨b3, y3, hb3, e3, -⟩ := pq_bytes y2
  obtain ⟨b4, y4, hb4, e4, -⟩ := pq_bytes y3
  obtain ⟨b5, y5, hb5, e5, -⟩ := pq_bytes y4
  obtain ⟨b6, y6, hb6, e6, -⟩ := pq_bytes y5
  obtain ⟨b7, y7, hb7, e7, -⟩ := pq_bytes y6
  have hy7 : y7 = 0 := by omega
  have hS3 : pqS3 8 R = pqPc b0 8 + 256 * (pqPc b1 8 + 256 * (pqPc b2 8 + 256 * (pqPc b3 8 + 256 * (pqPc b4 8 + 256 * (pqPc b5 8 + 256 * (pqPc b6 8 + 256 * pqPc b7 8)))))) := by
    rw [e0, pqS3_step hb0, e1, pqS3_step hb1, e2, pqS3_step hb2, e3, pqS3_step hb3, e4, pqS3_step hb4, e5, pqS3_step hb5, e6, pqS3_step hb6, e7, hy7, Nat.mul_zero, Nat.add_zero, pqS3_byte b0 hb0, pqS3_byte b1 hb1, pqS3_byte b2 hb2, pqS3_byte b3 hb3, pqS3_byte b4 hb4, pqS3_byte b5 hb5, pqS3_byte b6 hb6, pqS3_byte b7 hb7]
  have hPc : pqPc R 64 = pqPc b0 8 + pqPc b1 8 + pqPc b2 8 + pqPc b3 8 + pqPc b4 8 + pqPc b5 8 + pqPc b6 8 + pqPc b7 8 := by
    have z : pqPc b7 8 = pqPc y6 8 := by rw [e7, hy7, Nat.mul_zero, Nat.add_zero]
    have a0 := pqPc_step (y := y0) (N := 56) hb0
    have a1 := pqPc_step (y := y1) (N := 48) hb1
    have a2 := pqPc_step (y := y2) (N := 40) hb2
    have a3 := pqPc_step (y := y3) (N := 32) hb3
    have a4 := pqPc_step (y := y4) (N := 24) hb4
    have a5 := pqPc_step (y := y5) (N := 16) hb5
    have a6 := pqPc_step (y := y6) (N := 8) hb6
    rw [← e0] at a0
    rw [← e1] at a1
    rw [← e2] at a2
    rw [← e3] at a3
    rw [← e4] at a4
    rw [← e5] at a5
    rw [← e6] at a6
    simp only [Nat.reduceAdd] at a0 a1 a2 a3 a4 a5 a6
    omega
  have g1 : pqS1 8 R < 2 ^ 64 := by
    unfold pqS1
    omega
  have hmw : pqMw 51 8 < 2 ^ 62 := by decide +kernel
  have hmw5 : pqMw 85 8 < 2 ^ 64 := by decide +kernel
  have hmwf : pqMw 15 8 < 2 ^ 64 := by decide +kernel
  have g2a : pqS1 8 R &&& pqMw 51 8 ≤ pqMw 51 8 := Nat.and_le_right
  have g2b : pqS1 8 R / 4 &&& pqMw 51 8 ≤ pqMw 51 8 := Nat.and_le_right
  have g2 : pqS2 8 R < 2 ^ 63 := by
    unfold pqS2
    omega
  have g3 : pqS3 8 R ≤ pqMw 15 8 := by
    unfold pqS3
    exact Nat.and_le_right
  have k1 := pq_sumb (p0 := pqPc b0 8) (p1 := pqPc b1 8) (p2 := pqPc b2 8) (p3 := pqPc b3 8) (p4 := pqPc b4 8) (p5 := pqPc b5 8) (p6 := pqPc b6 8) (p7 := pqPc b7 8) pqPc_8 pqPc_8 pqPc_8 pqPc_8 pqPc_8 pqPc_8 pqPc_8 pqPc_8 hS3 rfl rfl rfl
  unfold F_J13_bitCount_95d88
  simp only [Option.bind_some]
  rw [s1 R hR, c1, wb_and (by omega) hmw5, lN_sub (pqS1_le 8 R)]
  show some ((_ : Int32) &&& (127 : Int32)) = _
  have q1 : lN (R - (R / 2 &&& pqMw 85 8)) = lN (pqS1 8 R) := rfl
  rw [q1, s2 _ g1, c2, wb_and g1 (by omega), wb_and (by omega) (by omega), lN_add]
  have q2 : lN ((pqS1 8 R &&& pqMw 51 8) + (pqS1 8 R / 4 &&& pqMw 51 8)) = lN (pqS2 8 R) := rfl
  rw [q2, s4 _ (by omega), lN_add, c3, wb_and (by omega) hmwf]
  have q3 : lN (pqS2 8 R + pqS2 8 R / 16 &&& pqMw 15 8) = lN (pqS3 8 R) := rfl
  have hw15 : pqMw 15 8 < 2 ^ 60 := by decide +kernel
  rw [q3, s8 _ (by omega), lN_add, s16 _ (by omega), lN_add, s32 _ (by omega), lN_add, pq_lnI, hPc, ← k1]
  generalize pqS3 8 R + pqS3 8 R / 256 + (pqS3 8 R + pqS3 8 R / 256) / 65536 + (pqS3 8 R + pqS3 8 R / 256 + (pqS3 8 R + pqS3 8 R / 256) / 65536) / 4294967296 = z
  show some (nI z &&& nI 127) = some (nI (z % 128))
  rw [nx_and, show (127 : Nat) = 2 ^ 7 - 1 from rfl, Nat.and_two_pow_sub_one_eq_mod]
