theorem pq_lnI (a : Nat) : (lN a).toInt32 = nI a := by
  apply Int32.toBitVec_inj.mp
  rw [Int64.toBitVec_toInt32]
  show (BitVec.ofNat 64 a).signExtend 32 = BitVec.ofNat 32 a
  apply BitVec.eq_of_getLsbD_eq
  intro i hi
  rw [BitVec.getLsbD_signExtend, if_pos (by omega), BitVec.getLsbD_ofNat, BitVec.getLsbD_ofNat]
  simp [hi, show i < 64 by omega]
/-! one bit of a long -/
theorem pq_bitL {R u : Nat} (hR : R < 2 ^ 64) (hu : u < 64) : (lN R >>> ((nI u).toInt64 &&& 63)) &&& (1 : Int64) = if R.testBit u = true then 1 else 0 := by
  rw [wb_c u hu]
  apply Int64.toBitVec_inj.mp
  rw [Int64.toBitVec_and, Int64.toBitVec_shiftRight, wb_tb, wb_tb, wb_sm u hu]
  apply BitVec.eq_of_getLsbD_eq
  intro i hi
  rw [BitVec.getLsbD_and]
  have h1 : ∀ i, i < 64 → (1 : Int64).toBitVec.getLsbD i = decide (i = 0) := by decide +kernel
  rw [h1 i hi]
  by_cases c : i = 0
  · subst c
    show (((BitVec.ofNat 64 R).sshiftRight (BitVec.ofNat 64 u).toNat).getLsbD 0 && decide (0 = 0)) = _
    rw [BitVec.getLsbD_sshiftRight, BitVec.toNat_ofNat, show u % 2 ^ 64 = u from Nat.mod_eq_of_lt (by omega), if_pos (by omega : u + 0 < 64), BitVec.getLsbD_ofNat, Nat.add_zero, decide_eq_true hu]
    generalize R.testBit u = z
    revert z
    decide +kernel
  · rw [decide_eq_false c, Bool.and_false]
    split
    · rw [h1 i hi, decide_eq_false c]
    · exact BitVec.getLsbD_zero.symm
