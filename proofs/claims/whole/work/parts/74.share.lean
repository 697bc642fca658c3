/-! The share of the content: 28 values. -/
def pqV (n c : Nat) : UInt64 := if n = 0 then FP.dconst1 else FP.ddiv (FP.i2d (nI c)) (FP.i2d (nI n))
theorem pq_v1 : ∀ n, n < 7 → ∀ c, c < 7 → c ≤ n → znn (pqV n c) = some (pqV n c) ∧ F_Jxe99ae_doubleToLongBits_ccdee 0 (pqV n c) = some (pqV n c).toInt64 := by decide +kernel
def pqIt (v : UInt64) : Nat → UInt64
  | 0 => v
  | i + 1 => FP.dmul (pqIt v i) (4611686018427387904 : UInt64)
def pqBo (v : UInt64) (N : Nat) : Bool := (List.range N).all (fun i => decide (¬ (0 : Int32) ≤ (Op.cmpValue (FP.dcmp (pqIt v i) FP.dconst1) CmpOp.g)) && decide (znn (FP.dmul (pqIt v i) (4611686018427387904 : UInt64)) = some (pqIt v (i + 1)))) && decide ((0 : Int32) ≤ (Op.cmpValue (FP.dcmp (pqIt v N) FP.dconst1) CmpOp.g)) && decide (F_X3_bitsOf_E43 (pqIt v N) (lN (1023 - N)) = some v.toInt64) && decide ((0 : Int32) < (Op.cmpValue (FP.dcmp v FP.dconst0) CmpOp.g))
theorem pq_v2 : ∀ n, n < 7 → ∀ c, c < 7 → c ≤ n → (pqV n c = 0 ∧ ¬ (0 : Int32) < (Op.cmpValue (FP.dcmp (pqV n c) FP.dconst0) CmpOp.g)) ∨ pqBo (pqV n c) 0 = true ∨ pqBo (pqV n c) 1 = true ∨ pqBo (pqV n c) 2 = true ∨ pqBo (pqV n c) 3 = true := by decide +kernel
theorem pq_v3 : ∀ i, i < 4 → ¬ lg_cmp (lN (1023 - i)) (1 : Int64) ≤ (0 : Int32) ∧ lN (1023 - i) - (1 : Int64) = lN (1023 - (i + 1)) := by decide +kernel
theorem pq_bits1 {fu N : Nat} {v : UInt64} (hN : N < 4) (h : pqBo v N = true) (hf : 4096 ≤ fu) : F_X3_bitsOf fu v = some v.toInt64 := by
  unfold pqBo at h
  rw [Bool.and_eq_true, Bool.and_eq_true, Bool.and_eq_true, decide_eq_true_iff, decide_eq_true_iff, decide_eq_true_iff, List.all_eq_true] at h
  obtain ⟨⟨⟨h1, h2⟩, h3⟩, h4⟩ := h
  unfold F_X3_bitsOf
  rw [if_pos h4]
  refine zlp_r2 (fun i => pqIt v i) (fun i => lN (1023 - i)) N ?_ ?_ (by omega)
  · intro rec i hi
    have h5 := h1 i (List.mem_range.mpr hi)
    rw [Bool.and_eq_true, decide_eq_true_iff, decide_eq_true_iff] at h5
    obtain ⟨h6, h7⟩ := pq_v3 i (by omega)
    rw [F_X3_bitsOf_L15, if_neg h5.1, if_neg h6, h5.2, Option.bind_some, h7]
  · intro rec
    rw [F_X3_bitsOf_L15, if_pos h2]
    exact h3
theorem pq_bits {fu n c : Nat} (hn : n ≤ 6) (hc : c ≤ n) (hf : 4096 ≤ fu) : F_X3_bitsOf fu (pqV n c) = some (pqV n c).toInt64 := by
  rcases pq_v2 n (by omega) c (by omega) hc with ⟨h1, h2⟩ | h | h | h | h
  · unfold F_X3_bitsOf
    rw [if_neg h2, h1]
    rfl
  · exact pq_bits1 (by omega) h hf
  · exact pq_bits1 (by omega) h hf
  · exact pq_bits1 (by omega) h hf
  · exact pq_bits1 (by omega) h hf
theorem pq_share {fu n : Nat} {b : Nat → Nat} {br cl op pu dr cg : Nat → Int32} {inp mot tk ch : Int32} {s : Nat → Int32} (h : pqLad n b br cl op pu dr cg inp mot tk ch s) (hf : 4096 ≤ fu) : ∃ c, c ≤ n ∧ F_X3_quietShare fu (nI n) inp mot br cl op = some (pqV n c) ∧ F_X4_share fu s = some (pqV n c) := by
  have hn := h.1.1
  have h0 := h.2.1.2.1
  have hz := h.2.2.2.1
  have hbits : ∀ i, n ≤ i → i < 32 → bt (pqU n b cl op inp mot) i = false := fun i h1 h2 => pqU_bits hz h2 h1
  have hbc := pq_bcb (fu := fu) (x := pqU n b cl op inp mot) (fun i h1 h2 => hbits i (by omega) h2)
  have he := pqOn_end hbits (16 - n) (by omega)
  rw [show n + (16 - n) = 16 by omega] at he
  obtain ⟨k, hk, ek⟩ := pqOn_n (pqU n b cl op inp mot) n (by omega)
  rw [ek] at he
  have hv := (pq_v1 n (by omega) (n - k) (by omega) (by omega)).1
  refine ⟨n - k, by omega, ?_, ?_⟩
  · unfold F_X3_quietShare
    by_cases c : n = 0
    · subst c
      rw [if_neg (by decide)]
      rfl
    · have hlt : (0 : Int32) < nI n := nI_lt (a := 0) (by omega) (by omega)
      have hV : FP.ddiv (FP.i2d (nI (n - k))) (FP.i2d (nI n)) = pqV n (n - k) := (if_neg c).symm
      rw [if_pos hlt, pq_restless h.1 hf, Option.bind_some, hbc, Option.bind_some, he, pk_sub hk, hV, hv, Option.bind_some]
  · unfold F_X4_share
    rw [pq_rd0 (by omega) (by omega), h0, Option.bind_some]
    by_cases c : n = 0
    · subst c
      rw [if_pos (by rfl)]
      rfl
    · have hne : ¬ nI n = (0 : Int32) := nI_ne0 (by omega) (by omega)
      have hV : FP.ddiv (FP.i2d (nI (n - k))) (FP.i2d (nI n)) = pqV n (n - k) := (if_neg c).symm
      rw [if_neg hne, Option.bind_some, pq_unq h hf, Option.bind_some, Option.bind_some, he, pk_sub hk, hV, hv, Option.bind_some]
