theorem pq_law {fu L : Nat} {xs : Nat → Int32} (h2 : L ≤ 2048) (hf : 4096 ≤ fu) (x : XT) (w : MT) (out : Nat → Int64) (hI : pqI fu x w) : F_law fu xs L x w out = some 1 := by
  unfold F_law
  refine zlp_t4 (Q := fun o => o = some 1) 512 (fun it i x w (_ : Nat → Int64) => i = nI (4 * it) ∧ pqI fu x w) ?_ (by omega) _ _ _ _ ⟨rfl, hI⟩
  rintro rec it hit hrec i x w out ⟨rfl, hI⟩
  rw [F_law_L]
  by_cases c : nI L - (4 : Int32) < nI (4 * it)
  · rw [if_pos c]
  · have hL : 4 * it + 4 ≤ L := by
      rw [Int32.lt_iff_toInt_lt, show (4 : Int32) = nI 4 from rfl, pk_sub_toInt (by omega) (by omega), nI_toInt (by omega)] at c
      omega
    have hr : ∀ x2 w2 o2, pqI fu x2 w2 → rec (nI (4 * it) + (4 : Int32)) x2 w2 o2 = some 1 := fun x2 w2 o2 h => hrec (by omega) _ _ _ _ ⟨by rw [show (4 : Int32) = nI 4 from rfl, nI_add, show 4 * it + 4 = 4 * (it + 1) by omega], h⟩
    rw [if_neg c, pq_rd (by omega) (by omega), Option.bind_some]
    by_cases c0 : xs (4 * it) &&& 31 = (0 : Int32)
    · rw [if_pos c0]
      exact pq_c0 hL h2 hf hI hr out
    rw [if_neg c0]
    by_cases c1 : xs (4 * it) &&& 31 = (1 : Int32)
    · rw [if_pos c1]
      exact pq_c1 hL h2 hf hI hr out
    rw [if_neg c1]
    by_cases c2 : xs (4 * it) &&& 31 = (2 : Int32)
    · rw [if_pos c2]
      exact pq_c2 hL h2 hf hI hr out
    rw [if_neg c2]
    by_cases c3 : xs (4 * it) &&& 31 = (3 : Int32)
    · rw [if_pos c3]
      exact pq_c3 hL h2 hf hI hr out
    rw [if_neg c3]
    by_cases c4 : xs (4 * it) &&& 31 = (4 : Int32)
    · rw [if_pos c4]
      exact pq_c4 hL h2 hf hI hr out
    rw [if_neg c4]
    by_cases c5 : xs (4 * it) &&& 31 = (5 : Int32)
    · rw [if_pos c5]
      exact pq_c5 hL h2 hf hI hr out
    rw [if_neg c5]
    by_cases c6 : xs (4 * it) &&& 31 = (6 : Int32)
    · rw [if_pos c6]
      exact pq_c6 hL h2 hf hI hr out
    rw [if_neg c6]
    by_cases c7 : xs (4 * it) &&& 31 = (7 : Int32)
    · rw [if_pos c7]
      exact pq_c7 hL h2 hf hI hr out
    rw [if_neg c7]
    by_cases c8 : xs (4 * it) &&& 31 = (8 : Int32)
    · rw [if_pos c8]
      exact pq_c8 hL h2 hf hI hr out
    rw [if_neg c8]
    by_cases c9 : xs (4 * it) &&& 31 = (9 : Int32)
    · rw [if_pos c9]
      exact pq_c9 hL h2 hf hI hr out
    rw [if_neg c9]
    by_cases c10 : xs (4 * it) &&& 31 = (10 : Int32)
    · rw [if_pos c10]
      exact pq_c10 hL h2 hf hI hr out
    rw [if_neg c10]
    by_cases c11 : xs (4 * it) &&& 31 = (11 : Int32)
    · rw [if_pos c11]
      exact pq_c11 hL h2 hf hI hr out
    rw [if_neg c11]
    by_cases c12 : xs (4 * it) &&& 31 = (12 : Int32)
    · rw [if_pos c12]
      exact pq_c12 hL h2 hf hI hr out
    rw [if_neg c12]
    by_cases c13 : xs (4 * it) &&& 31 = (13 : Int32)
    · rw [if_pos c13]
      exact pq_c13 hL h2 hf hI hr out
    rw [if_neg c13]
    by_cases c14 : xs (4 * it) &&& 31 = (14 : Int32)
    · rw [if_pos c14]
      exact pq_c14 hL h2 hf hI hr out
    rw [if_neg c14]
    by_cases c15 : xs (4 * it) &&& 31 = (15 : Int32)
    · rw [if_pos c15]
      exact pq_c15 hL h2 hf hI hr out
    rw [if_neg c15]
    by_cases c16 : xs (4 * it) &&& 31 = (16 : Int32)
    · rw [if_pos c16]
      exact pq_c16 hL h2 hf hI hr out
    rw [if_neg c16]
    by_cases c17 : xs (4 * it) &&& 31 = (17 : Int32)
    · rw [if_pos c17]
      exact pq_c17 hL h2 hf hI hr out
    rw [if_neg c17]
    by_cases c18 : xs (4 * it) &&& 31 = (18 : Int32)
    · rw [if_pos c18]
      exact pq_c18 hL h2 hf hI hr out
    rw [if_neg c18]
    by_cases c19 : xs (4 * it) &&& 31 = (19 : Int32)
    · rw [if_pos c19]
      exact pq_c19 hL h2 hf hI hr out
    rw [if_neg c19]
    by_cases c20 : xs (4 * it) &&& 31 = (20 : Int32)
    · rw [if_pos c20]
      exact pq_c20 hL h2 hf hI hr out
    rw [if_neg c20]
    by_cases c21 : xs (4 * it) &&& 31 = (21 : Int32)
    · rw [if_pos c21]
      exact pq_c21 hL h2 hf hI hr out
    rw [if_neg c21]
    by_cases c22 : xs (4 * it) &&& 31 = (22 : Int32)
    · rw [if_pos c22]
      exact pq_c22 hL h2 hf hI hr out
    rw [if_neg c22]
    exact hr _ _ _ hI
theorem pq_zero {fu : Nat} {ap : Nat → Nat → Nat} : pqI fu (zX0 ap) zM0 := by
  refine ⟨⟨0, fun _ => 0, rfl, ⟨by omega, fun r hr => absurd hr (Nat.not_lt_zero _)⟩, ⟨by omega, rfl, rfl, fun r hr => absurd hr (Nat.not_lt_zero _)⟩, fun r hr => absurd hr (Nat.not_lt_zero _), ?_, ⟨rfl, rfl, fun r hr => absurd hr (Nat.not_lt_zero _)⟩, fun r hr => absurd hr (Nat.not_lt_zero _), fun r hr => absurd hr (Nat.not_lt_zero _), ⟨0, by omega, rfl⟩, fun r hr => absurd hr (Nat.not_lt_zero _)⟩, ⟨0, by omega, rfl, rfl, fun i hi => absurd hi (Nat.not_lt_zero _)⟩, ⟨0, by omega, rfl, rfl, fun i hi => absurd hi (Nat.not_lt_zero _)⟩, Or.inl rfl, Or.inl rfl⟩
  have h0 : ∀ i, i < 32 → bt (0 : Int32) i = false := by decide
  intro i hi _
  exact h0 i hi
theorem pq_lawF {L : Nat} {xs : Nat → Int32} (h2 : L ≤ 2048) (ap : Nat → Nat → Nat) : F_law 65536 xs L (zX0 ap) zM0 (fun _ => 0) = some 1 := pq_law h2 (by omega) _ _ _ pq_zero
