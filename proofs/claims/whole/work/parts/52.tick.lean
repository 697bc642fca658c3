/-! A tick, pure. -/
/-- a state's number has nothing beyond its n relays -/
def pqZ (n : Nat) (c : Int32) : Prop := ∀ i, i < 32 → (i < 6 ∧ n ≤ i) ∨ 6 + 4 * n ≤ i → bt c i = false
def pqN (c : Int32) (r : Nat) : Int32 := (c >>> (nI (6 + 4 * r) &&& (31 : Int32))) &&& (15 : Int32)
theorem pqN_bits {c : Int32} {r j : Nat} (hr : r < 6) : bt (pqN c r) j = (decide (j < 4) && bt c (6 + 4 * r + j)) := by
  unfold pqN
  rcases Nat.lt_or_ge j 32 with h | h
  · rw [b_and, b_sshr (6 + 4 * r) (by omega) c h, b_15]
    rcases Nat.lt_or_ge j 4 with h4 | h4
    · rw [if_pos (by omega), decide_eq_true h4, Bool.and_true, Bool.true_and]
    · rw [decide_eq_false (by omega), Bool.and_false, Bool.false_and]
  · rw [b_big h, decide_eq_false (by omega), Bool.false_and]
theorem pqN_16 (c : Int32) (r : Nat) : ∃ k, k < 16 ∧ pqN c r = nI k := pk_andE _ 4 (by decide)
def pqCt (mot unl : Int32) (r : Nat) : Int32 := if bt unl r = true then (if (10 : Int32) ≤ pqN mot r then 10 else pqN mot r + 1) else 0
theorem pqCt_10 (mot unl : Int32) (r : Nat) : ∃ k, k ≤ 10 ∧ pqCt mot unl r = nI k := by
  unfold pqCt
  split
  · obtain ⟨k, hk, e⟩ := pqN_16 mot r
    split
    · exact ⟨10, by omega, rfl⟩
    · rename_i h
      rw [e] at h
      rw [e, nI_1]
      have h2 : ¬ 10 ≤ k := fun q => h (nI_le (a := 10) q (by omega))
      exact ⟨k + 1, by omega, rfl⟩
  · exact ⟨0, by omega, rfl⟩
theorem pqCt_hi (mot unl : Int32) (r : Nat) {j : Nat} (h : 4 ≤ j) : bt (pqCt mot unl r) j = false := by
  obtain ⟨k, hk, e⟩ := pqCt_10 mot unl r
  rw [e, b_nI, Nat.testBit_lt_two_pow (Nat.lt_of_lt_of_le (by omega : k < 2 ^ 4) (Nat.pow_le_pow_right (by decide) h)), Bool.and_false]
def pqCo (mot unl : Int32) : Nat → Int32
  | 0 => mot &&& 63
  | r + 1 => pqCo mot unl r ||| (pqCt mot unl r <<< (nI (6 + 4 * r) &&& (31 : Int32)))
theorem pqCo_lo {mot unl : Int32} {i : Nat} (hi : i < 6) : ∀ r, r ≤ 6 → bt (pqCo mot unl r) i = bt mot i
  | 0, _ => by
    unfold pqCo
    rw [b_and, b_63, decide_eq_true hi, Bool.and_true]
  | r + 1, h => by
    unfold pqCo
    rw [b_or, pqCo_lo hi r (by omega), b_shl (6 + 4 * r) (by omega) _ (by omega), decide_eq_false (by omega), Bool.false_and, Bool.or_false]
theorem pqCo_hi {mot unl : Int32} {q j : Nat} (hj : j < 4) (hi : 6 + 4 * q + j < 32) : ∀ r, r ≤ 6 → bt (pqCo mot unl r) (6 + 4 * q + j) = (decide (q < r) && bt (pqCt mot unl q) j)
  | 0, _ => by
    unfold pqCo
    rw [b_and, b_63, decide_eq_false (by omega), Bool.and_false, decide_eq_false (by omega), Bool.false_and]
  | r + 1, h => by
    unfold pqCo
    rw [b_or, pqCo_hi hj hi r (by omega), b_shl (6 + 4 * r) (by omega) _ hi]
    rcases Nat.lt_trichotomy q r with c | c | c
    · rw [decide_eq_true c, decide_eq_true (by omega : q < r + 1), decide_eq_false (by omega), Bool.false_and, Bool.or_false]
    · subst c
      rw [decide_eq_false (by omega), decide_eq_true (by omega), decide_eq_true (by omega), show 6 + 4 * q + j - (6 + 4 * q) = j by omega, Bool.false_and, Bool.false_or]
    · rw [decide_eq_false (by omega), decide_eq_false (by omega : ¬ q < r + 1), pqCt_hi mot unl r (by omega), Bool.and_false, Bool.false_and, Bool.or_false]
theorem pqCo_N {mot unl : Int32} {n r : Nat} (hn : n ≤ 6) (hr : r < n) : pqN (pqCo mot unl n) r = pqCt mot unl r := by
  apply b_ext
  intro j hj
  rw [pqN_bits (by omega)]
  rcases Nat.lt_or_ge j 4 with h | h
  · rw [pqCo_hi h (by omega) n hn, decide_eq_true h, decide_eq_true hr, Bool.true_and, Bool.true_and]
  · rw [decide_eq_false (by omega), Bool.false_and, pqCt_hi mot unl r h]
theorem pqCo_Z {mot unl : Int32} {n : Nat} (hn : n ≤ 6) (hz : pqZ n mot) : pqZ n (pqCo mot unl n) := by
  intro i hi h
  rcases Nat.lt_or_ge i 6 with h6 | h6
  · rw [pqCo_lo h6 n hn]
    exact hz i hi h
  · obtain ⟨q, j, hj, rfl⟩ := pq_by h6
    rw [pqCo_hi hj hi n hn, decide_eq_false (by omega), Bool.false_and]
/-! the class: the counts ahead of the changes -/
def pqWc (m : Int32) (r : Nat) (c : Int32) : Int32 := (m &&& (((15 : Int32) <<< (nI (6 + 4 * r) &&& (31 : Int32))) ^^^ (-1 : Int32))) ||| (c <<< (nI (6 + 4 * r) &&& (31 : Int32)))
def pqA (mot unl : Int32) : Nat → Int32
  | 0 => mot
  | r + 1 => pqWc (pqA mot unl r) r (pqCt mot unl r)
theorem pqA_lo {mot unl : Int32} {i : Nat} (hi : i < 6) : ∀ r, r ≤ 6 → bt (pqA mot unl r) i = bt mot i
  | 0, _ => rfl
  | r + 1, h => by
    unfold pqA pqWc
    rw [b_or, b_and, b_not _ (by omega), pqA_lo hi r (by omega), b_shl (6 + 4 * r) (by omega) _ (by omega), b_shl (6 + 4 * r) (by omega) _ (by omega), decide_eq_false (by omega), Bool.false_and, Bool.false_and, Bool.or_false, Bool.not_false, Bool.and_true]
theorem pqA_hi {mot unl : Int32} {q j : Nat} (hj : j < 4) (hi : 6 + 4 * q + j < 32) : ∀ r, r ≤ 6 → bt (pqA mot unl r) (6 + 4 * q + j) = if q < r then bt (pqCt mot unl q) j else bt mot (6 + 4 * q + j)
  | 0, _ => by
    rw [if_neg (by omega)]
    rfl
  | r + 1, h => by
    unfold pqA pqWc
    rw [b_or, b_and, b_not _ hi, pqA_hi hj hi r (by omega), b_shl (6 + 4 * r) (by omega) _ hi, b_shl (6 + 4 * r) (by omega) _ hi, b_15]
    rcases Nat.lt_trichotomy q r with c | c | c
    · rw [if_pos c, if_pos (by omega), decide_eq_false (by omega : ¬ 6 + 4 * r ≤ 6 + 4 * q + j), Bool.false_and, Bool.false_and, Bool.or_false, Bool.not_false, Bool.and_true]
    · subst c
      rw [if_neg (by omega), if_pos (by omega), decide_eq_true (by omega : 6 + 4 * q ≤ 6 + 4 * q + j), show 6 + 4 * q + j - (6 + 4 * q) = j by omega, decide_eq_true hj, Bool.true_and, Bool.true_and, Bool.not_true, Bool.and_false, Bool.false_or]
    · rw [if_neg (by omega), if_neg (by omega), decide_eq_false (by omega : ¬ 6 + 4 * q + j - (6 + 4 * r) < 4), pqCt_hi mot unl r (by omega), Bool.and_false, Bool.or_false, Bool.not_false, Bool.and_true]
theorem pqA_Co {mot unl : Int32} {n : Nat} (hn : n ≤ 6) (hz : pqZ n mot) : pqA mot unl n = pqCo mot unl n := by
  apply b_ext
  intro i hi
  rcases Nat.lt_or_ge i 6 with h6 | h6
  · rw [pqA_lo h6 n hn, pqCo_lo h6 n hn]
  · obtain ⟨q, j, hj, rfl⟩ := pq_by h6
    rw [pqA_hi hj hi n hn, pqCo_hi hj hi n hn]
    rcases Nat.lt_or_ge q n with c | c
    · rw [if_pos c, decide_eq_true c, Bool.true_and]
    · rw [if_neg (by omega), decide_eq_false (by omega), Bool.false_and]
      exact hz _ hi (Or.inr (by omega))
theorem pq_wc {fu : Nat} {m c : Int32} {r : Nat} : F_X0_withCount fu m (nI r) c = some (pqWc m r c) := by
  unfold F_X0_withCount pqWc
  rw [pq_64]
theorem pq_ctIn {fu : Nat} {m : Int32} {r : Nat} : F_X0_countIn fu m (nI r) = some (pqN m r) := by
  unfold F_X0_countIn pqN
  rw [pq_64]
theorem pq_ctOf {fu : Nat} {m : Int32} {r : Nat} : F_X4_countOf fu m (nI r) = some (pqN m r) := by
  unfold F_X4_countOf pqN
  rw [pq_64]
theorem pq_min (mot : Int32) (r : Nat) : (if (10 : Int32) < pqN mot r + 1 then (10 : Int32) else pqN mot r + 1) = if (10 : Int32) ≤ pqN mot r then 10 else pqN mot r + 1 := by
  obtain ⟨k, hk, e⟩ := pqN_16 mot r
  rw [e]
  exact (by decide +kernel : ∀ k, k < 16 → (if (10 : Int32) < nI k + 1 then (10 : Int32) else nI k + 1) = if (10 : Int32) ≤ nI k then 10 else nI k + 1) k hk
theorem pq_counted {fu n : Nat} {mot unl : Int32} (hn : n ≤ 6) (hz : pqZ n mot) (hf : 4096 ≤ fu) : F_X0_counted fu (nI n) mot unl = some (pqCo mot unl n) := by
  rw [← pqA_Co hn hz]
  unfold F_X0_counted
  refine zlp_r2 (fun r => pqA mot unl r) (fun r => nI r) n ?_ ?_ (by omega)
  · intro rec r hr
    simp (disch := omega) only [F_X0_counted_L5, nI_leI, show ¬ n ≤ r by omega, ↓reduceIte, pq_isIn, Option.bind_some, F_X0_counted_J41, pq_wc, pq_ctIn, pq_min, nI_1, pqA, pqCt]
    by_cases c : bt unl r = true <;> simp only [c, ↓reduceIte, pq_10, Bool.false_eq_true]
  · intro rec
    simp (disch := omega) only [F_X0_counted_L5, nI_leI, Nat.le_refl, ↓reduceIte, F_X0_counted_E56]
/-! who is due -/
def pqDu (mot unl : Int32) (pu dr : Nat → Int32) : Nat → Int32
  | 0 => 0
  | r + 1 => if bt unl r = true then (if pqCt mot unl r ≤ (if bt mot r = true then dr r else pu r) then pqDu mot unl pu dr r else pqDu mot unl pu dr r ||| ((1 : Int32) <<< (nI r &&& (31 : Int32)))) else pqDu mot unl pu dr r
theorem pqDu_bits {mot unl : Int32} {pu dr : Nat → Int32} {i : Nat} (hi : i < 32) : ∀ n, n ≤ i → bt (pqDu mot unl pu dr n) i = false
  | 0, _ => b_0 i
  | n + 1, h => by
    have ih := pqDu_bits (mot := mot) (unl := unl) (pu := pu) (dr := dr) hi n (by omega)
    unfold pqDu
    generalize (if bt mot n = true then dr n else pu n) = tm
    split
    · split
      · exact ih
      · rw [b_or, ih, b_one (by omega) hi, decide_eq_false (by omega), Bool.or_false]
    · exact ih
theorem pq_dueIn {fu n : Nat} {mot unl : Int32} {pu dr : Nat → Int32} (hn : n ≤ 6) (hf : 4096 ≤ fu) : F_X0_dueIn fu (nI n) pu dr (pqCo mot unl n) unl = some (pqDu mot unl pu dr n) := by
  unfold F_X0_dueIn
  refine zlp_r2 (fun r => pqDu mot unl pu dr r) (fun r => nI r) n ?_ ?_ (by omega)
  · intro rec r hr
    simp (disch := omega) only [F_X0_dueIn_L5, nI_leI, show ¬ n ≤ r by omega, ↓reduceIte, pq_isIn, Option.bind_some, pq_ctIn, F_X0_timeIn, pq_bit1, pq_rd, pqCo_lo (show r < 6 by omega) n hn, pqCo_N hn hr, nI_1, pqDu]
    by_cases c : bt unl r = true <;> by_cases c2 : bt mot r = true <;> simp only [c, c2, ↓reduceIte, pq_10, Bool.false_eq_true, Option.bind_some]
    · split <;> rfl
    · split <;> rfl
  · intro rec
    simp (disch := omega) only [F_X0_dueIn_L5, nI_leI, Nat.le_refl, ↓reduceIte, F_X0_dueIn_E52]
/-! the changes -/
def pqCh (co set : Int32) : Nat → Int32
  | 0 => co ^^^ set
  | r + 1 => if bt set r = true then pqCh co set r &&& (((15 : Int32) <<< (nI (6 + 4 * r) &&& (31 : Int32))) ^^^ (-1 : Int32)) else pqCh co set r
theorem pqCh_sub {co set : Int32} {i : Nat} (h : bt (co ^^^ set) i = false) : ∀ r, bt (pqCh co set r) i = false
  | 0 => h
  | r + 1 => by
    have ih := pqCh_sub h r
    unfold pqCh
    split
    · rw [b_and, ih, Bool.false_and]
    · exact ih
theorem pqCh_Z {co set : Int32} {n : Nat} (hz : pqZ n co) (hs : ∀ i, i < 32 → n ≤ i → bt set i = false) (r : Nat) : pqZ n (pqCh co set r) := by
  intro i hi h
  apply pqCh_sub
  rw [b_xor, hz i hi h, hs i hi (by omega)]
  rfl
theorem pqCh_ge {co set : Int32} {n : Nat} (hs : ∀ i, i < 32 → n ≤ i → bt set i = false) : ∀ m, n ≤ m → m ≤ 6 → pqCh co set m = pqCh co set n := by
  intro m h1
  induction m with
  | zero =>
    intro _
    obtain rfl : n = 0 := by omega
    rfl
  | succ m ih =>
    intro h2
    rcases Nat.lt_or_ge m n with c | c
    · obtain rfl : n = m + 1 := by omega
      rfl
    · show (if bt set m = true then _ else pqCh co set m) = _
      rw [hs m (by omega) c, if_neg (by decide)]
      exact ih c (by omega)
theorem pq_m1 (x : Int32) : x &&& (-1 : Int32) = x := by
  apply b_ext
  intro i hi
  rw [b_and, b_m1 i hi, Bool.and_true]
theorem pq_wc0 (m : Int32) {r : Nat} (hr : r < 6) : pqWc m r 0 = m &&& (((15 : Int32) <<< (nI (6 + 4 * r) &&& (31 : Int32))) ^^^ (-1 : Int32)) := by
  apply b_ext
  intro i hi
  unfold pqWc
  rw [b_or, b_shl (6 + 4 * r) (by omega) (0 : Int32) hi, b_0, Bool.and_false, Bool.or_false]
theorem pq_turned {fu n : Nat} {co set : Int32} (hn : n ≤ 6) (hf : 4096 ≤ fu) : F_X0_turned fu (nI n) co set = some (pqCh co set n) := by
  unfold F_X0_turned
  refine zlp_r2 (fun r => pqCh co set r) (fun r => nI r) n ?_ ?_ (by omega)
  · intro rec r hr
    simp (disch := omega) only [F_X0_turned_L7, nI_leI, show ¬ n ≤ r by omega, ↓reduceIte, pq_isIn, Option.bind_some, pq_wc, pq_wc0, nI_1, pqCh]
    by_cases c : bt set r = true <;> simp only [c, ↓reduceIte, pq_10, Bool.false_eq_true]
  · intro rec
    simp (disch := omega) only [F_X0_turned_L7, nI_leI, Nat.le_refl, ↓reduceIte, F_X0_turned_E39]
theorem pq_6le {r : Nat} (h : r < 6) : ¬ (6 : Int32) ≤ nI r := nI_ge (b := 6) h (by omega)
theorem pq_changed6 {fu : Nat} {co set : Int32} (hf : 4096 ≤ fu) : F_X4_changed fu co set = some (pqCh co set 6) := by
  unfold F_X4_changed
  refine zlp_r2 (fun r => pqCh co set r) (fun r => nI r) 6 ?_ ?_ (by omega)
  · intro rec r hr
    simp (disch := omega) only [F_X4_changed_L9, pq_6le, ↓reduceIte, pq_bit1, F_X4_changed_J40, pq_64, nI_1, pqCh, pq_m1]
    by_cases c : bt set r = true <;> simp only [c, ↓reduceIte, Bool.false_eq_true]
  · intro rec
    simp (disch := omega) only [F_X4_changed_L9, show (6 : Int32) ≤ nI 6 by decide, ↓reduceIte, F_X4_changed_E48]
theorem pq_changed {fu n : Nat} {co set : Int32} (hn : n ≤ 6) (hs : ∀ i, i < 32 → n ≤ i → bt set i = false) (hf : 4096 ≤ fu) : F_X4_changed fu co set = some (pqCh co set n) := by
  rw [pq_changed6 hf, pqCh_ge hs 6 hn (by omega)]
/-! how many are in a set -/
def pqOn (x : Int32) : Nat → Int32
  | 0 => 0
  | i + 1 => pqOn x i + ((x >>> (nI i &&& (31 : Int32))) &&& (1 : Int32))
theorem pq_16le {r : Nat} (h : r < 16) : ¬ (16 : Int32) ≤ nI r := nI_ge (b := 16) h (by omega)
theorem pq_ones {fu : Nat} {x : Int32} (hf : 4096 ≤ fu) : F_X4_ones fu x = some (pqOn x 16) := by
  unfold F_X4_ones
  refine zlp_r2 (fun r => pqOn x r) (fun r => nI r) 16 ?_ ?_ (by omega)
  · intro rec r hr
    simp (disch := omega) only [F_X4_ones_L4, pq_16le, ↓reduceIte, nI_1, pqOn]
  · intro rec
    simp (disch := omega) only [F_X4_ones_L4, show (16 : Int32) ≤ nI 16 by decide, ↓reduceIte, F_X4_ones_E24]
theorem pqOn_n (x : Int32) : ∀ i, i ≤ 16 → ∃ k, k ≤ i ∧ pqOn x i = nI k
  | 0, _ => ⟨0, Nat.le_refl _, rfl⟩
  | i + 1, h => by
    obtain ⟨k, hk, e⟩ := pqOn_n x i (by omega)
    unfold pqOn
    rw [e, pq_bit (by omega)]
    split
    · exact ⟨k + 1, by omega, nI_1 k⟩
    · exact ⟨k, by omega, nI_add k 0⟩
theorem pq_bc1024 : ∀ k, k < 1024 → F_J6_bitCount_0f7a4 0 (nI k) = some (pqOn (nI k) 16) := by decide +kernel
theorem pq_bc {fu : Nat} {x : Int32} (h : ∃ k, k < 1024 ∧ x = nI k) : F_J6_bitCount_0f7a4 fu x = some (pqOn x 16) := by
  obtain ⟨k, hk, rfl⟩ := h
  exact pq_bc1024 k hk
theorem pq_bcb {fu : Nat} {x : Int32} (h : ∀ i, 6 ≤ i → i < 32 → bt x i = false) : F_J6_bitCount_0f7a4 fu x = some (pqOn x 16) := by
  obtain ⟨k, hk, e⟩ := pq_small 6 h
  exact pq_bc ⟨k, by omega, e⟩
