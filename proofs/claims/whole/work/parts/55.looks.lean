/-! Looks at a ladder, class beside reference. -/
def pqTm (v : Int32) : Prop := ∃ t, t ≤ 9 ∧ v = nI t
/-- the class's ladder and the reference's row say the same -/
def pqLad (n : Nat) (b : Nat → Nat) (br cl op pu dr cg : Nat → Int32) (inp mot tk ch : Int32) (s : Nat → Int32) : Prop := pqB n b br ∧ pqR n b cl op pu dr inp s ∧ pqM n mot s ∧ pqZ n mot ∧ pqX n tk ch cg s ∧ pqO n b s ∧ pqK n b cl op ∧ (∃ q, q < 16 ∧ inp = nI q) ∧ ∀ r, r < n → pqTm (pu r) ∧ pqTm (dr r)
theorem pq_bit63 {mot : Int32} {r : Nat} (hr : r < 6) : ((mot &&& (63 : Int32)) >>> (nI r &&& (31 : Int32))) &&& (1 : Int32) = (mot >>> (nI r &&& (31 : Int32))) &&& (1 : Int32) := by
  rw [pq_bit (by omega), pq_bit (by omega), b_and, b_63, decide_eq_true hr, Bool.and_true]
theorem pq_timeIn {fu r : Nat} {pu dr : Nat → Int32} {mot : Int32} (hr : r < 6) : F_X0_timeIn fu pu dr mot (nI r) = some (if bt mot r = true then dr r else pu r) := by
  simp (disch := omega) only [F_X0_timeIn, pq_bit1, pq_rd, Option.bind_some]
  split <;> rfl
theorem pq_due1 {fu n r : Nat} {b : Nat → Nat} {br cl op pu dr : Nat → Int32} {inp mot : Int32} (hb : pqB n b br) (hr : r < n) (hf : 4096 ≤ fu) : F_X0_ticksUntilDue fu (nI n) inp mot br cl op pu dr (nI r) = some (if bt (pqU n b cl op inp mot) r = true then (if (1 : Int32) ≤ (if bt mot r = true then dr r else pu r) + 1 - pqN mot r then (if bt mot r = true then dr r else pu r) + 1 - pqN mot r else 1) else 0) := by
  have hn := hb.1
  simp (disch := omega) only [F_X0_ticksUntilDue, pq_restless hb hf, Option.bind_some, pq_isIn, pq_timeIn, pq_ctIn]
  by_cases c : bt (pqU n b cl op inp mot) r = true
  · simp only [c, ↓reduceIte, pq_10]
    generalize (if bt mot r = true then dr r else pu r) + 1 - pqN mot r = z
    by_cases c1 : (1 : Int32) < z
    · rw [if_pos c1, if_pos (Int32.le_of_lt c1)]
    · rw [if_neg c1]
      by_cases c2 : (1 : Int32) ≤ z
      · rw [if_pos c2]
        exact congrArg some (Int32.le_antisymm c2 (Int32.not_lt.mp c1))
      · rw [if_neg c2]
  · simp only [c, ↓reduceIte, Bool.false_eq_true]
theorem pq_isCalled {fu n r : Nat} {b : Nat → Nat} {cl op pu dr s : Nat → Int32} {inp mot : Int32} (h : pqR n b cl op pu dr inp s) (hm : pqM n mot s) (hz : pqZ n mot) (hr : r < n) (hf : 4096 ≤ fu) : F_X4_isCalled fu s (nI r) = some ((pqC b cl op (inp ||| ((mot &&& (63 : Int32)) <<< ((4 : Int32) &&& (31 : Int32)))) n >>> (nI r &&& (31 : Int32))) &&& (1 : Int32)) := by
  simp only [F_X4_isCalled, pq_codeOf h.1 h.2.1 hm hz hf, Option.bind_some, F_X4_upOf, pq_called2 h hf]
theorem pq_due2 {fu n r : Nat} {b : Nat → Nat} {cl op pu dr s : Nat → Int32} {inp mot : Int32} (h : pqR n b cl op pu dr inp s) (hm : pqM n mot s) (hz : pqZ n mot) (hr : r < n) (hf : 4096 ≤ fu) : F_X4_ticksTo fu s (nI r) = some (if bt (pqU n b cl op inp mot) r = true then (if (1 : Int32) ≤ (if bt mot r = true then dr r else pu r) + 1 - pqN mot r then (if bt mot r = true then dr r else pu r) + 1 - pqN mot r else 1) else 0) := by
  have hn := h.1
  have q := h.2.2.2 r hr
  have hU : bt (pqU n b cl op inp mot) r = (bt (pqC b cl op (inp ||| ((mot &&& (63 : Int32)) <<< ((4 : Int32) &&& (31 : Int32)))) n) r ^^ bt mot r) := by
    unfold pqU
    rw [b_xor, b_and, b_63, decide_eq_true (by omega), Bool.and_true]
  rw [hU]
  simp (disch := omega) only [F_X4_ticksTo, pq_of0, (hm r hr).1, Option.bind_some, F_X4_ticksTo_J18, pq_isCalled h hm hz hr hf, F_X4_ticksTo_J52, pq_bit]
  generalize bt (pqC b cl op (inp ||| ((mot &&& (63 : Int32)) <<< ((4 : Int32) &&& (31 : Int32)))) n) r = c1
  cases c1 <;> cases c2 : bt mot r <;> simp (disch := omega) only [↓reduceIte, pq_10, pq_01, Bool.false_eq_true, Bool.xor_false, Bool.false_xor, Bool.xor_self, Bool.xor_true, Bool.not_false, Bool.not_true, pq_of1, pq_of2, pq_of3, q.2.1, q.2.2.1, (hm r hr).2, Option.bind_some] <;> first | done | (split <;> rfl)
theorem pq_prop {fu n r : Nat} {b : Nat → Nat} {br cl op pu dr cg s : Nat → Int32} {inp mot tk ch : Int32} (h : pqLad n b br cl op pu dr cg inp mot tk ch s) (hr : r < n) (hf : 4096 ≤ fu) (what : Int32) : ∃ v, F_X3_propertyOf fu (nI n) inp mot br cl op pu dr cg (nI r) what = some v ∧ F_X4_ofRelay fu s (nI r) what = some v := by
  obtain ⟨hb, hR, hm, hz, hx, ho, hk, hi, ht⟩ := h
  have hn := hb.1
  have q := hR.2.2.2 r hr
  unfold F_X3_propertyOf F_X4_ofRelay
  by_cases w0 : what = 0
  · simp (disch := omega) only [w0, ↓reduceIte, F_X0_up, F_X0_upIn, Option.bind_some, pq_of0, (hm r hr).1, pq_bit63]
    exact ⟨_, rfl, rfl⟩
  by_cases w1 : what = 1
  · simp (disch := omega) only [w1, pq_10, ↓reduceIte, F_X0_called, F_X0_signals, F_X0_upIn, Option.bind_some, pq_calledBy hb.1 hb.2 hf, pq_isCalled hR hm hz hr hf]
    exact ⟨_, rfl, rfl⟩
  by_cases w2 : what = 2
  · simp (disch := omega) only [w0, w1, if_pos w2, ↓reduceIte, pq_ctIn, Option.bind_some, pq_of1, (hm r hr).2]
    exact ⟨_, rfl, rfl⟩
  by_cases w3 : what = 3
  · simp (disch := omega) only [w0, w1, w2, if_pos w3, ↓reduceIte, pq_rd, Option.bind_some, pq_of2, q.2.1]
    exact ⟨_, rfl, rfl⟩
  by_cases w4 : what = 4
  · simp (disch := omega) only [w0, w1, w2, w3, if_pos w4, ↓reduceIte, pq_rd, Option.bind_some, pq_of3, q.2.2.1]
    exact ⟨_, rfl, rfl⟩
  by_cases w5 : what = 5
  · simp (disch := omega) only [w0, w1, w2, w3, w4, if_pos w5, ↓reduceIte, pq_rd, Option.bind_some, pq_of4, q.2.2.2.1, (hb.2 r hr).1]
    exact ⟨_, rfl, rfl⟩
  by_cases w6 : what = 6
  · simp (disch := omega) only [w0, w1, w2, w3, w4, w5, if_pos w6, ↓reduceIte, pq_holds1 (fu := fu) (cl := cl) (by omega) (hb.2 r hr).1 q.1 hf, pq_holds2 (fu := fu) (cl := cl) (by omega) q.2.2.2.1 q.1 (fun j hj => (q.2.2.2.2 j hj).1) hf, Option.bind_some]
    split <;> exact ⟨_, rfl, rfl⟩
  by_cases w7 : what = 7
  · simp (disch := omega) only [w0, w1, w2, w3, w4, w5, w6, if_pos w7, ↓reduceIte, pq_rd, Option.bind_some, pq_of5, hx.2.2 r hr]
    exact ⟨_, rfl, rfl⟩
  simp (disch := omega) only [w0, w1, w2, w3, w4, w5, w6, w7, ↓reduceIte, pq_due1 hb hr hf, pq_due2 hR hm hz hr hf, Option.bind_some]
  exact ⟨_, rfl, rfl⟩
/-! contacts of a branch -/
theorem pqOn_or {x y : Int32} (h : ∀ i, i < 32 → bt x i = true → bt y i = false) : ∀ i, i ≤ 16 → pqOn (x ||| y) i = pqOn x i + pqOn y i
  | 0, _ => rfl
  | i + 1, hi => by
    unfold pqOn
    rw [pqOn_or h i (by omega), pq_bit (by omega), pq_bit (by omega), pq_bit (by omega), b_or]
    have e := h i (by omega)
    have e4 : pqOn x i + pqOn y i + 1 = pqOn x i + 1 + pqOn y i := by rw [Int32.add_assoc, Int32.add_comm (pqOn y i) 1, ← Int32.add_assoc]
    cases cx : bt x i <;> cases cy : bt y i
    · show pqOn x i + pqOn y i + 0 = pqOn x i + 0 + (pqOn y i + 0)
      rw [Int32.add_zero, Int32.add_zero, Int32.add_zero]
    · show pqOn x i + pqOn y i + 1 = pqOn x i + 0 + (pqOn y i + 1)
      rw [Int32.add_zero, Int32.add_assoc]
    · show pqOn x i + pqOn y i + 1 = pqOn x i + 1 + (pqOn y i + 0)
      rw [Int32.add_zero, e4]
    · rw [e cx] at cy
      cases cy
theorem pqOn_pos {x : Int32} {q : Nat} (h : bt x q = true) : ∀ i, q < i → i ≤ 16 → ∃ k, 1 ≤ k ∧ k ≤ i ∧ pqOn x i = nI k
  | 0, h1, _ => absurd h1 (Nat.not_lt_zero _)
  | i + 1, h1, h2 => by
    unfold pqOn
    rcases Nat.lt_or_ge q i with c | c
    · obtain ⟨k, h3, h4, e⟩ := pqOn_pos h i c (by omega)
      rw [e, pq_bit (by omega)]
      split
      · exact ⟨k + 1, by omega, by omega, nI_1 k⟩
      · exact ⟨k, by omega, by omega, nI_add k 0⟩
    · obtain rfl : q = i := by omega
      obtain ⟨k, h4, e⟩ := pqOn_n x q (by omega)
      rw [e, pq_bit (by omega), if_pos h]
      exact ⟨k + 1, by omega, by omega, nI_1 k⟩
theorem pqOn_z {x : Int32} (h : ∃ k, k < 1024 ∧ x = nI k) : (pqOn x 16 = 0) ↔ (x = 0) := by
  constructor
  · intro e
    apply b_ext
    intro i hi
    rw [b_0]
    by_cases c : bt x i = true
    · exfalso
      obtain ⟨k, hk, rfl⟩ := h
      have h10 : i < 10 := by
        rcases Nat.lt_or_ge i 10 with z | z
        · exact z
        · rw [b_nI, Nat.testBit_lt_two_pow (Nat.lt_of_lt_of_le (by omega : k < 2 ^ 10) (Nat.pow_le_pow_right (by decide) z)), Bool.and_false] at c
          cases c
      obtain ⟨m, h1, h2, e2⟩ := pqOn_pos c 16 (by omega) (by omega)
      rw [e2] at e
      exact nI_ne0 (by omega) (by omega) e
    · exact Bool.eq_false_iff.mpr c
  · rintro rfl
    exact pqOn_0 16 (by omega)
theorem pqMk_and {n : Nat} {x : Int32} (h : pqMk n x) (y : Int32) : pqMk n (x &&& y) := by
  obtain ⟨k, hk, rfl⟩ := h
  apply pq_small
  intro i h1 h2
  rw [b_and, b_nI, Nat.testBit_lt_two_pow (Nat.lt_of_lt_of_le hk (Nat.pow_le_pow_right (by decide) h1)), Bool.and_false, Bool.false_and]
theorem pqMk_or {n : Nat} {x y : Int32} (h : pqMk n x) (h2 : pqMk n y) : pqMk n (x ||| y) := by
  obtain ⟨k, hk, rfl⟩ := h
  obtain ⟨m, hm, rfl⟩ := h2
  exact ⟨k ||| m, Nat.or_lt_two_pow hk hm, fa_or k m⟩
theorem pq_cont {fu n r j : Nat} {b : Nat → Nat} {br cl op pu dr cg s : Nat → Int32} {inp mot tk ch : Int32} (h : pqLad n b br cl op pu dr cg inp mot tk ch s) (hr : r < n) (hj : j < b r) (hf : 4096 ≤ fu) (what : Int32) : ∃ v, F_X3_contactAnswer fu inp mot cl op (nI r) (nI j) what = some v ∧ F_X4_ofBranch fu s (nI r) (nI j) what = some v := by
  obtain ⟨hb, hR, hm, hz, hx, ho, hk, hi, ht⟩ := h
  have hn := hb.1
  have q := hR.2.2.2 r hr
  have q4 := q.1
  obtain ⟨k1, k2⟩ := hk r hr j hj
  obtain ⟨e1, e2⟩ := q.2.2.2.2 j hj
  unfold F_X3_contactAnswer F_X4_ofBranch
  simp (disch := omega) only [F_X0_placeOf, pq_4, pq_62, nI_1, pq_of, e1, e2, Option.bind_some, pq_rd1, hR.2.2.1, pq_codeOf hR.1 hR.2.1 hm hz hf, F_X4_upOf, pq_ones, pq_rd, F_X0_signals, F_X0_upIn, F_X0_contactsAgainst]
  obtain ⟨on, hon⟩ : ∃ on, on = inp ||| ((mot &&& (63 : Int32)) <<< ((4 : Int32) &&& (31 : Int32))) := ⟨_, rfl⟩
  rw [← hon]
  have hM := pqMk_1024 hn (pqMk_or (pqMk_and k1 (on ^^^ (-1 : Int32))) (pqMk_and k2 on))
  have hor := pqOn_or (x := cl (4 * r + j) &&& (on ^^^ (-1 : Int32))) (y := op (4 * r + j) &&& on) (fun i hi e => by
    rw [b_and, b_not on hi] at e
    rw [b_and]
    revert e
    generalize bt (cl (4 * r + j)) i = z1
    generalize bt (op (4 * r + j)) i = z2
    generalize bt on i = z3
    revert z1 z2 z3
    decide) 16 (by omega)
  have hz0 := pqOn_z hM
  rw [hor] at hz0
  by_cases w0 : what = 0
  · simp only [w0, ↓reduceIte]
    exact ⟨_, rfl, rfl⟩
  by_cases w1 : what = 1
  · simp only [w1, pq_10, ↓reduceIte]
    exact ⟨_, rfl, rfl⟩
  by_cases w2 : what = 2
  · by_cases q9 : (cl (4 * r + j) &&& (on ^^^ (-1 : Int32))) ||| (op (4 * r + j) &&& on) = 0
    · simp only [w0, w1, if_pos w2, hz0, q9, ↓reduceIte]
      exact ⟨_, rfl, rfl⟩
    · simp only [w0, w1, if_pos w2, hz0, q9, ↓reduceIte]
      exact ⟨_, rfl, rfl⟩
  simp only [w0, w1, w2, ↓reduceIte, pq_bc hM, hor, Option.bind_some]
  exact ⟨_, rfl, rfl⟩
theorem pq_num {fu n : Nat} {b : Nat → Nat} {br cl op pu dr cg s : Nat → Int32} {inp mot tk ch sv : Int32} (h : pqLad n b br cl op pu dr cg inp mot tk ch s) (hf : 4096 ≤ fu) (what : Int32) : ∃ v, F_X3_numberOf fu sv (nI n) inp mot tk ch br cl op what = some v ∧ F_X4_counts fu sv s what = some v := by
  obtain ⟨hb, hR, hm, hz, hx, ho, hk, hi, ht⟩ := h
  have hn := hb.1
  have hbc := pq_bcb (fu := fu) (x := pqU n b cl op inp mot) (fun i h hi => pqU_bits hz hi (by omega))
  unfold F_X3_numberOf F_X4_counts
  rw [pq_codeOf hR.1 hR.2.1 hm hz hf]
  simp only [Option.bind_some, F_X4_upOf]
  by_cases w0 : what = 0
  · simp (disch := omega) only [w0, ↓reduceIte, pq_rd0, hR.2.1, Option.bind_some]
    exact ⟨_, rfl, rfl⟩
  by_cases w1 : what = 1
  · simp (disch := omega) only [w1, pq_10, ↓reduceIte, F_X0_up, F_X0_upIn, Option.bind_some]
    exact ⟨_, rfl, rfl⟩
  by_cases w2 : what = 2
  · simp (disch := omega) only [w0, w1, if_pos w2, ↓reduceIte, F_X0_called, F_X0_signals, F_X0_upIn, Option.bind_some, pq_calledBy hb.1 hb.2 hf, pq_called2 hR hf]
    exact ⟨_, rfl, rfl⟩
  by_cases w3 : what = 3
  · simp (disch := omega) only [w0, w1, w2, if_pos w3, ↓reduceIte, pq_restless hb hf, Option.bind_some, hbc, F_X4_unquiet, pq_codeOf hR.1 hR.2.1 hm hz hf, F_X4_upOf, pq_called2 hR hf, pq_ones]
    exact ⟨_, rfl, rfl⟩
  by_cases w4 : what = 4
  · simp (disch := omega) only [w0, w1, w2, w3, if_pos w4, ↓reduceIte, pq_rd1, hR.2.2.1, Option.bind_some]
    exact ⟨_, rfl, rfl⟩
  by_cases w5 : what = 5
  · subst w5
    simp (disch := omega) only [show ¬ (5 : Int32) = 0 by decide, show ¬ (5 : Int32) = 1 by decide, show ¬ (5 : Int32) = 2 by decide, show ¬ (5 : Int32) = 3 by decide, show ¬ (5 : Int32) = 4 by decide, show ¬ (5 : Int32) = 6 by decide, ↓reduceIte, pq_allB1 hb hf, pq_allB2 hR hf, Option.bind_some]
    exact ⟨_, rfl, rfl⟩
  by_cases w6 : what = 6
  · subst w6
    simp (disch := omega) only [show ¬ (6 : Int32) = 0 by decide, show ¬ (6 : Int32) = 1 by decide, show ¬ (6 : Int32) = 2 by decide, show ¬ (6 : Int32) = 3 by decide, show ¬ (6 : Int32) = 4 by decide, show ¬ (6 : Int32) = 5 by decide, ↓reduceIte, pq_allC1 hb hk hf, pq_allC2 hR ho hf, Option.bind_some]
    exact ⟨_, rfl, rfl⟩
  by_cases w7 : what = 7
  · simp (disch := omega) only [w0, w1, w2, w3, w4, w5, w6, if_pos w7, ↓reduceIte, pq_rd2, hx.1, Option.bind_some]
    exact ⟨_, rfl, rfl⟩
  by_cases w8 : what = 8
  · simp (disch := omega) only [w0, w1, w2, w3, w4, w5, w6, w7, if_pos w8, ↓reduceIte, pq_rd3, hx.2.1, Option.bind_some]
    exact ⟨_, rfl, rfl⟩
  simp only [w0, w1, w2, w3, w4, w5, w6, w7, w8, ↓reduceIte]
  exact ⟨_, rfl, rfl⟩
