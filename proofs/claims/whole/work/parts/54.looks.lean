/-! Looks at a ladder: class and reference, pure. -/
theorem pq_and1 {x : Int32} {k : Nat} (hk : k < 32) : (x &&& ((1 : Int32) <<< (nI k &&& (31 : Int32))) = 0) ↔ bt x k = false := by
  constructor
  · intro h
    have e : bt (x &&& ((1 : Int32) <<< (nI k &&& (31 : Int32)))) k = bt 0 k := by rw [h]
    rw [b_and, b_one hk hk, decide_eq_true rfl, Bool.and_true, b_0] at e
    exact e
  · intro h
    apply b_ext
    intro i hi
    rw [b_and, b_one hk hi, b_0]
    rcases Nat.decEq i k with c | c
    · rw [decide_eq_false c, Bool.and_false]
    · rw [c, h, Bool.false_and]
/-! a relay that holds itself -/
def pqH (cl : Nat → Int32) (r : Nat) : Nat → Int32
  | 0 => 0
  | j + 1 => if pqH cl r j = 0 then (if bt (cl (4 * r + j)) (4 + r) = true then 1 else 0) else 1
theorem pqH_01 (cl : Nat → Int32) (r : Nat) : ∀ j, pqH cl r j = 0 ∨ pqH cl r j = 1
  | 0 => Or.inl rfl
  | j + 1 => by
    unfold pqH
    split
    · split
      · exact Or.inr rfl
      · exact Or.inl rfl
    · exact Or.inr rfl
theorem pqH_up {cl : Nat → Int32} {r i : Nat} (h : pqH cl r i = 1) : ∀ k, pqH cl r (i + k) = 1
  | 0 => h
  | k + 1 => by
    show (if pqH cl r (i + k) = 0 then _ else _) = _
    rw [pqH_up h k, if_neg pq_10]
theorem pq_holds1 {fu r b : Nat} {br cl : Nat → Int32} (hr : r < 6) (hb : br r = nI b) (hb4 : b ≤ 4) (hf : 4096 ≤ fu) : F_X0_holdsItself fu br cl (nI r) = some (pqH cl r b) := by
  unfold F_X0_holdsItself
  refine zlp_t1 (Q := fun o => o = some (pqH cl r b)) b (fun i a => a = nI i ∧ pqH cl r i = 0) ?_ (by omega) _ ⟨rfl, rfl⟩
  rintro rec i hi hrec a ⟨rfl, h0⟩
  rcases Nat.lt_or_ge i b with c | c
  · simp (disch := omega) only [F_X0_holdsItself_L8, pq_rd, hb, Option.bind_some, nI_leI, show ¬ b ≤ i by omega, ↓reduceIte, F_X0_placeOf, pq_4, pq_4p, pq_and1, nI_1]
    by_cases c1 : bt (cl (4 * r + i)) (4 + r) = true
    · have h1 : pqH cl r (i + 1) = 1 := by
        unfold pqH
        rw [h0, if_pos rfl, if_pos c1]
      have h2 := pqH_up h1 (b - (i + 1))
      rw [show i + 1 + (b - (i + 1)) = b by omega] at h2
      rw [if_neg (by rw [c1]; decide), h2]
    · rw [if_pos (Bool.not_eq_true _ ▸ c1)]
      refine hrec c _ ⟨rfl, ?_⟩
      unfold pqH
      rw [h0, if_pos rfl, if_neg c1]
  · obtain rfl : i = b := by omega
    simp (disch := omega) only [F_X0_holdsItself_L8, pq_rd, hb, Option.bind_some, nI_leI, Nat.le_refl, ↓reduceIte, F_X0_holdsItself_E41, h0]
theorem pq_holds2 {fu r b : Nat} {s cl : Nat → Int32} (hr : r < 6) (hb : s (4 + 14 * r + 4) = nI b) (hb4 : b ≤ 4) (hc : ∀ j, j < b → s (4 + 14 * r + (6 + 2 * j)) = cl (4 * r + j)) (hf : 4096 ≤ fu) : F_X4_holdsItself fu s (nI r) = some (pqH cl r b) := by
  unfold F_X4_holdsItself
  refine zlp_r2 (fun j => pqH cl r j) (fun j => nI j) b ?_ ?_ (by omega)
  · intro rec j hj
    simp (disch := omega) only [F_X4_holdsItself_L4, pq_of4, hb, Option.bind_some, nI_leI, show ¬ b ≤ j by omega, ↓reduceIte, pq_62, pq_of, pq_4p, pq_bit1, hc j hj, nI_1, pqH]
    by_cases c1 : pqH cl r j = 0 <;> by_cases c2 : bt (cl (4 * r + j)) (4 + r) = true <;> simp only [c1, c2, ↓reduceIte, Bool.false_eq_true]
  · intro rec
    simp (disch := omega) only [F_X4_holdsItself_L4, pq_of4, hb, Option.bind_some, nI_leI, Nat.le_refl, ↓reduceIte, F_X4_holdsItself_E57]
    unfold zbo
    rw [if_pos (pqH_01 cl r b)]
    rfl
/-! sums over relays -/
def pqAb (b : Nat → Nat) : Nat → Int32
  | 0 => 0
  | r + 1 => pqAb b r + nI (b r)
theorem pq_allB1 {fu n : Nat} {b : Nat → Nat} {br : Nat → Int32} (hb : pqB n b br) (hf : 4096 ≤ fu) : F_X0_allBranches fu (nI n) br = some (pqAb b n) := by
  have hn := hb.1
  unfold F_X0_allBranches
  refine zlp_r2 (fun r => pqAb b r) (fun r => nI r) n ?_ ?_ (by omega)
  · intro rec r z
    simp (disch := omega) only [F_X0_allBranches_L4, nI_leI, show ¬ n ≤ r by omega, ↓reduceIte, pq_rd, (hb.2 r z).1, Option.bind_some, nI_1, pqAb]
  · intro rec
    simp (disch := omega) only [F_X0_allBranches_L4, nI_leI, Nat.le_refl, ↓reduceIte, F_X0_allBranches_E27]
theorem pq_146 : ¬ (14 : Int32) ≤ 6 := by decide
theorem pq_allB2 {fu n : Nat} {b : Nat → Nat} {cl op pu dr s : Nat → Int32} {inp : Int32} (h : pqR n b cl op pu dr inp s) (hf : 4096 ≤ fu) : F_X4_inRungs fu s 0 = some (pqAb b n) := by
  obtain ⟨hn, h0, h1, hr⟩ := h
  unfold F_X4_inRungs
  refine zlp_r2 (fun r => pqAb b r) (fun r => nI r) n ?_ ?_ (by omega)
  · intro rec r z
    obtain ⟨g, rfl⟩ : ∃ g, fu = g + 1 := ⟨fu - 1, by omega⟩
    simp (disch := omega) only [F_X4_inRungs_L4, pq_rd0, h0, nI_leI, show ¬ n ≤ r by omega, ↓reduceIte, pq_of4, (hr r z).2.2.2.1, Option.bind_some, F_X4_inRungs_J32, zlp_s2, F_X4_inRungs_L38, pq_146, F_X4_inRungs_E71, nI_1, pqAb]
  · intro rec
    simp (disch := omega) only [F_X4_inRungs_L4, pq_rd0, h0, Option.bind_some, nI_leI, Nat.le_refl, ↓reduceIte, F_X4_inRungs_E77]
def pqAc1 (cl op : Nat → Int32) (r : Nat) (acc : Int32) : Nat → Int32
  | 0 => acc
  | j + 1 => pqAc1 cl op r acc j + (pqOn (cl (4 * r + j)) 16 + pqOn (op (4 * r + j)) 16)
def pqAc (b : Nat → Nat) (cl op : Nat → Int32) : Nat → Int32
  | 0 => 0
  | r + 1 => pqAc1 cl op r (pqAc b cl op r) (b r)
/-- masks of contacts that there are -/
def pqMk (n : Nat) (v : Int32) : Prop := ∃ k, k < 2 ^ (4 + n) ∧ v = nI k
theorem pqMk_1024 {n : Nat} {v : Int32} (hn : n ≤ 6) (h : pqMk n v) : ∃ k, k < 1024 ∧ v = nI k := by
  obtain ⟨k, hk, e⟩ := h
  exact ⟨k, Nat.lt_of_lt_of_le hk (Nat.pow_le_pow_right (by decide) (by omega : 4 + n ≤ 10)), e⟩
def pqK (n : Nat) (b : Nat → Nat) (cl op : Nat → Int32) : Prop := ∀ r, r < n → ∀ j, j < b r → pqMk n (cl (4 * r + j)) ∧ pqMk n (op (4 * r + j))
theorem pq_allC1_in {fu n r b : Nat} {br cl op : Nat → Int32} {k : Int32 → Int32 → Option Int32} (hn : n ≤ 6) (hr : r < 6) (hb : br r = nI b) (hb4 : b ≤ 4) (hk : ∀ j, j < b → pqMk n (cl (4 * r + j)) ∧ pqMk n (op (4 * r + j))) (hf : 4096 ≤ fu) (acc : Int32) : zlp2 (F_X0_allContacts_L14 fu br cl op (nI r) k) fu acc 0 = k (pqAc1 cl op r acc b) (nI b) := by
  refine zlp_r2 (fun j => pqAc1 cl op r acc j) (fun j => nI j) b ?_ ?_ (by omega)
  · intro rec j hj
    simp (disch := omega) only [F_X0_allContacts_L14, pq_rd, hb, Option.bind_some, nI_leI, show ¬ b ≤ j by omega, ↓reduceIte, F_X0_placeOf, pq_4, pq_bc (pqMk_1024 hn (hk j hj).1), pq_bc (pqMk_1024 hn (hk j hj).2), nI_1, pqAc1]
  · intro rec
    simp (disch := omega) only [F_X0_allContacts_L14, pq_rd, hb, Option.bind_some, nI_leI, Nat.le_refl, ↓reduceIte]
theorem pq_allC1 {fu n : Nat} {b : Nat → Nat} {br cl op : Nat → Int32} (hb : pqB n b br) (hk : pqK n b cl op) (hf : 4096 ≤ fu) : F_X0_allContacts fu (nI n) br cl op = some (pqAc b cl op n) := by
  have hn := hb.1
  unfold F_X0_allContacts
  refine zlp_r2 (fun r => pqAc b cl op r) (fun r => nI r) n ?_ ?_ (by omega)
  · intro rec r z
    simp (disch := omega) only [F_X0_allContacts_L4, nI_leI, show ¬ n ≤ r by omega, ↓reduceIte]
    rw [pq_allC1_in hn (by omega) (hb.2 r z).1 (hb.2 r z).2 (hk r z) hf]
    simp only [F_X0_allContacts_E61, nI_1, pqAc]
  · intro rec
    simp (disch := omega) only [F_X0_allContacts_L4, nI_leI, Nat.le_refl, ↓reduceIte, F_X0_allContacts_E67]
/-- rungs beyond a relay's branches are zero in the row -/
def pqO (n : Nat) (b : Nat → Nat) (s : Nat → Int32) : Prop := ∀ r, r < n → ∀ k, 2 * b r ≤ k → k < 8 → s (4 + 14 * r + (6 + k)) = 0
def pqAi (s : Nat → Int32) (r : Nat) (acc : Int32) : Nat → Int32
  | 0 => acc
  | k + 1 => pqAi s r acc k + pqOn (s (4 + 14 * r + (6 + k))) 16
theorem pqOn_0 : ∀ i, i ≤ 16 → pqOn 0 i = 0
  | 0, _ => rfl
  | i + 1, h => by
    unfold pqOn
    rw [pqOn_0 i (by omega), pq_bit (by omega), b_0]
    rfl
theorem pqAi_lo {s cl op : Nat → Int32} {r b : Nat} {acc : Int32} (hc : ∀ j, j < b → s (4 + 14 * r + (6 + 2 * j)) = cl (4 * r + j) ∧ s (4 + 14 * r + (6 + 2 * j + 1)) = op (4 * r + j)) : ∀ j, j ≤ b → pqAi s r acc (2 * j) = pqAc1 cl op r acc j
  | 0, _ => rfl
  | j + 1, h => by
    have q := hc j (by omega)
    show pqAi s r acc (2 * j) + pqOn (s (4 + 14 * r + (6 + 2 * j))) 16 + pqOn (s (4 + 14 * r + (6 + (2 * j + 1)))) 16 = _
    rw [pqAi_lo hc j (by omega), ← Nat.add_assoc 6 (2 * j) 1, q.1, q.2, Int32.add_assoc]
    rfl
theorem pqAi_hi {s : Nat → Int32} {r b : Nat} {acc : Int32} (hz : ∀ k, 2 * b ≤ k → k < 8 → s (4 + 14 * r + (6 + k)) = 0) : ∀ k, 2 * b + k ≤ 8 → pqAi s r acc (2 * b + k) = pqAi s r acc (2 * b)
  | 0, _ => rfl
  | k + 1, h => by
    show pqAi s r acc (2 * b + k) + pqOn (s (4 + 14 * r + (6 + (2 * b + k)))) 16 = _
    rw [hz (2 * b + k) (by omega) (by omega), pqOn_0 16 (by omega), Int32.add_zero]
    exact pqAi_hi hz k (by omega)
theorem pq_14le {k : Nat} (h : k < 8) : ¬ (14 : Int32) ≤ nI (6 + k) := nI_ge (b := 14) (a := 6 + k) (by omega) (by omega)
theorem pq_allC2_in {fu r : Nat} {s : Nat → Int32} {k : Int32 → Int32 → Option Int32} (hr : r < 6) (hf : 4096 ≤ fu) (acc : Int32) : zlp2 (F_X4_inRungs_L38 fu s 1 (nI r) k) fu acc 6 = k (pqAi s r acc 8) (nI 14) := by
  refine zlp_r2 (fun i => pqAi s r acc i) (fun i => nI (6 + i)) 8 ?_ ?_ (by omega)
  · intro rec j hj
    simp (disch := omega) only [F_X4_inRungs_L38, pq_14le hj, pq_10, ↓reduceIte, pq_of, Option.bind_some, pq_ones, nI_1, pqAi]
    rfl
  · intro rec
    simp only [F_X4_inRungs_L38, show (14 : Int32) ≤ nI (6 + 8) by decide, ↓reduceIte]
theorem pq_allC2 {fu n : Nat} {b : Nat → Nat} {cl op pu dr s : Nat → Int32} {inp : Int32} (h : pqR n b cl op pu dr inp s) (ho : pqO n b s) (hf : 4096 ≤ fu) : F_X4_inRungs fu s 1 = some (pqAc b cl op n) := by
  obtain ⟨hn, h0, h1, hr⟩ := h
  unfold F_X4_inRungs
  refine zlp_r2 (fun r => pqAc b cl op r) (fun r => nI r) n ?_ ?_ (by omega)
  · intro rec r z
    have q := hr r z
    have e : pqAi s r (pqAc b cl op r) 8 = pqAc1 cl op r (pqAc b cl op r) (b r) := by
      have e1 := pqAi_hi (acc := pqAc b cl op r) (ho r z) (8 - 2 * b r) (by have := q.1; omega)
      rw [show 2 * b r + (8 - 2 * b r) = 8 by have := q.1; omega] at e1
      rw [e1]
      exact pqAi_lo q.2.2.2.2 (b r) (Nat.le_refl _)
    simp (disch := omega) only [F_X4_inRungs_L4, pq_rd0, h0, nI_leI, show ¬ n ≤ r by omega, ↓reduceIte, Option.bind_some, F_X4_inRungs_J32, pq_10, Int32.add_zero]
    rw [pq_allC2_in (by omega) hf, e]
    simp only [F_X4_inRungs_E71, nI_1, pqAc]
  · intro rec
    simp (disch := omega) only [F_X4_inRungs_L4, pq_rd0, h0, Option.bind_some, nI_leI, Nat.le_refl, ↓reduceIte, F_X4_inRungs_E77]
