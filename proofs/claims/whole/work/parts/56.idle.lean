/-! A branch that is never needed: class and reference, pure. -/
theorem pq_and2 (x y : Nat) {a b : Nat} (ha : a < 2) (hb : b < 2) : (2 * x + a) &&& (2 * y + b) = 2 * (x &&& y) + (a &&& b) := by
  have hab : a &&& b ≤ a := Nat.and_le_left
  apply Nat.eq_of_testBit_eq
  intro i
  cases i with
  | zero =>
    rw [Nat.testBit_and, Nat.testBit_zero, Nat.testBit_zero, Nat.testBit_zero]
    obtain rfl | rfl : a = 0 ∨ a = 1 := by omega
    · rw [show (0 &&& b) = 0 from Nat.zero_and b, show (2 * x + 0) % 2 = 0 by omega, show (2 * (x &&& y) + 0) % 2 = 0 by omega]
      rfl
    · obtain rfl | rfl : b = 0 ∨ b = 1 := by omega
      · rw [show (1 &&& 0 : Nat) = 0 from rfl, show (2 * x + 1) % 2 = 1 by omega, show (2 * y + 0) % 2 = 0 by omega, show (2 * (x &&& y) + 0) % 2 = 0 by omega]
        rfl
      · rw [show (1 &&& 1 : Nat) = 1 from rfl, show (2 * x + 1) % 2 = 1 by omega, show (2 * y + 1) % 2 = 1 by omega, show (2 * (x &&& y) + 1) % 2 = 1 by omega]
        rfl
  | succ i =>
    rw [Nat.testBit_and, Nat.testBit_succ, Nat.testBit_succ, Nat.testBit_succ, show (2 * x + a) / 2 = x by omega, show (2 * y + b) / 2 = y by omega, show (2 * (x &&& y) + (a &&& b)) / 2 = x &&& y by omega, Nat.testBit_and]
theorem pq_half (x : Nat) : ∃ h a, a < 2 ∧ x = 2 * h + a := ⟨x / 2, x % 2, Nat.mod_lt _ (by decide), by omega⟩
theorem pq_subh {x y a b : Nat} (ha : a < 2) (hb : b < 2) (h : (2 * x + a) &&& (2 * y + b) = 2 * x + a) : x &&& y = x ∧ a ≤ b := by
  rw [pq_and2 x y ha hb] at h
  have h1 : a &&& b ≤ a := Nat.and_le_left
  have h2 : a &&& b ≤ b := Nat.and_le_right
  constructor <;> omega
theorem pq_fill : ∀ (w s A : Nat), A < 2 ^ w → s &&& A = s → (s + (2 ^ w - 1 - A)) &&& A = s
  | 0, s, A, h, hs => by
    obtain rfl : A = 0 := by
      have : (2 : Nat) ^ 0 = 1 := rfl
      omega
    rw [Nat.and_zero] at hs ⊢
    exact hs
  | w + 1, s, A, h, hs => by
    obtain ⟨s', c, hc, rfl⟩ := pq_half s
    obtain ⟨A', a, ha, rfl⟩ := pq_half A
    obtain ⟨h1, h2⟩ := pq_subh hc ha hs
    rw [Nat.pow_succ] at h ⊢
    have ih := pq_fill w s' A' (by omega) h1
    have hA : A' < 2 ^ w := by omega
    have hp : 2 ^ w = 2 ^ w := rfl
    obtain rfl | rfl : a = 0 ∨ a = 1 := by omega
    · obtain rfl : c = 0 := by omega
      rw [show 2 * s' + 0 + (2 ^ w * 2 - 1 - (2 * A' + 0)) = 2 * (s' + (2 ^ w - 1 - A')) + 1 by omega, pq_and2 _ _ (by decide) (by decide), ih]
      rfl
    · obtain rfl | rfl : c = 0 ∨ c = 1 := by omega
      · rw [show 2 * s' + 0 + (2 ^ w * 2 - 1 - (2 * A' + 1)) = 2 * (s' + (2 ^ w - 1 - A')) + 0 by omega, pq_and2 _ _ (by decide) (by decide), ih]
        rfl
      · rw [show 2 * s' + 1 + (2 ^ w * 2 - 1 - (2 * A' + 1)) = 2 * (s' + (2 ^ w - 1 - A')) + 1 by omega, pq_and2 _ _ (by decide) (by decide), ih]
        rfl
/-- the next part of a set of bits, upwards -/
theorem pq_next : ∀ (w A s t : Nat), A < 2 ^ w → s &&& A = s → t &&& A = t → s < t → s < (s + (2 ^ w - A)) &&& A ∧ (s + (2 ^ w - A)) &&& A ≤ t
  | 0, A, s, t, h, hs, ht, hst => by
    exfalso
    obtain rfl : A = 0 := by
      have : (2 : Nat) ^ 0 = 1 := rfl
      omega
    rw [Nat.and_zero] at hs ht
    omega
  | w + 1, A, s, t, h, hs, ht, hst => by
    obtain ⟨s', c, hc, rfl⟩ := pq_half s
    obtain ⟨t', d, hd, rfl⟩ := pq_half t
    obtain ⟨A', a, ha, rfl⟩ := pq_half A
    obtain ⟨h1, h2⟩ := pq_subh hc ha hs
    obtain ⟨h3, h4⟩ := pq_subh hd ha ht
    rw [Nat.pow_succ] at h ⊢
    have hA : A' < 2 ^ w := by omega
    obtain rfl | rfl : a = 0 ∨ a = 1 := by omega
    · obtain ⟨i1, i2⟩ := pq_next w A' s' t' hA h1 h3 (by omega)
      rw [show 2 * s' + c + (2 ^ w * 2 - (2 * A' + 0)) = 2 * (s' + (2 ^ w - A')) + 0 by omega, pq_and2 _ _ (by decide) (by decide), show (0 &&& 0 : Nat) = 0 from rfl]
      omega
    · obtain rfl | rfl : c = 0 ∨ c = 1 := by omega
      · rw [show 2 * s' + 0 + (2 ^ w * 2 - (2 * A' + 1)) = 2 * (s' + (2 ^ w - 1 - A')) + 1 by omega, pq_and2 _ _ (by decide) (by decide), pq_fill w s' A' hA h1, show (1 &&& 1 : Nat) = 1 from rfl]
        omega
      · obtain ⟨i1, i2⟩ := pq_next w A' s' t' hA h1 h3 (by omega)
        rw [show 2 * s' + 1 + (2 ^ w * 2 - (2 * A' + 1)) = 2 * (s' + (2 ^ w - A')) + 0 by omega, pq_and2 _ _ (by decide) (by decide), show (0 &&& 1 : Nat) = 0 from rfl]
        omega
theorem pq_subI {s A : Nat} (hA : A < 2 ^ 32) : nI s - nI A = nI (s + (2 ^ 32 - A)) := by
  have h1 : nI (2 ^ 32 - A) + nI A = 0 := by
    rw [nI_add, Nat.sub_add_cancel (Nat.le_of_lt hA)]
    rfl
  have h2 : nI s - nI A + nI A = nI (s + (2 ^ 32 - A)) + nI A := by
    rw [Int32.sub_add_cancel, ← nI_add, Int32.add_assoc, h1, Int32.add_zero]
  have h3 := congrArg (fun z => z - nI A) h2
  simp only [Int32.add_sub_cancel] at h3
  exact h3
theorem pq_le_of_sub {s A : Nat} (h : s &&& A = s) : s ≤ A := by
  rw [← h]
  exact Nat.and_le_right
/-! which branches lead -/
def pqLb (cl op : Nat → Int32) (r : Nat) (on : Int32) (j : Nat) : Bool := decide (cl (4 * r + j) &&& (on ^^^ (-1 : Int32)) = 0) && decide (op (4 * r + j) &&& on = 0)
theorem pq_orz (x y : Int32) : (x ||| y = 0) ↔ (x = 0 ∧ y = 0) := by
  constructor
  · intro h
    constructor
    · apply b_ext
      intro i hi
      have e : bt (x ||| y) i = bt 0 i := by rw [h]
      rw [b_or, b_0, Bool.or_eq_false_iff] at e
      rw [b_0, e.1]
    · apply b_ext
      intro i hi
      have e : bt (x ||| y) i = bt 0 i := by rw [h]
      rw [b_or, b_0, Bool.or_eq_false_iff] at e
      rw [b_0, e.2]
  · rintro ⟨rfl, rfl⟩
    exact pq_or0 0
theorem pqLb_iff {cl op : Nat → Int32} {r j : Nat} {on : Int32} : pqLb cl op r on j = true ↔ ((cl (4 * r + j) &&& (on ^^^ (-1 : Int32))) ||| (op (4 * r + j) &&& on) = 0) := by
  unfold pqLb
  rw [pq_orz, Bool.and_eq_true, decide_eq_true_iff, decide_eq_true_iff]
def pqBl (cl op : Nat → Int32) (r : Nat) (on : Int32) : Nat → Int32
  | 0 => 0
  | j + 1 => if pqLb cl op r on j = true then pqBl cl op r on j ||| ((1 : Int32) <<< (nI j &&& (31 : Int32))) else pqBl cl op r on j
theorem pqBl_bits {cl op : Nat → Int32} {r : Nat} {on : Int32} {i : Nat} (hi : i < 32) : ∀ m, m ≤ 32 → bt (pqBl cl op r on m) i = (decide (i < m) && pqLb cl op r on i)
  | 0, _ => by
    unfold pqBl
    rw [b_0, decide_eq_false (by omega), Bool.false_and]
  | m + 1, h => by
    have ih := pqBl_bits (cl := cl) (op := op) (r := r) (on := on) hi m (by omega)
    unfold pqBl
    rcases Nat.lt_trichotomy i m with c | c | c
    · rw [decide_eq_true (by omega : i < m + 1)]
      rw [decide_eq_true c] at ih
      split
      · rw [b_or, ih, b_one (by omega) hi, decide_eq_false (by omega), Bool.or_false]
      · exact ih
    · subst c
      rw [decide_eq_true (by omega : i < i + 1), Bool.true_and]
      rw [decide_eq_false (by omega), Bool.false_and] at ih
      split
      · rename_i z
        rw [b_or, ih, b_one hi hi, decide_eq_true rfl, z]
        rfl
      · rename_i z
        rw [ih]
        exact (Bool.eq_false_iff.mpr z).symm
    · rw [decide_eq_false (by omega : ¬ i < m + 1), Bool.false_and]
      rw [decide_eq_false (by omega), Bool.false_and] at ih
      split
      · rw [b_or, ih, b_one (by omega) hi, decide_eq_false (by omega), Bool.or_false]
      · exact ih
theorem pq_btl {fu r b : Nat} {br cl op : Nat → Int32} (hr : r < 6) (hb : br r = nI b) (hb4 : b ≤ 4) (hf : 4096 ≤ fu) (on : Int32) : F_X0_branchesThatLead fu br cl op (nI r) on = some (pqBl cl op r on b) := by
  unfold F_X0_branchesThatLead
  refine zlp_r2 (fun j => pqBl cl op r on j) (fun j => nI j) b ?_ ?_ (by omega)
  · intro rec j hj
    simp (disch := omega) only [F_X0_branchesThatLead_L5, pq_rd, hb, Option.bind_some, nI_leI, show ¬ b ≤ j by omega, ↓reduceIte, F_X0_placeOf, pq_4, F_X0_contactsAgainst, nI_1, pqBl, pqLb_iff]
    split <;> rfl
  · intro rec
    simp (disch := omega) only [F_X0_branchesThatLead_L5, pq_rd, hb, Option.bind_some, nI_leI, Nat.le_refl, ↓reduceIte, F_X0_branchesThatLead_E43]
/-- a branch leads, and no other -/
def pqAl (cl op : Nat → Int32) (r b : Nat) (on : Int32) (j : Nat) : Prop := pqLb cl op r on j = true ∧ ∀ k, k < b → k ≠ j → pqLb cl op r on k = false
theorem pq_one1 : ∀ k, k < 16 → ∀ j, j < 4 → ((pqOn (nI k) 16 = 1 ∧ bt (nI k) j = true) ↔ (bt (nI k) j = true ∧ ∀ i, i < 4 → i ≠ j → bt (nI k) i = false)) := by decide +kernel
theorem pq_alone {cl op : Nat → Int32} {r b j : Nat} {on : Int32} (hb4 : b ≤ 4) (hj : j < b) : (pqOn (pqBl cl op r on b) 16 = 1 ∧ bt (pqBl cl op r on b) j = true) ↔ pqAl cl op r b on j := by
  obtain ⟨k, hk, e⟩ := pq_small (x := pqBl cl op r on b) 4 (fun i h1 h2 => by rw [pqBl_bits h2 b (by omega), decide_eq_false (by omega), Bool.false_and])
  have h := pq_one1 k hk j (by omega)
  rw [← e] at h
  rw [h]
  constructor
  · rintro ⟨h1, h2⟩
    rw [pqBl_bits (by omega) b (by omega), decide_eq_true hj, Bool.true_and] at h1
    refine ⟨h1, fun i hi hij => ?_⟩
    have h3 := h2 i (by omega) hij
    rw [pqBl_bits (by omega) b (by omega), decide_eq_true hi, Bool.true_and] at h3
    exact h3
  · rintro ⟨h1, h2⟩
    refine ⟨by rw [pqBl_bits (by omega) b (by omega), decide_eq_true hj, Bool.true_and, h1], fun i hi hij => ?_⟩
    rw [pqBl_bits (by omega) b (by omega)]
    rcases Nat.lt_or_ge i b with c | c
    · rw [h2 i c hij, Bool.and_false]
    · rw [decide_eq_false (by omega), Bool.false_and]
/-! what the branches ask for -/
def pqAk (cl op : Nat → Int32) (r : Nat) : Nat → Int32
  | 0 => 0
  | j + 1 => pqAk cl op r j ||| (cl (4 * r + j) ||| op (4 * r + j))
theorem pqAk_Mk {cl op : Nat → Int32} {n r : Nat} : ∀ m, (∀ j, j < m → pqMk n (cl (4 * r + j)) ∧ pqMk n (op (4 * r + j))) → pqMk n (pqAk cl op r m)
  | 0, _ => ⟨0, Nat.two_pow_pos _, rfl⟩
  | m + 1, h => pqMk_or (pqAk_Mk m (fun j hj => h j (by omega))) (pqMk_or (h m (by omega)).1 (h m (by omega)).2)
theorem pqAk_sub {cl op : Nat → Int32} {r j i : Nat} : ∀ m, j < m → (bt (cl (4 * r + j)) i = true ∨ bt (op (4 * r + j)) i = true) → bt (pqAk cl op r m) i = true
  | 0, h, _ => absurd h (Nat.not_lt_zero _)
  | m + 1, h, h2 => by
    unfold pqAk
    rw [b_or, b_or]
    rcases Nat.lt_or_ge j m with c | c
    · rw [pqAk_sub m c h2, Bool.true_or]
    · obtain rfl : j = m := by omega
      rcases h2 with h2 | h2 <;> rw [h2] <;> simp
theorem pq_ask {fu r b : Nat} {br cl op : Nat → Int32} (hr : r < 6) (hb : br r = nI b) (hb4 : b ≤ 4) (hf : 4096 ≤ fu) : F_X0_contactsOf fu br cl op (nI r) = some (pqAk cl op r b) := by
  unfold F_X0_contactsOf
  refine zlp_r2 (fun j => pqAk cl op r j) (fun j => nI j) b ?_ ?_ (by omega)
  · intro rec j hj
    simp (disch := omega) only [F_X0_contactsOf_L4, pq_rd, hb, Option.bind_some, nI_leI, show ¬ b ≤ j by omega, ↓reduceIte, F_X0_placeOf, pq_4, nI_1, pqAk]
  · intro rec
    simp (disch := omega) only [F_X0_contactsOf_L4, pq_rd, hb, Option.bind_some, nI_leI, Nat.le_refl, ↓reduceIte, F_X0_contactsOf_E45]
theorem pqLb_cut {cl op : Nat → Int32} {r b j : Nat} {on : Int32} (hj : j < b) : pqLb cl op r (on &&& pqAk cl op r b) j = pqLb cl op r on j := by
  have e1 : cl (4 * r + j) &&& ((on &&& pqAk cl op r b) ^^^ (-1 : Int32)) = cl (4 * r + j) &&& (on ^^^ (-1 : Int32)) := by
    apply b_ext
    intro i hi
    rw [b_and, b_and, b_not _ hi, b_not _ hi, b_and]
    cases c : bt (cl (4 * r + j)) i
    · rfl
    · rw [pqAk_sub b hj (Or.inl c), Bool.and_true]
  have e2 : op (4 * r + j) &&& (on &&& pqAk cl op r b) = op (4 * r + j) &&& on := by
    apply b_ext
    intro i hi
    rw [b_and, b_and, b_and]
    cases c : bt (op (4 * r + j)) i
    · rfl
    · rw [pqAk_sub b hj (Or.inr c), Bool.and_true]
  unfold pqLb
  rw [e1, e2]
theorem pqAl_cut {cl op : Nat → Int32} {r b j : Nat} {on : Int32} (hj : j < b) : pqAl cl op r b (on &&& pqAk cl op r b) j ↔ pqAl cl op r b on j := by
  unfold pqAl
  rw [pqLb_cut hj]
  constructor
  · rintro ⟨h1, h2⟩
    exact ⟨h1, fun k hk hkj => by rw [← pqLb_cut (on := on) hk]; exact h2 k hk hkj⟩
  · rintro ⟨h1, h2⟩
    exact ⟨h1, fun k hk hkj => by rw [pqLb_cut hk]; exact h2 k hk hkj⟩
/-! the class's way through all parts of what is asked -/
theorem pq_lone {fu n r b : Nat} {br cl op : Nat → Int32} (hn : n ≤ 6) (hr : r < 6) (hb : br r = nI b) (hb4 : b ≤ 4) (hk : ∀ j, j < b → pqMk n (cl (4 * r + j)) ∧ pqMk n (op (4 * r + j))) (hf : 4096 ≤ fu) : ∃ al, F_X0_branchesLeadingAlone fu br cl op (nI r) = some al ∧ ∀ j, j < b → (bt al j = true ↔ ∃ t, t < 2 ^ (4 + n) ∧ pqAl cl op r b (nI t) j) := by
  unfold F_X0_branchesLeadingAlone
  rw [pq_ask hr hb hb4 hf, Option.bind_some]
  obtain ⟨A, hA, eA⟩ := pqAk_Mk (r := r) b hk
  have hA10 : A < 1024 := Nat.lt_of_lt_of_le hA (Nat.pow_le_pow_right (by decide) (by omega : 4 + n ≤ 10))
  have fin : ∀ al, (∀ j, j < b → (bt al j = true ↔ ∃ t, t &&& A = t ∧ t ≤ A ∧ pqAl cl op r b (nI t) j)) → ∀ j, j < b → (bt al j = true ↔ ∃ t, t < 2 ^ (4 + n) ∧ pqAl cl op r b (nI t) j) := by
    intro al h j hj
    rw [h j hj]
    constructor
    · rintro ⟨t, h1, h2, h3⟩
      exact ⟨t, by omega, h3⟩
    · rintro ⟨t, h1, h2⟩
      refine ⟨t &&& A, by rw [Nat.and_assoc, Nat.and_self], Nat.and_le_right, ?_⟩
      rw [← nx_and, ← eA]
      exact (pqAl_cut hj).mpr h2
  rw [eA]
  refine zlp_t3 (Q := fun o => ∃ al, o = some al ∧ ∀ j, j < b → (bt al j = true ↔ ∃ t, t < 2 ^ (4 + n) ∧ pqAl cl op r b (nI t) j)) 1023 (fun i al sg c => c = nI i ∧ ∃ s, sg = nI s ∧ s &&& A = s ∧ i ≤ s ∧ ∀ j, j < b → (bt al j = true ↔ ∃ t, t &&& A = t ∧ t < s ∧ pqAl cl op r b (nI t) j)) ?_ (by omega) _ _ _ ⟨rfl, 0, rfl, Nat.zero_and A, Nat.le_refl _, fun j _ => by rw [b_0]; exact ⟨fun z => (by cases z), fun ⟨t, _, z, _⟩ => absurd z (Nat.not_lt_zero _)⟩⟩
  rintro rec i hi hrec al sg c ⟨rfl, s, rfl, hs, his, hal⟩
  have hsA := pq_le_of_sub hs
  have hbits := pq_bcb (fu := fu) (x := pqBl cl op r (nI s) b) (fun i h1 h2 => by rw [pqBl_bits h2 b (by omega), decide_eq_false (by omega), Bool.false_and])
  have hnx : (nI s - nI A) &&& nI A = nI ((s + (2 ^ 32 - A)) &&& A) := by rw [pq_subI (by omega), nx_and]
  -- the mask behind this step
  have hstep : ∀ al2, (al2 = if pqOn (pqBl cl op r (nI s) b) 16 = 1 then al ||| pqBl cl op r (nI s) b else al) → ∀ j, j < b → (bt al2 j = true ↔ ∃ t, t &&& A = t ∧ t ≤ s ∧ pqAl cl op r b (nI t) j) := by
    intro al2 e j hj
    have h0 := hal j hj
    have h1 := pq_alone (cl := cl) (op := op) (r := r) (on := nI s) hb4 hj
    constructor
    · intro z
      rw [e] at z
      split at z
      · rename_i c1
        rw [b_or, Bool.or_eq_true] at z
        rcases z with z | z
        · obtain ⟨t, t1, t2, t3⟩ := h0.mp z
          exact ⟨t, t1, by omega, t3⟩
        · exact ⟨s, hs, Nat.le_refl _, h1.mp ⟨c1, z⟩⟩
      · obtain ⟨t, t1, t2, t3⟩ := h0.mp z
        exact ⟨t, t1, by omega, t3⟩
    · rintro ⟨t, t1, t2, t3⟩
      rw [e]
      rcases Nat.lt_or_ge t s with c1 | c1
      · have z := h0.mpr ⟨t, t1, c1, t3⟩
        split
        · rw [b_or, z, Bool.true_or]
        · exact z
      · obtain rfl : t = s := by omega
        have z := h1.mpr t3
        rw [if_pos z.1, b_or, z.2, Bool.or_true]
  have hJ : ∀ al2, (al2 = if pqOn (pqBl cl op r (nI s) b) 16 = 1 then al ||| pqBl cl op r (nI s) b else al) → ∃ al', F_X0_branchesLeadingAlone_J45 (F_X0_branchesLeadingAlone_E67) rec (nI A) (nI s) (nI i) al2 = some al' ∧ ∀ j, j < b → (bt al' j = true ↔ ∃ t, t < 2 ^ (4 + n) ∧ pqAl cl op r b (nI t) j) := by
    intro al2 e
    unfold F_X0_branchesLeadingAlone_J45
    rw [hnx]
    rcases Nat.lt_or_ge s A with c1 | c1
    · obtain ⟨n1, n2⟩ := pq_next 32 A s A (by omega) hs (Nat.and_self A) c1
      rw [if_neg (nI_ne0 (by omega) (by omega)), nI_1]
      refine hrec (by omega) _ _ _ ⟨rfl, (s + (2 ^ 32 - A)) &&& A, rfl, by rw [Nat.and_assoc, Nat.and_self], by omega, fun j hj => ?_⟩
      rw [hstep al2 e j hj]
      constructor
      · rintro ⟨t, t1, t2, t3⟩
        exact ⟨t, t1, by omega, t3⟩
      · rintro ⟨t, t1, t2, t3⟩
        refine ⟨t, t1, ?_, t3⟩
        rcases Nat.lt_or_ge s t with c2 | c2
        · have := (pq_next 32 A s t (by omega) hs t1 c2).2
          omega
        · exact c2
    · obtain rfl : s = A := by omega
      have e0 : (s + (2 ^ 32 - s)) &&& s = 0 := by
        rw [show s + (2 ^ 32 - s) = 2 ^ 32 by omega, Nat.and_comm]
        exact (fb_bit_nat s 32).mpr (Nat.testBit_lt_two_pow (by omega))
      rw [e0, if_pos nI_0]
      exact ⟨al2, rfl, fin al2 (hstep al2 e)⟩
  have h1023 : ¬ (1023 : Int32) < nI i := nI_nlt (a := 1023) (by omega) (by omega)
  simp (disch := omega) only [F_X0_branchesLeadingAlone_L14, h1023, ↓reduceIte, pq_btl hr hb hb4 hf, Option.bind_some, hbits]
  by_cases c1 : pqOn (pqBl cl op r (nI s) b) 16 = 1
  · rw [if_pos c1]
    exact hJ _ (by rw [if_pos c1])
  · rw [if_neg c1]
    exact hJ _ (by rw [if_neg c1])
