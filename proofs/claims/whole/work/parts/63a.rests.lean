/-! The bits of a long counted; the least and the greatest of them. -/
theorem pq_andB {p m q M : Nat} (hp : p < 256) (hm : m < 256) : (p + 256 * q) &&& (m + 256 * M) = (p &&& m) + 256 * (q &&& M) := by
  have h1 : p &&& m < 2 ^ 8 := Nat.and_lt_two_pow p hm
  apply Nat.eq_of_testBit_eq
  intro i
  rw [Nat.testBit_and]
  have key : ∀ a b : Nat, a < 2 ^ 8 → (a + 256 * b).testBit i = if i < 8 then a.testBit i else b.testBit (i - 8) := by
    intro a b ha
    rw [show a + 256 * b = 2 ^ 8 * b + a by omega]
    exact Nat.testBit_two_pow_mul_add b ha i
  rw [key p q hp, key m M hm, key _ _ h1]
  split
  · rw [Nat.testBit_and]
  · rw [Nat.testBit_and]
theorem pq_andlow {a z m k c : Nat} (hm : m < 2 ^ k) (hc : c = 2 ^ k) : (a + c * z) &&& m = a &&& m := by
  have h1 : (a + c * z) % 2 ^ k = a % 2 ^ k := by rw [hc, Nat.add_mul_mod_self_left]
  have h2 : ∀ x : Nat, x &&& m = (x % 2 ^ k) &&& m := by
    intro x
    apply Nat.eq_of_testBit_eq
    intro i
    rw [Nat.testBit_and, Nat.testBit_and, Nat.testBit_mod_two_pow]
    rcases Nat.lt_or_ge i k with c | c
    · rw [decide_eq_true c, Bool.true_and]
    · rw [Nat.testBit_lt_two_pow (Nat.lt_of_lt_of_le hm (Nat.pow_le_pow_right (by decide) c)), Bool.and_false, Bool.and_false]
  rw [h2, h1, ← h2]
/-- a byte's worth of a mask, w times -/
def pqMw (m : Nat) : Nat → Nat
  | 0 => 0
  | w + 1 => m + 256 * pqMw m w
def pqS1 (w x : Nat) : Nat := x - ((x / 2) &&& pqMw 85 w)
def pqS2 (w x : Nat) : Nat := (pqS1 w x &&& pqMw 51 w) + ((pqS1 w x / 4) &&& pqMw 51 w)
def pqS3 (w x : Nat) : Nat := (pqS2 w x + pqS2 w x / 16) &&& pqMw 15 w
theorem pqS1_le (w x : Nat) : (x / 2) &&& pqMw 85 w ≤ x := Nat.le_trans Nat.and_le_left (Nat.div_le_self _ _)
theorem pqS1_step {w b y : Nat} (hb : b < 256) : pqS1 (w + 1) (b + 256 * y) = pqS1 1 b + 256 * pqS1 w y := by
  have h1 := pqS1_le 1 b
  have h2 := pqS1_le w y
  have e : (b + 256 * y) / 2 &&& pqMw 85 (w + 1) = ((b / 2) &&& pqMw 85 1) + 256 * ((y / 2) &&& pqMw 85 w) := by
    show (b + 256 * y) / 2 &&& (85 + 256 * pqMw 85 w) = ((b / 2) &&& 85) + 256 * ((y / 2) &&& pqMw 85 w)
    rw [show (b + 256 * y) / 2 = (b / 2 + 128 * (y % 2)) + 256 * (y / 2) by omega, pq_andB (by omega) (by omega), pq_andlow (k := 7) (by decide) rfl]
  unfold pqS1
  rw [e]
  omega
theorem pqS1_lt {b : Nat} (hb : b < 256) : pqS1 1 b < 256 := by
  unfold pqS1
  omega
theorem pqS2_b : ∀ b, b < 256 → pqS2 1 b % 16 ≤ 4 ∧ pqS2 1 b ≤ 68 := by decide +kernel
theorem pqS2_step {w b y : Nat} (hb : b < 256) : pqS2 (w + 1) (b + 256 * y) = pqS2 1 b + 256 * pqS2 w y := by
  have h1 := pqS1_lt hb
  have e2 : pqS1 1 b + 256 * pqS1 w y &&& pqMw 51 (w + 1) = (pqS1 1 b &&& pqMw 51 1) + 256 * (pqS1 w y &&& pqMw 51 w) := pq_andB h1 (by decide)
  have e3 : (pqS1 1 b + 256 * pqS1 w y) / 4 &&& pqMw 51 (w + 1) = ((pqS1 1 b / 4) &&& pqMw 51 1) + 256 * ((pqS1 w y / 4) &&& pqMw 51 w) := by
    show (pqS1 1 b + 256 * pqS1 w y) / 4 &&& (51 + 256 * pqMw 51 w) = ((pqS1 1 b / 4) &&& 51) + 256 * ((pqS1 w y / 4) &&& pqMw 51 w)
    rw [show (pqS1 1 b + 256 * pqS1 w y) / 4 = (pqS1 1 b / 4 + 64 * (pqS1 w y % 4)) + 256 * (pqS1 w y / 4) by omega, pq_andB (by omega) (by omega), pq_andlow (k := 6) (by decide) rfl]
  unfold pqS2
  rw [pqS1_step hb, e2, e3]
  omega
theorem pqS2_low (w : Nat) : ∀ y, pqS2 w y % 16 ≤ 4 := by
  cases w with
  | zero =>
    intro y
    unfold pqS2 pqMw
    rw [Nat.and_zero, Nat.and_zero]
    decide
  | succ w =>
    intro y
    have hb : y % 256 < 256 := Nat.mod_lt _ (by decide)
    have e : y = y % 256 + 256 * (y / 256) := by omega
    rw [e, pqS2_step hb]
    have := (pqS2_b (y % 256) hb).1
    omega
theorem pqS3_step {w b y : Nat} (hb : b < 256) : pqS3 (w + 1) (b + 256 * y) = pqS3 1 b + 256 * pqS3 w y := by
  have h1 := pqS2_b b hb
  have h2 := pqS2_low w y
  unfold pqS3
  rw [pqS2_step hb]
  show pqS2 1 b + 256 * pqS2 w y + (pqS2 1 b + 256 * pqS2 w y) / 16 &&& (15 + 256 * pqMw 15 w) = (pqS2 1 b + pqS2 1 b / 16 &&& 15) + 256 * (pqS2 w y + pqS2 w y / 16 &&& pqMw 15 w)
  rw [show pqS2 1 b + 256 * pqS2 w y + (pqS2 1 b + 256 * pqS2 w y) / 16 = (pqS2 1 b + pqS2 1 b / 16 + 16 * (pqS2 w y % 16)) + 256 * (pqS2 w y + pqS2 w y / 16) by omega, pq_andB (by omega) (by omega), pq_andlow (k := 4) (by decide) rfl]
/-- how many of the lowest N bits are set -/
def pqPc (x N : Nat) : Nat := fb_ct (fun i => x.testBit i) N
theorem pqS3_byte : ∀ b, b < 256 → pqS3 1 b = pqPc b 8 := by decide +kernel
theorem pqPc_step {b y N : Nat} (hb : b < 256) : pqPc (b + 256 * y) (8 + N) = pqPc b 8 + pqPc y N := by
  have key : ∀ i, (b + 256 * y).testBit i = if i < 8 then b.testBit i else y.testBit (i - 8) := by
    intro i
    rw [show b + 256 * y = 2 ^ 8 * y + b by omega]
    exact Nat.testBit_two_pow_mul_add y hb i
  unfold pqPc
  rw [fb_ct_split]
  congr 1
  · exact fb_ct_cong (fun k hk => by rw [key, if_pos hk])
  · exact fb_ct_cong (fun k hk => by rw [key, if_neg (by omega), show 8 + k - 8 = k by omega])
theorem pq_bytes (x : Nat) : ∃ b y, b < 256 ∧ x = b + 256 * y ∧ y = x / 256 := ⟨x % 256, x / 256, Nat.mod_lt _ (by decide), by omega, rfl⟩
theorem pqPc_8 {b : Nat} : pqPc b 8 ≤ 8 := fb_ct_le _ _
