/-! Ladders, pure: bits. -/
theorem b_nI (k i : Nat) : bt (nI k) i = (decide (i < 32) && k.testBit i) := by
  show (BitVec.ofNat 32 k).getLsbD i = _
  rw [BitVec.getLsbD_ofNat]
theorem b_not (x : Int32) {i : Nat} (hi : i < 32) : bt (x ^^^ (-1 : Int32)) i = !bt x i := by
  rw [b_xor, b_m1 i hi]
  cases bt x i <;> rfl
theorem b_1 (i : Nat) : bt 1 i = decide (i = 0) := by
  rcases Nat.lt_or_ge i 32 with h | h
  · exact (by decide +kernel : ∀ i, i < 32 → bt 1 i = decide (i = 0)) i h
  · rw [b_big h, decide_eq_false (by omega)]
theorem b_15 (i : Nat) : bt 15 i = decide (i < 4) := by
  rcases Nat.lt_or_ge i 32 with h | h
  · exact (by decide +kernel : ∀ i, i < 32 → bt 15 i = decide (i < 4)) i h
  · rw [b_big h, decide_eq_false (by omega)]
theorem b_63 (i : Nat) : bt 63 i = decide (i < 6) := by
  rcases Nat.lt_or_ge i 32 with h | h
  · exact (by decide +kernel : ∀ i, i < 32 → bt 63 i = decide (i < 6)) i h
  · rw [b_big h, decide_eq_false (by omega)]
theorem b_one {r i : Nat} (hr : r < 32) (hi : i < 32) : bt ((1 : Int32) <<< (nI r &&& 31)) i = decide (i = r) := by
  rw [b_shl r hr _ hi, b_1, Bool.eq_iff_iff]
  simp
  omega
theorem pq_bit {x : Int32} {r : Nat} (h : r < 32) : (x >>> (nI r &&& 31)) &&& 1 = if bt x r then 1 else 0 := by
  apply b_ext
  intro i hi
  rw [b_and, b_sshr r h x hi, b_1]
  rcases Nat.eq_zero_or_pos i with rfl | hp
  · rw [if_pos (by omega : r + 0 < 32), Nat.add_zero]
    generalize bt x r = z
    revert z
    decide +kernel
  · rw [decide_eq_false (by omega), Bool.and_false]
    cases bt x r
    · exact (b_0 i).symm
    · show false = bt 1 i
      rw [b_1, decide_eq_false (by omega)]
theorem pq_bit1 {x : Int32} {r : Nat} (h : r < 32) : ((x >>> (nI r &&& 31)) &&& 1 = 1) ↔ bt x r = true := by
  rw [pq_bit h]
  generalize bt x r = z
  revert z
  decide +kernel
theorem pq_isIn {fu : Nat} {x : Int32} {r : Nat} (h : r < 32) : F_X0_isIn fu x (nI r) = some (if bt x r then 1 else 0) := by
  unfold F_X0_isIn
  by_cases hb : bt x r = true
  · rw [if_pos ((pq_bit1 h).mpr hb), if_pos hb]
  · rw [if_neg (fun q => hb ((pq_bit1 h).mp q)), if_neg hb]
theorem pq_or0 (x : Int32) : x ||| 0 = x := by
  apply b_ext
  intro i hi
  rw [b_or, b_0, Bool.or_false]
theorem pq_sub (x y : Int32) : (x &&& y = x) ↔ (x &&& (y ^^^ (-1 : Int32)) = 0) := by
  constructor
  · intro h
    apply b_ext
    intro i hi
    have e : bt (x &&& y) i = bt x i := by rw [h]
    rw [b_and] at e
    rw [b_and, b_not y hi, b_0]
    revert e
    generalize bt x i = a
    generalize bt y i = b
    revert a b
    decide
  · intro h
    apply b_ext
    intro i hi
    have e : bt (x &&& (y ^^^ (-1 : Int32))) i = bt 0 i := by rw [h]
    rw [b_and, b_not y hi, b_0] at e
    rw [b_and]
    revert e
    generalize bt x i = a
    generalize bt y i = b
    revert a b
    decide
theorem pq_xor0 (x y : Int32) : (x ^^^ y = 0) ↔ (x = y) := by
  constructor
  · intro h
    apply b_ext
    intro i hi
    have e : bt (x ^^^ y) i = bt 0 i := by rw [h]
    rw [b_xor, b_0] at e
    revert e
    generalize bt x i = a
    generalize bt y i = b
    revert a b
    decide
  · intro h
    subst h
    apply b_ext
    intro i hi
    rw [b_xor, b_0]
    cases bt x i <;> rfl
theorem pq_small {x : Int32} (m : Nat) (h : ∀ i, m ≤ i → i < 32 → bt x i = false) : ∃ k, k < 2 ^ m ∧ x = nI k := by
  obtain ⟨k, hk, rfl⟩ := wb_of32 x
  refine ⟨k, Nat.lt_pow_two_of_testBit k ?_, rfl⟩
  intro i hi
  rcases Nat.lt_or_ge i 32 with h1 | h1
  · have e := h i hi h1
    rw [b_nI] at e
    simpa [h1] using e
  · exact Nat.testBit_lt_two_pow (Nat.lt_of_lt_of_le hk (Nat.pow_le_pow_right (by decide) h1))
theorem pq_by {i : Nat} (hi : 6 ≤ i) : ∃ q j, j < 4 ∧ i = 6 + 4 * q + j := ⟨(i - 6) / 4, (i - 6) % 4, Nat.mod_lt _ (by decide), by omega⟩
/-! reading and writing rows at small places -/
theorem pq_rd {f : Nat → Int32} {n i : Nat} (h : i < n) (hn : n < 2 ^ 31) : zrd f n (nI i) = some (f i) := by
  unfold zrd
  rw [nI_toInt (by omega), nI_clamp (by omega), if_pos ⟨by omega, by omega⟩]
theorem pq_rd0 {f : Nat → Int32} {n : Nat} (h : 0 < n) (hn : n < 2 ^ 31) : zrd f n (0 : Int32) = some (f 0) := pq_rd (i := 0) h hn
theorem pq_rd1 {f : Nat → Int32} {n : Nat} (h : 1 < n) (hn : n < 2 ^ 31) : zrd f n (1 : Int32) = some (f 1) := pq_rd (i := 1) h hn
theorem pq_rd2 {f : Nat → Int32} {n : Nat} (h : 2 < n) (hn : n < 2 ^ 31) : zrd f n (2 : Int32) = some (f 2) := pq_rd (i := 2) h hn
theorem pq_rd3 {f : Nat → Int32} {n : Nat} (h : 3 < n) (hn : n < 2 ^ 31) : zrd f n (3 : Int32) = some (f 3) := pq_rd (i := 3) h hn
theorem pq_rd4 {f : Nat → Int32} {n : Nat} (h : 4 < n) (hn : n < 2 ^ 31) : zrd f n (4 : Int32) = some (f 4) := pq_rd (i := 4) h hn
theorem pq_wr {f : Nat → Int32} {n i : Nat} {x : Int32} (h : i < n) (hn : n < 2 ^ 31) : zwr f n (nI i) x = some (upd f i x) := by
  unfold zwr
  rw [nI_toInt (by omega), nI_clamp (by omega), if_pos ⟨by omega, by omega⟩]
theorem pq_wr0 {f : Nat → Int32} {n : Nat} {x : Int32} (h : 0 < n) (hn : n < 2 ^ 31) : zwr f n (0 : Int32) x = some (upd f 0 x) := pq_wr (i := 0) h hn
theorem pq_wr1 {f : Nat → Int32} {n : Nat} {x : Int32} (h : 1 < n) (hn : n < 2 ^ 31) : zwr f n (1 : Int32) x = some (upd f 1 x) := pq_wr (i := 1) h hn
theorem pq_wr2 {f : Nat → Int32} {n : Nat} {x : Int32} (h : 2 < n) (hn : n < 2 ^ 31) : zwr f n (2 : Int32) x = some (upd f 2 x) := pq_wr (i := 2) h hn
theorem pq_wr3 {f : Nat → Int32} {n : Nat} {x : Int32} (h : 3 < n) (hn : n < 2 ^ 31) : zwr f n (3 : Int32) x = some (upd f 3 x) := pq_wr (i := 3) h hn
theorem pq_wr4 {f : Nat → Int32} {n : Nat} {x : Int32} (h : 4 < n) (hn : n < 2 ^ 31) : zwr f n (4 : Int32) x = some (upd f 4 x) := pq_wr (i := 4) h hn
theorem pq_4 (r j : Nat) : nI r * (4 : Int32) + nI j = nI (4 * r + j) := by rw [show (4 : Int32) = nI 4 from rfl, pk_mul, nI_add, Nat.mul_comm]
theorem pq_64 (r : Nat) : (6 : Int32) + (4 : Int32) * nI r = nI (6 + 4 * r) := by rw [show (4 : Int32) = nI 4 from rfl, pk_mul, show (6 : Int32) = nI 6 from rfl, nI_add]
theorem pq_62 (r : Nat) : (6 : Int32) + (2 : Int32) * nI r = nI (6 + 2 * r) := by rw [show (2 : Int32) = nI 2 from rfl, pk_mul, show (6 : Int32) = nI 6 from rfl, nI_add]
theorem pq_4p (r : Nat) : (4 : Int32) + nI r = nI (4 + r) := nI_add 4 r
theorem pq_of {fu : Nat} {s : Nat → Int32} {r c : Nat} (hr : r < 6) (hc : c < 14) : F_X4_of fu s 88 (nI r) (nI c) = some (s (4 + 14 * r + c)) := by
  unfold F_X4_of
  rw [show (4 : Int32) + (14 : Int32) * nI r + nI c = nI (4 + 14 * r + c) from by rw [show (14 : Int32) = nI 14 from rfl, show (4 : Int32) = nI 4 from rfl, pk_mul, nI_add, nI_add], pq_rd (by omega) (by omega)]
  rfl
theorem pq_of0 {fu : Nat} {s : Nat → Int32} {r : Nat} (hr : r < 6) : F_X4_of fu s 88 (nI r) (0 : Int32) = some (s (4 + 14 * r + 0)) := pq_of hr (by decide)
theorem pq_of1 {fu : Nat} {s : Nat → Int32} {r : Nat} (hr : r < 6) : F_X4_of fu s 88 (nI r) (1 : Int32) = some (s (4 + 14 * r + 1)) := pq_of (c := 1) hr (by decide)
theorem pq_of2 {fu : Nat} {s : Nat → Int32} {r : Nat} (hr : r < 6) : F_X4_of fu s 88 (nI r) (2 : Int32) = some (s (4 + 14 * r + 2)) := pq_of (c := 2) hr (by decide)
theorem pq_of3 {fu : Nat} {s : Nat → Int32} {r : Nat} (hr : r < 6) : F_X4_of fu s 88 (nI r) (3 : Int32) = some (s (4 + 14 * r + 3)) := pq_of (c := 3) hr (by decide)
theorem pq_of4 {fu : Nat} {s : Nat → Int32} {r : Nat} (hr : r < 6) : F_X4_of fu s 88 (nI r) (4 : Int32) = some (s (4 + 14 * r + 4)) := pq_of (c := 4) hr (by decide)
theorem pq_of5 {fu : Nat} {s : Nat → Int32} {r : Nat} (hr : r < 6) : F_X4_of fu s 88 (nI r) (5 : Int32) = some (s (4 + 14 * r + 5)) := pq_of (c := 5) hr (by decide)
theorem pq_puts {fu : Nat} {s : Nat → Int32} {r c : Nat} {x : Int32} (hr : r < 6) (hc : c < 14) : F_X4_puts fu s 88 (nI r) (nI c) x = some (upd s (4 + 14 * r + c) x) := by
  unfold F_X4_puts
  rw [show (4 : Int32) + (14 : Int32) * nI r + nI c = nI (4 + 14 * r + c) from by rw [show (14 : Int32) = nI 14 from rfl, show (4 : Int32) = nI 4 from rfl, pk_mul, nI_add, nI_add], pq_wr (by omega) (by omega)]
  rfl
theorem pq_puts0 {fu : Nat} {s : Nat → Int32} {r : Nat} {x : Int32} (hr : r < 6) : F_X4_puts fu s 88 (nI r) (0 : Int32) x = some (upd s (4 + 14 * r + 0) x) := pq_puts hr (by decide)
theorem pq_puts1 {fu : Nat} {s : Nat → Int32} {r : Nat} {x : Int32} (hr : r < 6) : F_X4_puts fu s 88 (nI r) (1 : Int32) x = some (upd s (4 + 14 * r + 1) x) := pq_puts (c := 1) hr (by decide)
theorem pq_puts2 {fu : Nat} {s : Nat → Int32} {r : Nat} {x : Int32} (hr : r < 6) : F_X4_puts fu s 88 (nI r) (2 : Int32) x = some (upd s (4 + 14 * r + 2) x) := pq_puts (c := 2) hr (by decide)
theorem pq_puts3 {fu : Nat} {s : Nat → Int32} {r : Nat} {x : Int32} (hr : r < 6) : F_X4_puts fu s 88 (nI r) (3 : Int32) x = some (upd s (4 + 14 * r + 3) x) := pq_puts (c := 3) hr (by decide)
theorem pq_puts4 {fu : Nat} {s : Nat → Int32} {r : Nat} {x : Int32} (hr : r < 6) : F_X4_puts fu s 88 (nI r) (4 : Int32) x = some (upd s (4 + 14 * r + 4) x) := pq_puts (c := 4) hr (by decide)
theorem pq_puts5 {fu : Nat} {s : Nat → Int32} {r : Nat} {x : Int32} (hr : r < 6) : F_X4_puts fu s 88 (nI r) (5 : Int32) x = some (upd s (4 + 14 * r + 5) x) := pq_puts (c := 5) hr (by decide)
/-! who is called -/
def pqC1 (cl op : Nat → Int32) (on : Int32) (r : Nat) (acc : Int32) : Nat → Int32
  | 0 => acc
  | j + 1 => if cl (4 * r + j) &&& (on ^^^ (-1 : Int32)) = 0 then (if op (4 * r + j) &&& on = 0 then pqC1 cl op on r acc j ||| ((1 : Int32) <<< (nI r &&& (31 : Int32))) else pqC1 cl op on r acc j) else pqC1 cl op on r acc j
def pqC (b : Nat → Nat) (cl op : Nat → Int32) (on : Int32) : Nat → Int32
  | 0 => 0
  | r + 1 => pqC1 cl op on r (pqC b cl op on r) (b r)
theorem pq_cb_in {fu : Nat} {br cl op : Nat → Int32} {on : Int32} {r b : Nat} {k : Int32 → Int32 → Option Int32} (hr : r < 6) (hb : br r = nI b) (hb4 : b ≤ 4) (hf : 4096 ≤ fu) (acc : Int32) : zlp2 (F_X0_calledBy_L15 br cl op on (nI r) k) fu acc 0 = k (pqC1 cl op on r acc b) (nI b) := by
  refine zlp_r2 (fun j => pqC1 cl op on r acc j) (fun j => nI j) b ?_ ?_ (by omega)
  · intro rec j hj
    simp (disch := omega) only [F_X0_calledBy_L15, pq_rd, hb, Option.bind_some, nI_leI, show ¬ b ≤ j by omega, ↓reduceIte, pq_4, pqC1, nI_1]
    by_cases c1 : cl (4 * r + j) &&& (on ^^^ (-1 : Int32)) = 0 <;> by_cases c2 : op (4 * r + j) &&& on = 0 <;> simp only [c1, c2, ↓reduceIte]
  · intro rec
    simp (disch := omega) only [F_X0_calledBy_L15, pq_rd, hb, Option.bind_some, nI_leI, Nat.le_refl, ↓reduceIte]
theorem pq_calledBy {fu n : Nat} {b : Nat → Nat} {br cl op : Nat → Int32} {on : Int32} (hn : n ≤ 6) (hb : ∀ r, r < n → br r = nI (b r) ∧ b r ≤ 4) (hf : 4096 ≤ fu) : F_X0_calledBy fu (nI n) br cl op on = some (pqC b cl op on n) := by
  unfold F_X0_calledBy
  refine zlp_r2 (fun r => pqC b cl op on r) (fun r => nI r) n ?_ ?_ (by omega)
  · intro rec r hr
    have hbr := hb r hr
    simp (disch := omega) only [F_X0_calledBy_L4, nI_leI, show ¬ n ≤ r by omega, ↓reduceIte]
    rw [pq_cb_in (by omega) hbr.1 hbr.2 hf]
    simp only [F_X0_calledBy_E72, pqC, nI_1]
  · intro rec
    simp (disch := omega) only [F_X0_calledBy_L4, nI_leI, Nat.le_refl, ↓reduceIte, F_X0_calledBy_E78]
theorem pq_ldr {fu : Nat} {s : Nat → Int32} {r j : Nat} {on : Int32} (hr : r < 6) (hj : j < 4) : F_X4_isLeading fu s 88 (nI r) (nI j) on = some (if s (4 + 14 * r + (6 + 2 * j)) &&& (on ^^^ (-1 : Int32)) = 0 then (if s (4 + 14 * r + (6 + 2 * j + 1)) &&& on = 0 then 1 else 0) else 0) := by
  simp (disch := omega) only [F_X4_isLeading, pq_62, nI_1, pq_of, Option.bind_some, pq_sub]
  by_cases c1 : s (4 + 14 * r + (6 + 2 * j)) &&& (on ^^^ (-1 : Int32)) = 0 <;> by_cases c2 : s (4 + 14 * r + (6 + 2 * j + 1)) &&& on = 0 <;> simp only [c1, c2, ↓reduceIte]
theorem pq_10 : ¬ (1 : Int32) = 0 := by decide
theorem pq_01 : ¬ (0 : Int32) = 1 := by decide
theorem pq_cb2_in {fu : Nat} {s cl op : Nat → Int32} {up i1 : Int32} {r b : Nat} {k : Int32 → Int32 → Option Int32} (hr : r < 6) (hb : s (4 + 14 * r + 4) = nI b) (hb4 : b ≤ 4) (hc : ∀ j, j < b → s (4 + 14 * r + (6 + 2 * j)) = cl (4 * r + j) ∧ s (4 + 14 * r + (6 + 2 * j + 1)) = op (4 * r + j)) (hf : 4096 ≤ fu) (acc : Int32) : zlp2 (F_X4_calledBy_L24 fu s 88 up i1 (nI r) k) fu acc 0 = k (pqC1 cl op (i1 ||| (up <<< ((4 : Int32) &&& (31 : Int32)))) r acc b) (nI b) := by
  refine zlp_r2 (fun j => pqC1 cl op (i1 ||| (up <<< ((4 : Int32) &&& (31 : Int32)))) r acc j) (fun j => nI j) b ?_ ?_ (by omega)
  · intro rec j hj
    have hcj := hc j hj
    simp (disch := omega) only [F_X4_calledBy_L24, pq_of4, hb, Option.bind_some, nI_leI, show ¬ b ≤ j by omega, ↓reduceIte, pq_ldr, F_X4_calledBy_J57, pqC1, nI_1, hcj.1, hcj.2]
    generalize i1 ||| (up <<< ((4 : Int32) &&& (31 : Int32))) = on
    by_cases c1 : cl (4 * r + j) &&& (on ^^^ (-1 : Int32)) = 0 <;> by_cases c2 : op (4 * r + j) &&& on = 0 <;> simp only [c1, c2, ↓reduceIte, pq_or0, pq_10]
  · intro rec
    simp (disch := omega) only [F_X4_calledBy_L24, pq_of4, hb, Option.bind_some, nI_leI, Nat.le_refl, ↓reduceIte]
theorem pq_calledBy2 {fu n : Nat} {b : Nat → Nat} {s cl op : Nat → Int32} {up : Int32} (hn : n ≤ 6) (h0 : s 0 = nI n) (hb : ∀ r, r < n → s (4 + 14 * r + 4) = nI (b r) ∧ b r ≤ 4) (hc : ∀ r, r < n → ∀ j, j < b r → s (4 + 14 * r + (6 + 2 * j)) = cl (4 * r + j) ∧ s (4 + 14 * r + (6 + 2 * j + 1)) = op (4 * r + j)) (hf : 4096 ≤ fu) : F_X4_calledBy fu s 88 up = some (pqC b cl op (s 1 ||| (up <<< ((4 : Int32) &&& (31 : Int32)))) n) := by
  unfold F_X4_calledBy
  rw [pq_rd1 (by omega) (by omega), Option.bind_some]
  refine zlp_r2 (fun r => pqC b cl op (s 1 ||| (up <<< ((4 : Int32) &&& (31 : Int32)))) r) (fun r => nI r) n ?_ ?_ (by omega)
  · intro rec r hr
    have hbr := hb r hr
    simp (disch := omega) only [F_X4_calledBy_L13, pq_rd0, h0, Option.bind_some, nI_leI, show ¬ n ≤ r by omega, ↓reduceIte]
    rw [pq_cb2_in (by omega) hbr.1 hbr.2 (hc r hr) hf]
    simp only [F_X4_calledBy_E65, pqC, nI_1]
  · intro rec
    simp (disch := omega) only [F_X4_calledBy_L13, pq_rd0, h0, Option.bind_some, nI_leI, Nat.le_refl, ↓reduceIte, F_X4_calledBy_E71]
theorem pq_C1_bits {cl op : Nat → Int32} {on : Int32} {r i : Nat} (hr : r < 32) (hi : i < 32) (hir : i ≠ r) (acc : Int32) : ∀ j, bt (pqC1 cl op on r acc j) i = bt acc i
  | 0 => rfl
  | j + 1 => by
    have ih := pq_C1_bits (cl := cl) (op := op) (on := on) hr hi hir acc j
    unfold pqC1
    split
    · split
      · rw [b_or, ih, b_one hr hi, decide_eq_false hir, Bool.or_false]
      · exact ih
    · exact ih
theorem pq_C_bits {b : Nat → Nat} {cl op : Nat → Int32} {on : Int32} {i : Nat} (hi : i < 32) : ∀ n, n ≤ i → bt (pqC b cl op on n) i = false
  | 0, _ => b_0 i
  | n + 1, h => by
    unfold pqC
    rw [pq_C1_bits (by omega) hi (by omega)]
    exact pq_C_bits hi n (by omega)
