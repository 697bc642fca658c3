/-! Texts: the reference's looks, and a branch. -/
/-- a text of l signs, 33 to 126 -/
def pqCs (l : Nat) (tx : Nat → Int32) (x : Nat → Nat) : Prop := l ≤ 60 ∧ ∀ i, i < l → tx i = nI (x i) ∧ 33 ≤ x i ∧ x i < 127
theorem pq_sees {fu l p lo hi : Nat} {tx : Nat → Int32} {x : Nat → Nat} (h : pqCs l tx x) (hlo : lo < 127) (hhi : hi < 127) (hp : p ≤ l) : F_X4_sees fu (nI l) (nI p) tx (nI lo) (nI hi) = some (if p < l ∧ lo ≤ x p ∧ x p ≤ hi then 1 else 0) := by
  obtain ⟨hl, hx⟩ := h
  unfold F_X4_sees
  rcases Nat.lt_or_ge p l with c | c
  · obtain ⟨e, h1, h2⟩ := hx p c
    rw [if_neg (nI_ge c (by omega)), pq_rd (by omega) (by omega), e, Option.bind_some, pq_in2, Option.bind_some]
    have a1 := (pq_cmp (x := x p) (k := lo) h2 hlo).2.1
    have a2 := (pq_cmp (x := hi) (k := x p) hhi h2).2.1
    by_cases c1 : x p < lo
    · rw [if_pos (a1.mpr c1), if_pos rfl, if_neg (by omega)]
    · rw [if_neg (fun z => c1 (a1.mp z))]
      by_cases c2 : hi < x p
      · rw [if_pos (a2.mpr c2), if_pos rfl, if_neg (by omega)]
      · rw [if_neg (fun z => c2 (a2.mp z)), if_neg pq_10, if_pos ⟨c, by omega, by omega⟩]
  · rw [if_pos (nI_le c (by omega)), if_neg (by omega)]
theorem pq_takes {fu l p m : Nat} {tx : Nat → Int32} {x : Nat → Nat} (h : pqCs l tx x) (hm : m < 127) (hp : p ≤ l) : F_X4_takes fu (nI l) (nI p) tx (nI m) = some (if p < l ∧ x p = m then (1, nI (p + 1)) else (0, nI p)) := by
  unfold F_X4_takes
  rw [pq_sees h hm hm hp, Option.bind_some]
  by_cases c : p < l ∧ x p = m
  · have c2 : p < l ∧ m ≤ x p ∧ x p ≤ m := ⟨c.1, by omega, by omega⟩
    simp only [if_pos c2, if_pos c, pq_10, ↓reduceIte, F_X4_takes_J21, pq_zbo1, Option.bind_some, nI_1]
  · have c2 : ¬ (p < l ∧ m ≤ x p ∧ x p ≤ m) := fun z => c ⟨z.1, by omega⟩
    simp only [if_neg c2, if_neg c, ↓reduceIte, F_X4_takes_J21, pq_zbo0, Option.bind_some, Int32.add_zero]
theorem pq_11k (j k : Nat) : (11 : Int32) * nI j + nI k = nI (11 * j + k) := by rw [show (11 : Int32) = nI 11 from rfl, pk_mul, nI_add]
theorem pq_11 (j : Nat) : (11 : Int32) * nI j = nI (11 * j) := by rw [show (11 : Int32) = nI 11 from rfl, pk_mul]
theorem pq_digit {fu l p j k m : Nat} {tx R : Nat → Int32} {x : Nat → Nat} (h : pqCs l tx x) (hm : m < 127) (hp : p ≤ l) (hj : j < 16) (hk : k < 11) : F_X4_readsDigit fu (nI l) (nI p) (nI j) tx R (nI k) (nI m) = some (if p < l ∧ 48 ≤ x p ∧ x p ≤ m then (1, nI (p + 1), upd R (11 * j + k) (nI (x p - 48))) else (0, nI p, R)) := by
  have hs : F_X4_sees fu (nI l) (nI p) tx (48 : Int32) (nI m) = some (if p < l ∧ 48 ≤ x p ∧ x p ≤ m then 1 else 0) := pq_sees (lo := 48) h (by omega) hm hp
  unfold F_X4_readsDigit
  rw [hs, Option.bind_some]
  by_cases c : p < l ∧ 48 ≤ x p ∧ x p ≤ m
  · obtain ⟨hl, hx⟩ := h
    obtain ⟨e, h1, h2⟩ := hx p c.1
    rw [if_pos c, if_pos c, if_neg pq_10, pq_rd (by omega) (by omega), e, Option.bind_some, pq_11k, pq_sub48 c.2.1, pq_wr (by omega) (by omega), Option.bind_some, nI_1]
  · rw [if_neg c, if_neg c, if_pos rfl]
/-- the sign at p may go on with a branch -/
def pqGoes (l : Nat) (x : Nat → Nat) (p : Nat) : Prop := p < l ∧ (x p = 33 ∨ (97 ≤ x p ∧ x p ≤ 100) ∨ (48 ≤ x p ∧ x p ≤ 57))
/-- the reader stands in a branch with the masks C and O, and takes as it should -/
def pqIb (fu : Nat) (st0 : pqRS) (tx : Nat → Int32) (x : Nat → Nat) (l p b : Nat) (k o t : Int32) (cl0 op0 : Nat → Int32) (C O : Int32) : Prop :=
  (p < l → x p = 33 → ¬ C ||| O = 1023 → ∃ cl op, pqOk fu st0 tx p ∧ pqSt8 fu st0 tx (p + 1) = (3, k, o, t, nI (b + 1), nI b, cl, op) ∧ cl b = C ∧ op b = O ∧ ∀ q, q ≠ b → cl q = cl0 q ∧ op q = op0 q) ∧
  (p < l → ¬ (x p = 33 ∧ ¬ C ||| O = 1023) → pqBt (x p) ≠ 99 → bt (C ||| O) (pqBt (x p)) = false → ∃ cl op, pqOk fu st0 tx p ∧ pqSt8 fu st0 tx (p + 1) = (4, k, o, t, nI (b + 1), nI b, cl, op) ∧ cl b = C ||| ((1 : Int32) <<< (nI (pqBt (x p)) &&& (31 : Int32))) ∧ op b = O ∧ ∀ q, q ≠ b → cl q = cl0 q ∧ op q = op0 q) ∧
  (p < l → ¬ (x p = 33 ∧ ¬ C ||| O = 1023) → (pqBt (x p) = 99 ∨ bt (C ||| O) (pqBt (x p)) = true) → pqBad fu st0 tx p)
theorem pq_ib2 {fu l p b : Nat} {st0 : pqRS} {tx : Nat → Int32} {x : Nat → Nat} {k o t cu : Int32} {cl op : Nat → Int32} (h : pqCs l tx x) (hb : b < 4) (hs : pqSt8 fu st0 tx p = (2, k, o, t, nI b, cu, cl, op)) : pqIb fu st0 tx x l p b k o t cl op 0 0 := by
  have h00 : ∀ q, bt ((0 : Int32) ||| 0) q = false := fun q => b_0 q
  refine ⟨fun hp h33 _ => ?_, fun hp h33 hbt _ => ?_, fun hp h33 hbad => ?_⟩
  · obtain ⟨e, h1, h2⟩ := h.2 p hp
    obtain ⟨st2, ht⟩ := pq_tk2 (fu := fu) (k := k) (o := o) (t := t) (cu := cu) (cl := cl) (op := op) hb h2
    rw [if_pos h33, ← e] at ht
    obtain ⟨g1, g2⟩ := pqOk_of hs ht
    exact ⟨_, _, g1, g2, pk_us, pk_us, fun q hq => ⟨pk_un hq, pk_un hq⟩⟩
  · obtain ⟨e, h1, h2⟩ := h.2 p hp
    obtain ⟨st2, ht⟩ := pq_tk2 (fu := fu) (k := k) (o := o) (t := t) (cu := cu) (cl := cl) (op := op) hb h2
    rw [if_neg (fun z => h33 ⟨z, pq_z1023⟩), if_pos hbt, ← e] at ht
    obtain ⟨g1, g2⟩ := pqOk_of hs ht
    exact ⟨_, _, g1, g2, pk_us, pk_us, fun q hq => ⟨by rw [pk_un hq, pk_un hq], pk_un hq⟩⟩
  · obtain ⟨e, h1, h2⟩ := h.2 p hp
    obtain ⟨st2, ht⟩ := pq_tk2 (fu := fu) (k := k) (o := o) (t := t) (cu := cu) (cl := cl) (op := op) hb h2
    have hbt : pqBt (x p) = 99 := hbad.resolve_right (fun z => by rw [h00] at z; cases z)
    rw [if_neg (fun z => h33 ⟨z, pq_z1023⟩), if_neg (fun z => z hbt), ← e] at ht
    exact pqBad_of hs ht
theorem pq_ib4 {fu l p b : Nat} {st0 : pqRS} {tx : Nat → Int32} {x : Nat → Nat} {k o t : Int32} {cl op cl0 op0 : Nat → Int32} (h : pqCs l tx x) (hb : b < 4) (hs : pqSt8 fu st0 tx p = (4, k, o, t, nI (b + 1), nI b, cl, op)) (hg : pqGoes l x p) (h0 : ∀ q, q ≠ b → cl q = cl0 q ∧ op q = op0 q) : pqIb fu st0 tx x l p b k o t cl0 op0 (cl b) (op b) := by
  obtain ⟨hp, hg⟩ := hg
  obtain ⟨e, h1, h2⟩ := h.2 p hp
  obtain ⟨st2, ht⟩ := pq_tk4 (fu := fu) (k := k) (o := o) (t := t) (cl := cl) (op := op) hb h2 (by omega) (by omega)
  refine ⟨fun _ h33 hne => ?_, fun _ h33 hbt hfr => ?_, fun _ h33 hbad => ?_⟩
  · rw [if_pos ⟨h33, hne⟩, ← e] at ht
    obtain ⟨g1, g2⟩ := pqOk_of hs ht
    exact ⟨_, _, g1, g2, rfl, rfl, h0⟩
  · rw [if_neg h33, if_pos ⟨hbt, hfr⟩, ← e] at ht
    obtain ⟨g1, g2⟩ := pqOk_of hs ht
    exact ⟨_, _, g1, g2, pk_us, rfl, fun q hq => ⟨by rw [pk_un hq]; exact (h0 q hq).1, (h0 q hq).2⟩⟩
  · rw [if_neg h33, if_neg (fun z => by
      rcases hbad with y | y
      · exact z.1 y
      · rw [z.2] at y
        cases y), ← e] at ht
    exact pqBad_of hs ht
/-- no more is read: the error's place -/
def pqFail (fu : Nat) (st0 : pqRS) (tx : Nat → Int32) (l p : Nat) : Prop := p ≤ l ∧ (∀ i, i < p → pqOk fu st0 tx i) ∧ (p = l ∧ ¬ (pqSt8 fu st0 tx l).1 = 4 ∧ ¬ (pqSt8 fu st0 tx l).1 = 8 ∨ p < l ∧ pqBad fu st0 tx p)
theorem pqOk_ext {fu p : Nat} {st0 : pqRS} {tx : Nat → Int32} (h : ∀ i, i < p → pqOk fu st0 tx i) (h2 : pqOk fu st0 tx p) : ∀ i, i < p + 1 → pqOk fu st0 tx i := fun i hi => by
  rcases Nat.lt_or_ge i p with c | c
  · exact h i c
  · obtain rfl : i = p := by omega
    exact h2
theorem pqMk_bit {n q : Nat} {v : Int32} (h : pqMk n v) (hq : q < 4 + n) (hn : n ≤ 6) : pqMk n (v ||| ((1 : Int32) <<< (nI q &&& (31 : Int32)))) := by
  refine pqMk_or h ⟨2 ^ q, Nat.pow_lt_pow_right (by decide) hq, ?_⟩
  exact (by decide +kernel : ∀ q, q < 10 → (1 : Int32) <<< (nI q &&& (31 : Int32)) = nI (2 ^ q)) q (by omega)
/-- what a branch comes to: read well, or not -/
def pqBrEnd (fu : Nat) (st0 : pqRS) (tx : Nat → Int32) (x : Nat → Nat) (l p b A : Nat) (k o t : Int32) (cl0 op0 R0 : Nat → Int32) (r : Int32 × Int32 × (Nat → Int32)) : Prop :=
  (∃ p2 R, r = (0, nI p2, R) ∧ p ≤ p2 ∧ pqFail fu st0 tx l p2 ∧ (∀ q, q ≠ A → q ≠ A + 1 → R q = R0 q)) ∨
  (∃ p2 R cl op, r = (1, nI p2, R) ∧ p < p2 ∧ p2 ≤ l ∧ (∀ i, i < p2 → pqOk fu st0 tx i) ∧ (∀ i, p ≤ i → i < p2 → x i ≠ 59) ∧ pqSt8 fu st0 tx p2 = (4, k, o, t, nI (b + 1), nI b, cl, op) ∧ R A = cl b ∧ R (A + 1) = op b ∧ pqMk 6 (cl b) ∧ pqMk 6 (op b) ∧ (∀ q, q ≠ b → cl q = cl0 q ∧ op q = op0 q) ∧ (∀ q, q ≠ A → q ≠ A + 1 → R q = R0 q) ∧ ¬ pqGoes l x p2)
