/-! Texts: an order read by both. -/
/-- row j of the orders and the reader say the same order -/
def pqOrd (R : Nat → Int32) (j : Nat) (st : pqRS) : Prop := ∃ ow, ow < 6 ∧ R (11 * j + 1) = nI ow ∧ st.2.2.1 = nI ow ∧
  ((R (11 * j + 0) = 61 ∧ st.2.1 = 0 ∧ ∃ nb, nb ≤ 4 ∧ R (11 * j + 2) = nI nb ∧ st.2.2.2.2.1 = nI nb ∧ ∀ b, b < nb → R (11 * j + 3 + 2 * b) = st.2.2.2.2.2.2.1 b ∧ R (11 * j + 3 + 2 * b + 1) = st.2.2.2.2.2.2.2 b ∧ pqMk 6 (st.2.2.2.2.2.2.1 b) ∧ pqMk 6 (st.2.2.2.2.2.2.2 b)) ∨
  (R (11 * j + 0) = 117 ∧ st.2.1 = 1 ∨ R (11 * j + 0) = 118 ∧ st.2.1 = 2) ∧ ∃ tm, tm ≤ 9 ∧ R (11 * j + 2) = nI tm ∧ st.2.2.2.1 = nI tm)
def pqOrEnd (fu : Nat) (st0 : pqRS) (tx : Nat → Int32) (x : Nat → Nat) (l p j : Nat) (R0 : Nat → Int32) (r : Int32 × Int32 × (Nat → Int32)) : Prop :=
  (∃ p2 R, r = (0, nI p2, R) ∧ p ≤ p2 ∧ pqFail fu st0 tx l p2) ∨
  (∃ p2 R, r = (1, nI p2, R) ∧ p + 3 ≤ p2 ∧ p2 ≤ l ∧ (∀ i, i < p2 → pqOk fu st0 tx i) ∧ (∀ i, p ≤ i → i < p2 → x i ≠ 59) ∧ pqOrd R j (pqSt8 fu st0 tx p2) ∧ (∀ q, q < 11 * j → R q = R0 q) ∧ ((pqSt8 fu st0 tx p2).1 = 4 ∨ (pqSt8 fu st0 tx p2).1 = 8) ∧ (p2 < l → x p2 ≠ 59 → pqBad fu st0 tx p2) ∧ (p2 < l → x p2 = 59 → pqOk fu st0 tx p2 ∧ (pqSt8 fu st0 tx (p2 + 1)).1 = 0))
theorem pq_failEnd {fu l : Nat} {st0 : pqRS} {tx : Nat → Int32} {nx k o t b cu : Int32} {cl op : Nat → Int32} (hok : ∀ i, i < l → pqOk fu st0 tx i) (hs : pqSt8 fu st0 tx l = (nx, k, o, t, b, cu, cl, op)) (h4 : ¬ nx = 4) (h8 : ¬ nx = 8) : pqFail fu st0 tx l l := ⟨Nat.le_refl _, hok, Or.inl ⟨rfl, by rw [hs]; exact h4, by rw [hs]; exact h8⟩⟩
theorem pq_rungLoop {fu l j p ow : Nat} {st0 : pqRS} {tx : Nat → Int32} {x : Nat → Nat} {t cu0 : Int32} {cl0 op0 R0 : Nat → Int32} (h : pqCs l tx x) (hj : j < 16) (hp : p ≤ l) (hok : ∀ i, i < p → pqOk fu st0 tx i) (hs : pqSt8 fu st0 tx p = (2, 0, nI ow, t, 0, cu0, cl0, op0)) (how : ow < 6) (hR0 : R0 (11 * j + 0) = 61) (hR1 : R0 (11 * j + 1) = nI ow) (hf : 4096 ≤ fu) : ∃ r, zlp4 (F_X4_readsRung_L39 fu (nI l) (nI j) tx (F_X4_readsRung_E79 (nI j))) fu (0 : Int32) (1 : Int32) (nI p) R0 = some r ∧ ((∃ p2 R, r = (0, nI p2, R) ∧ p ≤ p2 ∧ pqFail fu st0 tx l p2) ∨ ∃ p2 R, r = (1, nI p2, R) ∧ p + 1 ≤ p2 ∧ p2 ≤ l ∧ (∀ i, i < p2 → pqOk fu st0 tx i) ∧ (∀ i, p ≤ i → i < p2 → x i ≠ 59) ∧ pqOrd R j (pqSt8 fu st0 tx p2) ∧ (∀ q, q < 11 * j → R q = R0 q) ∧ ((pqSt8 fu st0 tx p2).1 = 4 ∨ (pqSt8 fu st0 tx p2).1 = 8) ∧ (p2 < l → x p2 ≠ 59 → pqBad fu st0 tx p2) ∧ (p2 < l → x p2 = 59 → pqOk fu st0 tx p2 ∧ (pqSt8 fu st0 tx (p2 + 1)).1 = 0)) := by
  have hl := h.1
  refine zlp_t4 (Q := fun (oo : Option (Int32 × Int32 × (Nat → Int32))) => ∃ r, oo = some r ∧ ((∃ p2 R, r = (0, nI p2, R) ∧ p ≤ p2 ∧ pqFail fu st0 tx l p2) ∨ ∃ p2 R, r = (1, nI p2, R) ∧ p + 1 ≤ p2 ∧ p2 ≤ l ∧ (∀ i, i < p2 → pqOk fu st0 tx i) ∧ (∀ i, p ≤ i → i < p2 → x i ≠ 59) ∧ pqOrd R j (pqSt8 fu st0 tx p2) ∧ (∀ q, q < 11 * j → R q = R0 q) ∧ ((pqSt8 fu st0 tx p2).1 = 4 ∨ (pqSt8 fu st0 tx p2).1 = 8) ∧ (p2 < l → x p2 ≠ 59 → pqBad fu st0 tx p2) ∧ (p2 < l → x p2 = 59 → pqOk fu st0 tx p2 ∧ (pqSt8 fu st0 tx (p2 + 1)).1 = 0))) 4 (fun (b : Nat) (a1 a2 a3 : Int32) (R : Nat → Int32) => a1 = nI b ∧ R (11 * j + 0) = 61 ∧ R (11 * j + 1) = nI ow ∧ (∀ q, q < 11 * j → R q = R0 q) ∧ ∃ p2 cu cl op, a3 = nI p2 ∧ p ≤ p2 ∧ p2 ≤ l ∧ (∀ i, i < p2 → pqOk fu st0 tx i) ∧ (∀ i, p ≤ i → i < p2 → x i ≠ 59) ∧ (∀ q, q < b → R (11 * j + 3 + 2 * q) = cl q ∧ R (11 * j + 3 + 2 * q + 1) = op q ∧ pqMk 6 (cl q) ∧ pqMk 6 (op q)) ∧ (a2 = 1 ∧ b < 4 ∧ pqSt8 fu st0 tx p2 = (2, 0, nI ow, t, nI b, cu, cl, op) ∨ a2 = 0 ∧ 0 < b ∧ p < p2 ∧ pqSt8 fu st0 tx p2 = (4, 0, nI ow, t, nI b, cu, cl, op) ∧ (∀ c, b = c + 1 → cu = nI c) ∧ ¬ pqGoes l x p2 ∧ (p2 < l → x p2 = 43 → b = 4))) ?_ (by omega) _ _ _ _ ⟨rfl, hR0, hR1, fun _ _ => rfl, p, cu0, cl0, op0, rfl, Nat.le_refl _, hp, hok, fun i h1 h2 => absurd h2 (by omega), fun q z => absurd z (Nat.not_lt_zero _), Or.inl ⟨rfl, by omega, hs⟩⟩
  rintro rec b hb hrec a1 a2 a3 R ⟨e1, r0, r1, r2, p2, cu, cl, op, e3, g1, g2, g3, g4, g5, g6⟩
  rw [e1, e3]
  rcases g6 with ⟨e2, hb4, hst⟩ | ⟨e2, hb0, hlt, hst, hcu, hng, hpl⟩
  · rw [e2]
    have hA : 11 * j + 3 + 2 * b + 1 < 176 := by omega
    have eA : (11 : Int32) * nI j + (3 : Int32) + (2 : Int32) * nI b = nI (11 * j + 3 + 2 * b) := by
      rw [show (3 : Int32) = nI 3 from rfl, pq_11k, show (2 : Int32) = nI 2 from rfl, pk_mul, nI_add]
    obtain ⟨r, er, hr⟩ := pq_branchT (fu := fu) (R0 := upd (upd R (11 * j + 3 + 2 * b) 0) (11 * j + 3 + 2 * b + 1) 0) h hb4 hA g2 g3 hst (by rw [pk_un (by omega), pk_us]) pk_us hf
    have hbr : F_X4_readsBranch fu (nI l) (nI p2) (nI j) tx R (nI b) = some r := by
      unfold F_X4_readsBranch
      rw [Option.bind_some, eA, pq_wr (by omega) (by omega), Option.bind_some, nI_1, pq_wr (by omega) (by omega), Option.bind_some]
      exact er
    unfold F_X4_readsRung_L39
    rw [if_neg pq_10, hbr, Option.bind_some]
    rcases hr with ⟨p3, R3, rfl, h1, h2, h3⟩ | ⟨p3, R3, cl3, op3, rfl, h1, h2, h3, h4, h5, h6, h7, m1, m2, h8, h9, h10⟩
    · simp only [↓reduceIte]
      exact ⟨_, rfl, Or.inl ⟨p3, R3, rfl, by omega, h2⟩⟩
    · simp only [pq_10, ↓reduceIte, nI_1]
      have q0 : R3 (11 * j + 0) = 61 := by rw [h9 _ (by omega) (by omega), pk_un (by omega), pk_un (by omega), r0]
      have q1 : R3 (11 * j + 1) = nI ow := by rw [h9 _ (by omega) (by omega), pk_un (by omega), pk_un (by omega), r1]
      have q2 : ∀ q, q < 11 * j → R3 q = R0 q := fun q hq => by rw [h9 _ (by omega) (by omega), pk_un (by omega), pk_un (by omega), r2 q hq]
      have q3 : ∀ i, p ≤ i → i < p3 → x i ≠ 59 := fun i i1 i2 => by
        rcases Nat.lt_or_ge i p2 with z | z
        · exact g4 i i1 z
        · exact h4 i z i2
      have q5 : ∀ q, q < b + 1 → R3 (11 * j + 3 + 2 * q) = cl3 q ∧ R3 (11 * j + 3 + 2 * q + 1) = op3 q ∧ pqMk 6 (cl3 q) ∧ pqMk 6 (op3 q) := fun q hq => by
        by_cases z : q = b
        · subst z
          exact ⟨h6, h7, m1, m2⟩
        · obtain ⟨y1, y2, y3, y4⟩ := g5 q (by omega)
          obtain ⟨w1, w2⟩ := h8 q z
          rw [h9 _ (by omega) (by omega), h9 _ (by omega) (by omega), pk_un (by omega), pk_un (by omega), pk_un (by omega), pk_un (by omega), w1, w2]
          exact ⟨y1, y2, y3, y4⟩
      rcases Nat.lt_or_ge (b + 1) 4 with c | c
      · have h4n : ¬ (4 : Int32) ≤ nI (b + 1) := nI_ge (b := 4) c (by omega)
        have htk : F_X4_takes fu (nI l) (nI p3) tx (43 : Int32) = some (if p3 < l ∧ x p3 = 43 then (1, nI (p3 + 1)) else (0, nI p3)) := pq_takes (m := 43) h (by omega) h2
        simp only [h4n, ↓reduceIte]
        rw [htk, Option.bind_some]
        by_cases c2 : p3 < l ∧ x p3 = 43
        · simp only [if_pos c2, pq_10, ↓reduceIte]
          obtain ⟨e, i1, i2⟩ := h.2 p3 c2.1
          have ht := pq_tk4m (fu := fu) (k := 0) (o := nI ow) (t := t) (cl := cl3) (op := op3) (b := b) (by omega)
          rw [← c2.2, ← e] at ht
          obtain ⟨k1, k2⟩ := pqOk_of h5 ht
          exact hrec (by omega) _ _ _ _ ⟨rfl, q0, q1, q2, p3 + 1, nI b, cl3, op3, rfl, by omega, by omega, pqOk_ext h3 k1, fun i i1 i2 => by
            rcases Nat.lt_or_ge i p3 with z | z
            · exact q3 i i1 z
            · obtain rfl : i = p3 := by omega
              omega, q5, Or.inl ⟨rfl, c, k2⟩⟩
        · simp only [if_neg c2, ↓reduceIte]
          exact hrec (by omega) _ _ _ _ ⟨rfl, q0, q1, q2, p3, nI b, cl3, op3, rfl, by omega, h2, h3, q3, q5, Or.inr ⟨rfl, by omega, by omega, h5, fun c e => by rw [show b = c by omega], h10, fun z1 z2 => absurd ⟨z1, z2⟩ c2⟩⟩
      · have h4n : (4 : Int32) ≤ nI (b + 1) := nI_le (a := 4) c (by omega)
        simp only [h4n, ↓reduceIte]
        exact hrec (by omega) _ _ _ _ ⟨rfl, q0, q1, q2, p3, nI b, cl3, op3, rfl, by omega, h2, h3, q3, q5, Or.inr ⟨rfl, by omega, by omega, h5, fun c e => by rw [show b = c by omega], h10, fun _ _ => by omega⟩⟩
  · rw [e2]
    obtain ⟨b, rfl⟩ : ∃ c, b = c + 1 := ⟨b - 1, by omega⟩
    obtain rfl := hcu b rfl
    unfold F_X4_readsRung_L39
    rw [if_pos rfl]
    unfold F_X4_readsRung_E79
    rw [show (2 : Int32) = nI 2 from rfl, pq_11k, pq_wr (by omega) (by omega), Option.bind_some]
    refine ⟨_, rfl, Or.inr ⟨p2, _, rfl, by omega, g2, g3, g4, ?_, fun q hq => by rw [pk_un (by omega), r2 q hq], Or.inl (by rw [hst]), fun z1 z2 => ?_, fun z1 z2 => ?_⟩⟩
    · rw [hst]
      refine ⟨ow, how, by rw [pk_un (by omega), r1], rfl, Or.inl ⟨by rw [pk_un (by omega), r0], rfl, b + 1, hb, pk_us, rfl, fun q hq => ?_⟩⟩
      rw [pk_un (by omega), pk_un (by omega)]
      exact g5 q hq
    · obtain ⟨e, i1, i2⟩ := h.2 p2 z1
      have hbt : pqBt (x p2) = 99 := by
        unfold pqBt
        rw [if_neg (fun y => hng ⟨z1, Or.inr (Or.inl y)⟩), if_neg (fun y => hng ⟨z1, Or.inr (Or.inr ⟨y.1, by omega⟩)⟩)]
      obtain ⟨st2, ht⟩ := pq_tk4 (fu := fu) (k := 0) (o := nI ow) (t := t) (cl := cl) (op := op) (b := b) (by omega) i2 z2 (fun y => by have := hpl z1 y; omega)
      rw [if_neg (fun y => hng ⟨z1, Or.inl y.1⟩), if_neg (fun y => y.1 hbt), ← e] at ht
      exact pqBad_of hst ht
    · obtain ⟨e, i1, i2⟩ := h.2 p2 z1
      have ht := pq_tk4e (fu := fu) (k := 0) (o := nI ow) (t := t) (b := nI (b + 1)) (cu := nI b) (cl := cl) (op := op)
      rw [← z2, ← e] at ht
      obtain ⟨k1, k2⟩ := pqOk_of hst ht
      exact ⟨k1, by rw [k2]⟩
