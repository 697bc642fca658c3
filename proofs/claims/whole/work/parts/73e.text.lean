/-! Texts: a whole order, a whole text. -/
theorem pq_timed {fu l j p : Nat} {st0 : pqRS} {tx : Nat → Int32} {x : Nat → Nat} {kd mk o t b cu : Int32} {cl op R0 : Nat → Int32} (h : pqCs l tx x) (hj : j < 16) (hp : p + 1 ≤ l) (hok : ∀ i, i < p + 1 → pqOk fu st0 tx i) (h59 : x p ≠ 59) (hs : pqSt8 fu st0 tx (p + 1) = (5, kd, o, t, b, cu, cl, op)) (hk : mk = 117 ∧ kd = 1 ∨ mk = 118 ∧ kd = 2) : ∃ r, F_X4_readsOrder_J47 fu (nI l) (nI j) R0 tx (nI (p + 1)) mk = some r ∧ pqOrEnd fu st0 tx x l p j R0 r := by
  have hl := h.1
  have d1 : ∀ R, F_X4_readsDigit fu (nI l) (nI (p + 1)) (nI j) tx R (1 : Int32) (53 : Int32) = some (if p + 1 < l ∧ 48 ≤ x (p + 1) ∧ x (p + 1) ≤ 53 then (1, nI (p + 1 + 1), upd R (11 * j + 1) (nI (x (p + 1) - 48))) else (0, nI (p + 1), R)) := fun R => pq_digit (k := 1) (m := 53) h (by omega) hp hj (by omega)
  unfold F_X4_readsOrder_J47
  rw [pq_11, pq_wr (by omega) (by omega), Option.bind_some, d1, Option.bind_some]
  by_cases c1 : p + 1 < l ∧ 48 ≤ x (p + 1) ∧ x (p + 1) ≤ 53
  · obtain ⟨e, i1, i2⟩ := h.2 (p + 1) c1.1
    have ht := pq_tk5 (fu := fu) (x := x (p + 1)) (k := kd) (o := o) (t := t) (b := b) (cu := cu) (cl := cl) (op := op) i2
    rw [if_pos c1.2, ← e] at ht
    obtain ⟨k1, k2⟩ := pqOk_of hs ht
    have hok2 := pqOk_ext hok k1
    have htk : F_X4_takes fu (nI l) (nI (p + 1 + 1)) tx (58 : Int32) = some (if p + 1 + 1 < l ∧ x (p + 1 + 1) = 58 then (1, nI (p + 1 + 1 + 1)) else (0, nI (p + 1 + 1))) := pq_takes (m := 58) h (by omega) (by omega)
    simp only [if_pos c1, pq_10, ↓reduceIte]
    rw [htk, Option.bind_some]
    by_cases c2 : p + 1 + 1 < l ∧ x (p + 1 + 1) = 58
    · obtain ⟨e2, i3, i4⟩ := h.2 (p + 1 + 1) c2.1
      have ht2 := pq_tk6 (fu := fu) (x := x (p + 1 + 1)) (k := kd) (o := nI (x (p + 1) - 48)) (t := t) (b := b) (cu := cu) (cl := cl) (op := op) i4
      rw [if_pos c2.2, ← e2] at ht2
      obtain ⟨k3, k4⟩ := pqOk_of k2 ht2
      have hok3 := pqOk_ext hok2 k3
      have d2 : ∀ R, F_X4_readsDigit fu (nI l) (nI (p + 1 + 1 + 1)) (nI j) tx R (2 : Int32) (57 : Int32) = some (if p + 1 + 1 + 1 < l ∧ 48 ≤ x (p + 1 + 1 + 1) ∧ x (p + 1 + 1 + 1) ≤ 57 then (1, nI (p + 1 + 1 + 1 + 1), upd R (11 * j + 2) (nI (x (p + 1 + 1 + 1) - 48))) else (0, nI (p + 1 + 1 + 1), R)) := fun R => pq_digit (k := 2) (m := 57) h (by omega) (by omega) hj (by omega)
      simp only [if_pos c2, pq_10, ↓reduceIte]
      rw [d2, Option.bind_some]
      by_cases c3 : p + 1 + 1 + 1 < l ∧ 48 ≤ x (p + 1 + 1 + 1) ∧ x (p + 1 + 1 + 1) ≤ 57
      · obtain ⟨e3, i5, i6⟩ := h.2 (p + 1 + 1 + 1) c3.1
        have ht3 := pq_tk7 (fu := fu) (x := x (p + 1 + 1 + 1)) (k := kd) (o := nI (x (p + 1) - 48)) (t := t) (b := b) (cu := cu) (cl := cl) (op := op) i6
        rw [if_pos c3.2, ← e3] at ht3
        obtain ⟨k5, k6⟩ := pqOk_of k4 ht3
        have hok4 := pqOk_ext hok3 k5
        simp only [if_pos c3, pq_10, ↓reduceIte]
        refine ⟨_, rfl, Or.inr ⟨p + 1 + 1 + 1 + 1, _, rfl, by omega, by omega, hok4, fun i j1 j2 => ?_, ?_, fun q hq => by rw [pk_un (by omega), pk_un (by omega), pk_un (by omega)], Or.inr (by rw [k6]), fun z1 z2 => ?_, fun z1 z2 => ?_⟩⟩
        · rcases (show i = p ∨ i = p + 1 ∨ i = p + 1 + 1 ∨ i = p + 1 + 1 + 1 by omega) with rfl | rfl | rfl | rfl
          · exact h59
          · omega
          · omega
          · omega
        · rw [k6]
          refine ⟨x (p + 1) - 48, by omega, by rw [pk_un (by omega), pk_us], rfl, Or.inr ⟨?_, x (p + 1 + 1 + 1) - 48, by omega, pk_us, rfl⟩⟩
          rw [pk_un (by omega), pk_un (by omega), Nat.add_zero, pk_us]
          exact hk
        · obtain ⟨e4, i7, i8⟩ := h.2 _ z1
          have ht4 := pq_tk8 (fu := fu) (x := x (p + 1 + 1 + 1 + 1)) (k := kd) (o := nI (x (p + 1) - 48)) (t := nI (x (p + 1 + 1 + 1) - 48)) (b := b) (cu := cu) (cl := cl) (op := op) i8
          rw [if_neg z2, ← e4] at ht4
          exact pqBad_of k6 ht4
        · obtain ⟨e4, i7, i8⟩ := h.2 _ z1
          have ht4 := pq_tk8 (fu := fu) (x := x (p + 1 + 1 + 1 + 1)) (k := kd) (o := nI (x (p + 1) - 48)) (t := nI (x (p + 1 + 1 + 1) - 48)) (b := b) (cu := cu) (cl := cl) (op := op) i8
          rw [if_pos z2, ← e4] at ht4
          obtain ⟨k7, k8⟩ := pqOk_of k6 ht4
          exact ⟨k7, by rw [k8]⟩
      · simp only [if_neg c3, ↓reduceIte]
        refine ⟨_, rfl, Or.inl ⟨p + 1 + 1 + 1, _, rfl, by omega, by omega, hok3, ?_⟩⟩
        rcases Nat.lt_or_ge (p + 1 + 1 + 1) l with z | z
        · obtain ⟨e3, i5, i6⟩ := h.2 (p + 1 + 1 + 1) z
          have ht3 := pq_tk7 (fu := fu) (x := x (p + 1 + 1 + 1)) (k := kd) (o := nI (x (p + 1) - 48)) (t := t) (b := b) (cu := cu) (cl := cl) (op := op) i6
          rw [if_neg (fun y => c3 ⟨z, y⟩), ← e3] at ht3
          exact Or.inr ⟨z, pqBad_of k4 ht3⟩
        · obtain rfl : p + 1 + 1 + 1 = l := by omega
          exact Or.inl ⟨rfl, by rw [k4]; exact (by decide : ¬ (7 : Int32) = 4), by rw [k4]; exact (by decide : ¬ (7 : Int32) = 8)⟩
    · simp only [if_neg c2, ↓reduceIte]
      refine ⟨_, rfl, Or.inl ⟨p + 1 + 1, _, rfl, by omega, by omega, hok2, ?_⟩⟩
      rcases Nat.lt_or_ge (p + 1 + 1) l with z | z
      · obtain ⟨e2, i3, i4⟩ := h.2 (p + 1 + 1) z
        have ht2 := pq_tk6 (fu := fu) (x := x (p + 1 + 1)) (k := kd) (o := nI (x (p + 1) - 48)) (t := t) (b := b) (cu := cu) (cl := cl) (op := op) i4
        rw [if_neg (fun y => c2 ⟨z, y⟩), ← e2] at ht2
        exact Or.inr ⟨z, pqBad_of k2 ht2⟩
      · obtain rfl : p + 1 + 1 = l := by omega
        exact Or.inl ⟨rfl, by rw [k2]; exact (by decide : ¬ (6 : Int32) = 4), by rw [k2]; exact (by decide : ¬ (6 : Int32) = 8)⟩
  · simp only [if_neg c1, ↓reduceIte]
    refine ⟨_, rfl, Or.inl ⟨p + 1, _, rfl, by omega, hp, hok, ?_⟩⟩
    rcases Nat.lt_or_ge (p + 1) l with z | z
    · obtain ⟨e, i1, i2⟩ := h.2 (p + 1) z
      have ht := pq_tk5 (fu := fu) (x := x (p + 1)) (k := kd) (o := o) (t := t) (b := b) (cu := cu) (cl := cl) (op := op) i2
      rw [if_neg (fun y => c1 ⟨z, y⟩), ← e] at ht
      exact Or.inr ⟨z, pqBad_of hs ht⟩
    · obtain rfl : p + 1 = l := by omega
      exact Or.inl ⟨rfl, by rw [hs]; exact (by decide : ¬ (5 : Int32) = 4), by rw [hs]; exact (by decide : ¬ (5 : Int32) = 8)⟩
theorem pq_rung {fu l j p : Nat} {st0 : pqRS} {tx : Nat → Int32} {x : Nat → Nat} {kd o t b cu : Int32} {cl op R0 : Nat → Int32} (h : pqCs l tx x) (hj : j < 16) (hp : p ≤ l) (hok : ∀ i, i < p → pqOk fu st0 tx i) (hs : pqSt8 fu st0 tx p = (0, kd, o, t, b, cu, cl, op)) (hu : p < l → x p ≠ 117) (hv : p < l → x p ≠ 118) (hf : 4096 ≤ fu) : ∃ r, F_X4_readsRung fu (nI l) (nI p) (nI j) tx R0 = some r ∧ pqOrEnd fu st0 tx x l p j R0 r := by
  have hl := h.1
  have d1 : ∀ R, F_X4_readsDigit fu (nI l) (nI p) (nI j) tx R (1 : Int32) (53 : Int32) = some (if p < l ∧ 48 ≤ x p ∧ x p ≤ 53 then (1, nI (p + 1), upd R (11 * j + 1) (nI (x p - 48))) else (0, nI p, R)) := fun R => pq_digit (k := 1) (m := 53) h (by omega) hp hj (by omega)
  unfold F_X4_readsRung
  rw [pq_11, pq_wr (by omega) (by omega), Option.bind_some, d1, Option.bind_some]
  by_cases c1 : p < l ∧ 48 ≤ x p ∧ x p ≤ 53
  · obtain ⟨e, i1, i2⟩ := h.2 p c1.1
    have ht := pq_tk0 (fu := fu) (x := x p) (k := kd) (o := o) (t := t) (b := b) (cu := cu) (cl := cl) (op := op) i2 (hu c1.1) (hv c1.1)
    rw [if_pos c1.2, ← e] at ht
    obtain ⟨k1, k2⟩ := pqOk_of hs ht
    have hok2 := pqOk_ext hok k1
    have htk : F_X4_takes fu (nI l) (nI (p + 1)) tx (61 : Int32) = some (if p + 1 < l ∧ x (p + 1) = 61 then (1, nI (p + 1 + 1)) else (0, nI (p + 1))) := pq_takes (m := 61) h (by omega) (by omega)
    simp only [if_pos c1, pq_10, ↓reduceIte]
    rw [htk, Option.bind_some]
    by_cases c2 : p + 1 < l ∧ x (p + 1) = 61
    · obtain ⟨e2, i3, i4⟩ := h.2 (p + 1) c2.1
      have ht2 := pq_tk1 (fu := fu) (x := x (p + 1)) (k := 0) (o := nI (x p - 48)) (t := t) (b := 0) (cu := cu) (cl := cl) (op := op) i4
      rw [if_pos c2.2, ← e2] at ht2
      obtain ⟨k3, k4⟩ := pqOk_of k2 ht2
      have hok3 := pqOk_ext hok2 k3
      simp only [if_pos c2, pq_10, ↓reduceIte]
      obtain ⟨r, er, hr⟩ := pq_rungLoop (fu := fu) (R0 := upd (upd R0 (11 * j) 61) (11 * j + 1) (nI (x p - 48))) h hj (by omega) hok3 k4 (show x p - 48 < 6 by omega) (by rw [pk_un (by omega), Nat.add_zero, pk_us]) pk_us hf
      refine ⟨r, er, ?_⟩
      rcases hr with ⟨p2, R, e5, h1, h2⟩ | ⟨p2, R, e5, h1, h2, h3, h4, h5, h6, h7, h8, h9⟩
      · exact Or.inl ⟨p2, R, e5, by omega, h2⟩
      · refine Or.inr ⟨p2, R, e5, by omega, h2, h3, fun i j1 j2 => ?_, h5, fun q hq => by rw [h6 q hq, pk_un (by omega), pk_un (by omega)], h7, h8, h9⟩
        rcases Nat.lt_or_ge i (p + 1 + 1) with z | z
        · rcases (show i = p ∨ i = p + 1 by omega) with rfl | rfl
          · omega
          · omega
        · exact h4 i z j2
    · simp only [if_neg c2, ↓reduceIte]
      refine ⟨_, rfl, Or.inl ⟨p + 1, _, rfl, by omega, by omega, hok2, ?_⟩⟩
      rcases Nat.lt_or_ge (p + 1) l with z | z
      · obtain ⟨e2, i3, i4⟩ := h.2 (p + 1) z
        have ht2 := pq_tk1 (fu := fu) (x := x (p + 1)) (k := 0) (o := nI (x p - 48)) (t := t) (b := 0) (cu := cu) (cl := cl) (op := op) i4
        rw [if_neg (fun y => c2 ⟨z, y⟩), ← e2] at ht2
        exact Or.inr ⟨z, pqBad_of k2 ht2⟩
      · obtain rfl : p + 1 = l := by omega
        exact Or.inl ⟨rfl, by rw [k2]; exact (by decide : ¬ (1 : Int32) = 4), by rw [k2]; exact (by decide : ¬ (1 : Int32) = 8)⟩
  · simp only [if_neg c1, ↓reduceIte]
    refine ⟨_, rfl, Or.inl ⟨p, _, rfl, Nat.le_refl _, hp, hok, ?_⟩⟩
    rcases Nat.lt_or_ge p l with z | z
    · obtain ⟨e, i1, i2⟩ := h.2 p z
      have ht := pq_tk0 (fu := fu) (x := x p) (k := kd) (o := o) (t := t) (b := b) (cu := cu) (cl := cl) (op := op) i2 (hu z) (hv z)
      rw [if_neg (fun y => c1 ⟨z, y⟩), ← e] at ht
      exact Or.inr ⟨z, pqBad_of hs ht⟩
    · obtain rfl : p = l := by omega
      exact Or.inl ⟨rfl, by rw [hs]; exact (by decide : ¬ (0 : Int32) = 4), by rw [hs]; exact (by decide : ¬ (0 : Int32) = 8)⟩
theorem pq_order {fu l j p : Nat} {st0 : pqRS} {tx : Nat → Int32} {x : Nat → Nat} {R0 : Nat → Int32} (h : pqCs l tx x) (hj : j < 16) (hp : p ≤ l) (hok : ∀ i, i < p → pqOk fu st0 tx i) (hs : (pqSt8 fu st0 tx p).1 = 0) (hf : 4096 ≤ fu) : ∃ r, F_X4_readsOrder fu (nI l) (nI p) (nI j) tx R0 = some r ∧ pqOrEnd fu st0 tx x l p j R0 r := by
  obtain ⟨⟨nx, kd, o, t, b, cu, cl, op⟩, hst⟩ : ∃ st, pqSt8 fu st0 tx p = st := ⟨_, rfl⟩
  rw [hst] at hs
  simp only at hs
  subst hs
  have t1 : F_X4_takes fu (nI l) (nI p) tx (117 : Int32) = some (if p < l ∧ x p = 117 then (1, nI (p + 1)) else (0, nI p)) := pq_takes (m := 117) h (by omega) hp
  have t2 : F_X4_takes fu (nI l) (nI p) tx (118 : Int32) = some (if p < l ∧ x p = 118 then (1, nI (p + 1)) else (0, nI p)) := pq_takes (m := 118) h (by omega) hp
  unfold F_X4_readsOrder
  rw [t1, Option.bind_some]
  by_cases c1 : p < l ∧ x p = 117
  · simp only [if_pos c1, pq_10, ↓reduceIte, F_X4_readsOrder_J25]
    obtain ⟨e, i1, i2⟩ := h.2 p c1.1
    have ht := pq_tk0u (fu := fu) (k := kd) (o := o) (t := t) (b := b) (cu := cu) (cl := cl) (op := op)
    rw [← c1.2, ← e] at ht
    obtain ⟨k1, k2⟩ := pqOk_of hst ht
    exact pq_timed h hj (by omega) (pqOk_ext hok k1) (by omega) k2 (Or.inl ⟨rfl, rfl⟩)
  · simp only [if_neg c1, ↓reduceIte]
    rw [t2, Option.bind_some]
    by_cases c2 : p < l ∧ x p = 118
    · simp only [if_pos c2, pq_10, ↓reduceIte, F_X4_readsOrder_J25]
      obtain ⟨e, i1, i2⟩ := h.2 p c2.1
      have ht := pq_tk0v (fu := fu) (k := kd) (o := o) (t := t) (b := b) (cu := cu) (cl := cl) (op := op)
      rw [← c2.2, ← e] at ht
      obtain ⟨k1, k2⟩ := pqOk_of hst ht
      exact pq_timed h hj (by omega) (pqOk_ext hok k1) (by omega) k2 (Or.inr ⟨rfl, rfl⟩)
    · simp only [if_neg c2, ↓reduceIte]
      obtain ⟨r, er, hr⟩ := pq_rung (fu := fu) (R0 := R0) h hj hp hok hst (fun z y => c1 ⟨z, y⟩) (fun z y => c2 ⟨z, y⟩) hf
      rw [er, Option.bind_some]
      rcases hr with ⟨p2, R, rfl, h1⟩ | ⟨p2, R, rfl, h1⟩
      · simp only [pq_zbo0, Option.bind_some]
        exact ⟨_, rfl, Or.inl ⟨p2, R, rfl, h1⟩⟩
      · simp only [pq_zbo1, Option.bind_some]
        exact ⟨_, rfl, Or.inr ⟨p2, R, rfl, h1⟩⟩
/-- a text is read: where each order ends -/
def pqTxEnd (fu : Nat) (st0 : pqRS) (tx : Nat → Int32) (x : Nat → Nat) (l : Nat) (r : Int32 × Int32 × Int32 × (Nat → Int32)) : Prop :=
  (∃ p2 od R, r = (0, nI p2, od, R) ∧ pqFail fu st0 tx l p2) ∨
  (∃ (m : Nat) (E : Nat → Nat) (R : Nat → Int32), r = (1, nI l, nI (m + 1), R) ∧ m < 16 ∧ (∀ i, i < l → pqOk fu st0 tx i) ∧ ((pqSt8 fu st0 tx l).1 = 4 ∨ (pqSt8 fu st0 tx l).1 = 8) ∧ E m = l ∧ (∀ j, j ≤ m → E j ≤ l ∧ pqOrd R j (pqSt8 fu st0 tx (E j))) ∧ (∀ j, j < m → E j < E (j + 1) ∧ x (E j) = 59) ∧ (∀ i, i < E 0 → x i ≠ 59) ∧ ∀ j, j < m → ∀ i, E j < i → i < E (j + 1) → x i ≠ 59)
theorem pqOrd_cong {R R2 : Nat → Int32} {j : Nat} {st : pqRS} (h : pqOrd R j st) (hR : ∀ q, q < 11 * j + 11 → R2 q = R q) : pqOrd R2 j st := by
  obtain ⟨ow, h1, h2, h3, h4⟩ := h
  refine ⟨ow, h1, by rw [hR _ (by omega), h2], h3, ?_⟩
  rcases h4 with ⟨a1, a2, nb, a3, a4, a5, a6⟩ | ⟨a1, tm, a2, a3, a4⟩
  · refine Or.inl ⟨by rw [hR _ (by omega), a1], a2, nb, a3, by rw [hR _ (by omega), a4], a5, fun b hb => ?_⟩
    rw [hR _ (by omega), hR _ (by omega)]
    exact a6 b hb
  · refine Or.inr ⟨?_, tm, a2, by rw [hR _ (by omega), a3], a4⟩
    rw [hR _ (by omega)]
    exact a1
theorem pq_isText {fu l : Nat} {st0 : pqRS} {tx : Nat → Int32} {x : Nat → Nat} {R0 : Nat → Int32} {sp od : Int32} (h : pqCs l tx x) (hs : st0.1 = 0) (hf : 4096 ≤ fu) : ∃ r, F_X4_isText fu (nI l) sp od tx R0 = some r ∧ pqTxEnd fu st0 tx x l r := by
  have hl := h.1
  unfold F_X4_isText
  refine zlp_t4 (Q := fun (oo : Option (Int32 × Int32 × Int32 × (Nat → Int32))) => ∃ r, oo = some r ∧ pqTxEnd fu st0 tx x l r) 17 (fun (j : Nat) (a1 a2 a3 : Int32) (R : Nat → Int32) => a3 = nI j ∧ ∃ (p : Nat) (E : Nat → Nat), a2 = nI p ∧ p ≤ l ∧ (∀ i, i < p → pqOk fu st0 tx i) ∧ (∀ q, q < j → E q ≤ l ∧ pqOrd R q (pqSt8 fu st0 tx (E q))) ∧ (∀ q, q + 1 < j → E q < E (q + 1) ∧ x (E q) = 59) ∧ (0 < j → ∀ i, i < E 0 → x i ≠ 59) ∧ (∀ q, q + 1 < j → ∀ i, E q < i → i < E (q + 1) → x i ≠ 59) ∧ (a1 = 1 ∧ 4 * j ≤ p ∧ (pqSt8 fu st0 tx p).1 = 0 ∧ (∀ q, q + 1 = j → E q + 1 = p ∧ x (E q) = 59) ∧ (j = 0 → p = 0) ∨ a1 = 0 ∧ 0 < j ∧ j ≤ 16 ∧ (∀ q, q + 1 = j → E q = p) ∧ ((pqSt8 fu st0 tx p).1 = 4 ∨ (pqSt8 fu st0 tx p).1 = 8) ∧ (p < l → pqBad fu st0 tx p))) ?_ (by omega) _ _ _ _ ⟨rfl, 0, fun _ => 0, rfl, Nat.zero_le _, fun i z => absurd z (Nat.not_lt_zero _), fun q z => absurd z (Nat.not_lt_zero _), fun q z => absurd z (by omega), fun z => absurd z (Nat.lt_irrefl _), fun q z => absurd z (by omega), Or.inl ⟨rfl, by omega, hs, fun q z => absurd z (by omega), fun _ => rfl⟩⟩
  rintro rec j hj hrec a1 a2 a3 R ⟨e3, p, E, e2, g1, g2, g3, g4, g5, g6, g7⟩
  rw [e3, e2]
  rcases g7 with ⟨e1, h4, hst, hE, hj0⟩ | ⟨e1, hj0, hj16, hE, hst, hbad⟩
  · rw [e1]
    have hj16 : j < 16 := by omega
    obtain ⟨r, er, hr⟩ := pq_order (fu := fu) (R0 := R) h hj16 g1 g2 hst hf
    unfold F_X4_isText_L12
    rw [if_neg pq_10, er, Option.bind_some]
    rcases hr with ⟨p2, R2, rfl, h1, h2⟩ | ⟨p2, R2, rfl, h1, h2, h3, h5, h6, h7, h8, h9, h10⟩
    · simp only [↓reduceIte]
      exact ⟨_, rfl, Or.inl ⟨p2, _, R2, rfl, h2⟩⟩
    · simp only [pq_10, ↓reduceIte, nI_1]
      have htk : F_X4_takes fu (nI l) (nI p2) tx (59 : Int32) = some (if p2 < l ∧ x p2 = 59 then (1, nI (p2 + 1)) else (0, nI p2)) := pq_takes (m := 59) h (by omega) h2
      rw [htk, Option.bind_some]
      obtain ⟨E2, hE2⟩ : ∃ E2 : Nat → Nat, E2 = fun q => if q = j then p2 else E q := ⟨_, rfl⟩
      have E2j : E2 j = p2 := by rw [hE2]; exact if_pos rfl
      have E2n : ∀ q, q ≠ j → E2 q = E q := fun q hq => by rw [hE2]; exact if_neg hq
      have c3 : ∀ q, q < j + 1 → E2 q ≤ l ∧ pqOrd R2 q (pqSt8 fu st0 tx (E2 q)) := fun q hq => by
        by_cases z : q = j
        · rw [z, E2j]
          exact ⟨h2, h6⟩
        · rw [E2n q z]
          have := g3 q (by omega)
          exact ⟨this.1, pqOrd_cong this.2 (fun y hy => h7 y (by omega))⟩
      have c4 : ∀ q, q + 1 < j + 1 → E2 q < E2 (q + 1) ∧ x (E2 q) = 59 := fun q hq => by
        by_cases z : q + 1 = j
        · rw [z, E2j, E2n q (by omega)]
          have := hE q z
          exact ⟨by omega, this.2⟩
        · rw [E2n q (by omega), E2n (q + 1) z]
          exact g4 q (by omega)
      have c5 : ∀ i, i < E2 0 → x i ≠ 59 := fun i hi => by
        by_cases z : j = 0
        · subst z
          rw [E2j] at hi
          exact h5 i (by have := hj0 rfl; omega) hi
        · rw [E2n 0 (fun y => z y.symm)] at hi
          exact g5 (by omega) i hi
      have c6 : ∀ q, q + 1 < j + 1 → ∀ i, E2 q < i → i < E2 (q + 1) → x i ≠ 59 := fun q hq i i1 i2 => by
        by_cases z : q + 1 = j
        · rw [z, E2j] at i2
          rw [E2n q (by omega)] at i1
          have := hE q z
          exact h5 i (by omega) i2
        · rw [E2n q (by omega)] at i1
          rw [E2n (q + 1) z] at i2
          exact g6 q (by omega) i i1 i2
      by_cases c : p2 < l ∧ x p2 = 59
      · simp only [if_pos c]
        obtain ⟨k1, k2⟩ := h10 c.1 c.2
        exact hrec (by omega) _ _ _ _ ⟨rfl, p2 + 1, E2, rfl, by omega, pqOk_ext h3 k1, c3, c4, fun _ => c5, c6, Or.inl ⟨rfl, by omega, k2, fun q hq => by
          obtain rfl : q = j := by omega
          rw [E2j]
          exact ⟨rfl, c.2⟩, fun z => absurd z (by omega)⟩⟩
      · simp only [if_neg c]
        exact hrec (by omega) _ _ _ _ ⟨rfl, p2, E2, rfl, h2, h3, c3, c4, fun _ => c5, c6, Or.inr ⟨rfl, by omega, by omega, fun q hq => by
          obtain rfl : q = j := by omega
          exact E2j, h8, fun z => h9 z (fun y => c ⟨z, y⟩)⟩⟩
  · rw [e1]
    unfold F_X4_isText_L12
    rw [if_pos rfl]
    unfold F_X4_isText_E45
    obtain ⟨m, rfl⟩ : ∃ m, j = m + 1 := ⟨j - 1, by omega⟩
    rcases Nat.lt_or_ge p l with z | z
    · have hne : ¬ nI p = nI l := fun y => by
        have := (nI_eq (a := p) (b := l) (by omega) (by omega)).mp y
        omega
      rw [if_neg hne]
      exact ⟨_, rfl, Or.inl ⟨p, _, R, rfl, g1, g2, Or.inr ⟨z, hbad z⟩⟩⟩
    · obtain rfl : p = l := by omega
      rw [if_pos rfl]
      exact ⟨_, rfl, Or.inr ⟨m, E, R, rfl, by omega, g2, hst, hE m rfl, fun q hq => g3 q (by omega), fun q hq => g4 q (by omega), g5 (by omega), fun q hq => g6 q (by omega)⟩⟩
