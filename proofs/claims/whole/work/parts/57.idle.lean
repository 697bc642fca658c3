/-! A branch that is never needed: the reference's way. -/
def pqAv (cl op : Nat → Int32) (r : Nat) (on : Int32) (j : Nat) : Nat → Bool
  | 0 => pqLb cl op r on j
  | m + 1 => pqAv cl op r on j m && (decide (m = j) || !pqLb cl op r on m)
theorem pqAv_iff {cl op : Nat → Int32} {r j : Nat} {on : Int32} : ∀ m, pqAv cl op r on j m = true ↔ (pqLb cl op r on j = true ∧ ∀ k, k < m → k ≠ j → pqLb cl op r on k = false)
  | 0 => ⟨fun h => ⟨h, fun k z => absurd z (Nat.not_lt_zero _)⟩, fun h => h.1⟩
  | m + 1 => by
    unfold pqAv
    rw [Bool.and_eq_true, pqAv_iff m, Bool.or_eq_true, decide_eq_true_iff, Bool.not_eq_true']
    constructor
    · rintro ⟨⟨h1, h2⟩, h3⟩
      refine ⟨h1, fun k hk hkj => ?_⟩
      rcases Nat.lt_or_ge k m with c | c
      · exact h2 k c hkj
      · obtain rfl : k = m := by omega
        exact h3.resolve_left hkj
    · rintro ⟨h1, h2⟩
      refine ⟨⟨h1, fun k hk => h2 k (by omega)⟩, ?_⟩
      by_cases c : m = j
      · exact Or.inl c
      · exact Or.inr (h2 m (by omega) c)
theorem pqAv_no {cl op : Nat → Int32} {r j i : Nat} {on : Int32} (h : pqAv cl op r on j i = false) : ∀ k, pqAv cl op r on j (i + k) = false
  | 0 => h
  | k + 1 => by
    show (pqAv cl op r on j (i + k) && _) = false
    rw [pqAv_no h k, Bool.false_and]
theorem pq_ldb {fu n r j b : Nat} {s cl op : Nat → Int32} {on : Int32} (hr : r < 6) (hb4 : b ≤ 4) (hj : j < b) (hc : ∀ j, j < b → s (4 + 14 * r + (6 + 2 * j)) = cl (4 * r + j) ∧ s (4 + 14 * r + (6 + 2 * j + 1)) = op (4 * r + j)) : F_X4_isLeading fu s 88 (nI r) (nI j) on = some (if pqLb cl op r on j = true then 1 else 0) := by
  rw [pq_ldr hr (by omega), (hc j hj).1, (hc j hj).2]
  unfold pqLb
  by_cases c1 : cl (4 * r + j) &&& (on ^^^ (-1 : Int32)) = 0 <;> by_cases c2 : op (4 * r + j) &&& on = 0 <;> simp [c1, c2]
theorem pq_sh4 {n : Nat} (hn : n ≤ 6) : (1 : Int32) <<< (((4 : Int32) + nI n) &&& (31 : Int32)) = nI (2 ^ (4 + n)) := by
  have h : ∀ n, n < 7 → (1 : Int32) <<< (((4 : Int32) + nI n) &&& (31 : Int32)) = nI (2 ^ (4 + n)) := by decide +kernel
  exact h n (by omega)
theorem pq_p1024 {n : Nat} (hn : n ≤ 6) : 2 ^ (4 + n) ≤ 1024 := Nat.pow_le_pow_right (by decide) (by omega : 4 + n ≤ 10)
theorem pq_isNeeded {fu n r j : Nat} {b : Nat → Nat} {cl op pu dr s : Nat → Int32} {inp : Int32} (h : pqR n b cl op pu dr inp s) (hr : r < n) (hj : j < b r) (hf : 4096 ≤ fu) : ∃ v, F_X4_isNeeded fu s (nI r) (nI j) = some v ∧ (v = 0 ∨ v = 1) ∧ (v = 1 ↔ ∃ t, t < 2 ^ (4 + n) ∧ pqAl cl op r (b r) (nI t) j) := by
  obtain ⟨hn, h0, h1, hr2⟩ := h
  have q := hr2 r hr
  have hp := pq_p1024 hn
  unfold F_X4_isNeeded
  refine zlp_t1 (Q := fun o => ∃ v, o = some v ∧ (v = 0 ∨ v = 1) ∧ (v = 1 ↔ ∃ t, t < 2 ^ (4 + n) ∧ pqAl cl op r (b r) (nI t) j)) (2 ^ (4 + n)) (fun i a => a = nI i ∧ ∀ t, t < i → ¬ pqAl cl op r (b r) (nI t) j) ?_ (by omega) _ ⟨rfl, fun t z => absurd z (Nat.not_lt_zero _)⟩
  rintro rec i hi hrec a ⟨rfl, hno⟩
  rcases Nat.lt_or_ge i (2 ^ (4 + n)) with c | c
  · simp (disch := omega) only [F_X4_isNeeded_L2, pq_rd0, h0, Option.bind_some, pq_sh4 hn, nI_leI, show ¬ 2 ^ (4 + n) ≤ i by omega, ↓reduceIte, pq_ldb (n := n) (fu := fu) (on := nI i) (show r < 6 by omega) q.1 hj q.2.2.2.2]
    have key : zlp2 (F_X4_isNeeded_L31 fu s (nI r) (nI j) (nI i) (F_X4_isNeeded_E83 rec (nI i))) fu (if pqLb cl op r (nI i) j = true then 1 else 0) 0 = if pqAv cl op r (nI i) j (b r) = true then some 1 else rec (nI (i + 1)) := by
      refine zlp_t2 (Q := fun o => o = if pqAv cl op r (nI i) j (b r) = true then some 1 else rec (nI (i + 1))) (b r) (fun m a1 a2 => a1 = (if pqAv cl op r (nI i) j m = true then 1 else 0) ∧ a2 = nI m) ?_ (by have := q.1; omega) _ _ ⟨rfl, rfl⟩
      rintro rec2 m hm hrec2 a1 a2 ⟨rfl, rfl⟩
      rcases Nat.lt_or_ge m (b r) with cm | cm
      · have q4 := q.1
        by_cases c1 : pqAv cl op r (nI i) j m = true
        · by_cases c2 : m = j
          · subst c2
            simp (disch := omega) only [F_X4_isNeeded_L31, pq_of4, q.2.2.2.1, Option.bind_some, nI_leI, show ¬ b r ≤ m by omega, ↓reduceIte, c1, pq_10, nI_1]
            refine hrec2 cm _ _ ⟨?_, rfl⟩
            unfold pqAv
            rw [c1, decide_eq_true rfl]
            rfl
          · simp (disch := omega) only [F_X4_isNeeded_L31, pq_of4, q.2.2.2.1, Option.bind_some, nI_leI, nI_eq, show ¬ b r ≤ m by omega, ↓reduceIte, c1, c2, pq_10, nI_1, pq_ldb (n := n) (fu := fu) (on := nI i) (show r < 6 by omega) q.1 cm q.2.2.2.2]
            by_cases c3 : pqLb cl op r (nI i) m = true
            · simp only [c3, ↓reduceIte, pq_10]
              refine hrec2 cm _ _ ⟨?_, rfl⟩
              unfold pqAv
              rw [c1, c3, decide_eq_false c2]
              rfl
            · simp only [c3, ↓reduceIte, Bool.false_eq_true]
              refine hrec2 cm _ _ ⟨?_, rfl⟩
              unfold pqAv
              rw [c1, Bool.eq_false_iff.mpr c3, decide_eq_false c2]
              rfl
        · have c1f := Bool.eq_false_iff.mpr c1
          have e := pqAv_no c1f (b r - m)
          rw [show m + (b r - m) = b r by omega] at e
          simp (disch := omega) only [F_X4_isNeeded_L31, pq_of4, q.2.2.2.1, Option.bind_some, nI_leI, show ¬ b r ≤ m by omega, ↓reduceIte, c1f, Bool.false_eq_true, F_X4_isNeeded_E83, e, nI_1]
      · obtain rfl : m = b r := by omega
        by_cases c1 : pqAv cl op r (nI i) j (b r) = true
        · simp (disch := omega) only [F_X4_isNeeded_L31, pq_of4, q.2.2.2.1, Option.bind_some, nI_leI, Nat.le_refl, ↓reduceIte, F_X4_isNeeded_E83, c1, pq_10]
        · have c1f := Bool.eq_false_iff.mpr c1
          simp (disch := omega) only [F_X4_isNeeded_L31, pq_of4, q.2.2.2.1, Option.bind_some, nI_leI, Nat.le_refl, ↓reduceIte, F_X4_isNeeded_E83, c1f, Bool.false_eq_true, nI_1]
    rw [key]
    by_cases c1 : pqAv cl op r (nI i) j (b r) = true
    · rw [if_pos c1]
      exact ⟨1, rfl, Or.inr rfl, fun _ => ⟨i, c, (pqAv_iff (b r)).mp c1⟩, fun _ => rfl⟩
    · rw [if_neg c1]
      refine hrec c _ ⟨rfl, fun t ht => ?_⟩
      rcases Nat.lt_or_ge t i with c2 | c2
      · exact hno t c2
      · obtain rfl : t = i := by omega
        exact fun z => c1 ((pqAv_iff (b r)).mpr z)
  · obtain rfl : i = 2 ^ (4 + n) := by omega
    simp (disch := omega) only [F_X4_isNeeded_L2, pq_rd0, h0, Option.bind_some, pq_sh4 hn, nI_leI, Nat.le_refl, ↓reduceIte, F_X4_isNeeded_E96]
    exact ⟨0, rfl, Or.inl rfl, fun z => absurd z pq_01, fun ⟨t, z1, z2⟩ => absurd z2 (hno t z1)⟩
theorem pq_idle {fu n r : Nat} {b : Nat → Nat} {br cl op pu dr cg s : Nat → Int32} {inp mot tk ch : Int32} (h : pqLad n b br cl op pu dr cg inp mot tk ch s) (hr : r < n) (hf : 4096 ≤ fu) : ∃ v, F_X0_idleBranch fu br cl op (nI r) = some v ∧ F_X4_idles fu s (nI r) = some v := by
  obtain ⟨hb, hR, hm, hz, hx, ho, hk, hi, ht⟩ := h
  have hn := hb.1
  have q := hR.2.2.2 r hr
  have q4 := q.1
  obtain ⟨al, eal, hal⟩ := pq_lone (fu := fu) hn (show r < 6 by omega) (hb.2 r hr).1 q4 (hk r hr) hf
  have hle : fa_first (fun j => !bt al j) (b r) ≤ b r := fa_first_le _ _
  have hno : ∀ k, k < fa_first (fun j => !bt al j) (b r) → bt al k = true := fun k hk => by
    have := fa_first_no _ (b r) k hk
    revert this
    cases bt al k <;> decide
  have hyes : fa_first (fun j => !bt al j) (b r) < b r → bt al (fa_first (fun j => !bt al j) (b r)) = false := fun hk => by
    have := fa_first_yes _ (b r) hk
    revert this
    generalize bt al (fa_first (fun j => !bt al j) (b r)) = z
    revert z
    decide
  generalize fa_first (fun j => !bt al j) (b r) = K at hle hno hyes
  refine ⟨if K < b r then nI K else -1, ?_, ?_⟩
  · unfold F_X0_idleBranch
    rw [eal, Option.bind_some]
    refine zlp_r1 (fun j => nI j) K ?_ ?_ (by omega)
    · intro rec j hj
      simp (disch := omega) only [F_X0_idleBranch_L8, pq_rd, (hb.2 r hr).1, Option.bind_some, nI_leI, show ¬ b r ≤ j by omega, ↓reduceIte, pq_isIn, hno j hj, pq_10, nI_1]
    · intro rec
      rcases Nat.lt_or_ge K (b r) with c | c
      · simp (disch := omega) only [F_X0_idleBranch_L8, pq_rd, (hb.2 r hr).1, Option.bind_some, nI_leI, show ¬ b r ≤ K by omega, ↓reduceIte, pq_isIn, hyes c, Bool.false_eq_true, c]
      · obtain rfl : K = b r := by omega
        simp (disch := omega) only [F_X0_idleBranch_L8, pq_rd, (hb.2 r hr).1, Option.bind_some, nI_leI, Nat.le_refl, ↓reduceIte, F_X0_idleBranch_E34, Nat.lt_irrefl]
  · unfold F_X4_idles
    refine zlp_r1 (fun j => nI j) K ?_ ?_ (by omega)
    · intro rec j hj
      obtain ⟨v, e, h01, hv⟩ := pq_isNeeded (fu := fu) hR hr (show j < b r by omega) hf
      have v1 : v = 1 := hv.mpr ((hal j (by omega)).mp (hno j hj))
      subst v1
      simp (disch := omega) only [F_X4_idles_L2, pq_of4, q.2.2.2.1, Option.bind_some, nI_leI, show ¬ b r ≤ j by omega, ↓reduceIte, e, pq_10, nI_1]
    · intro rec
      rcases Nat.lt_or_ge K (b r) with c | c
      · obtain ⟨v, e, h01, hv⟩ := pq_isNeeded (fu := fu) hR hr c hf
        have v0 : v = 0 := h01.resolve_right (fun z => by
          have := (hal K c).mpr (hv.mp z)
          rw [hyes c] at this
          cases this)
        subst v0
        simp (disch := omega) only [F_X4_idles_L2, pq_of4, q.2.2.2.1, Option.bind_some, nI_leI, show ¬ b r ≤ K by omega, ↓reduceIte, e, c]
      · obtain rfl : K = b r := by omega
        simp (disch := omega) only [F_X4_idles_L2, pq_of4, q.2.2.2.1, Option.bind_some, nI_leI, Nat.le_refl, ↓reduceIte, F_X4_idles_E32, Nat.lt_irrefl]
