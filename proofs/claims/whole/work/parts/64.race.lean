/-! The rests told, and all ways looked at: class and reference side by side. -/
def pqLo (R : Nat) : Int32 := if fa_first (fun i => R.testBit i) 64 < 64 then nI (fa_first (fun i => R.testBit i) 64) else -1
def pqTp (R : Nat) : Nat → Int32
  | 0 => -1
  | N + 1 => if R.testBit N = true then nI N else pqTp R N
theorem pqTp_lt (R : Nat) : ∀ N, pqTp R N = -1 ∨ ∃ v, v < N ∧ pqTp R N = nI v
  | 0 => Or.inl rfl
  | N + 1 => by
    unfold pqTp
    split
    · exact Or.inr ⟨N, by omega, rfl⟩
    · rcases pqTp_lt R N with h | ⟨v, h1, h2⟩
      · exact Or.inl h
      · exact Or.inr ⟨v, by omega, h2⟩
theorem pq_n1 {u : Nat} (h : u < 2 ^ 31) : ¬ nI u ≤ (-1 : Int32) := by
  rw [Int32.le_iff_toInt_le, nI_toInt h, show ((-1 : Int32).toInt) = -1 from by decide]
  omega
theorem pq_ne1 {u : Nat} (h : u < 2 ^ 31) : ¬ nI u = (-1 : Int32) := fun e => pq_n1 h (by rw [e]; exact Int32.le_refl _)
theorem pqTp_set {R u : Nat} (hu : u < 64) : ∀ N, N ≤ 64 → pqTp (R ||| 2 ^ u) N = if u < N then (if nI u ≤ pqTp R N then pqTp R N else nI u) else pqTp R N
  | 0, _ => by
    rw [if_neg (by omega)]
    rfl
  | N + 1, hN => by
    have ih := pqTp_set (R := R) hu N (by omega)
    show (if (R ||| 2 ^ u).testBit N = true then nI N else pqTp (R ||| 2 ^ u) N) = _
    rw [fb_bit_set, ih]
    show _ = if u < N + 1 then (if nI u ≤ (if R.testBit N = true then nI N else pqTp R N) then (if R.testBit N = true then nI N else pqTp R N) else nI u) else (if R.testBit N = true then nI N else pqTp R N)
    rcases Nat.lt_trichotomy u N with c | c | c
    · rw [decide_eq_false (by omega : ¬ N = u), Bool.or_false, if_pos c, if_pos (by omega : u < N + 1)]
      by_cases z : R.testBit N = true
      · rw [if_pos z, if_pos z, if_pos (nI_le (by omega) (by omega))]
      · rw [if_neg z, if_neg z]
    · subst c
      rw [decide_eq_true rfl, Bool.or_true, if_pos rfl, if_pos (by omega : u < u + 1)]
      by_cases z : R.testBit u = true
      · rw [if_pos z, if_pos (Int32.le_refl _)]
      · rw [if_neg z, if_neg]
        rcases pqTp_lt R u with h | ⟨v, h1, h2⟩
        · rw [h]
          exact pq_n1 (by omega)
        · rw [h2]
          exact nI_ge h1 (by omega)
    · rw [decide_eq_false (by omega : ¬ N = u), Bool.or_false, if_neg (by omega : ¬ u < N), if_neg (by omega : ¬ u < N + 1)]
theorem pqLo_set {R u : Nat} (hu : u < 64) : pqLo (R ||| 2 ^ u) = if pqLo R = -1 then nI u else if pqLo R ≤ nI u then pqLo R else nI u := by
  have hset : ∀ i, (R ||| 2 ^ u).testBit i = (R.testBit i || decide (i = u)) := fun i => fb_bit_set R u i
  have key : ∀ F, (∀ k, k < F → R.testBit k = false) → (F < 64 → R.testBit F = true) → ∀ G, (∀ k, k < G → (R ||| 2 ^ u).testBit k = false) → (G < 64 → (R ||| 2 ^ u).testBit G = true) → (if G < 64 then nI G else (-1 : Int32)) = if (if F < 64 then nI F else (-1 : Int32)) = -1 then nI u else if (if F < 64 then nI F else (-1 : Int32)) ≤ nI u then (if F < 64 then nI F else (-1 : Int32)) else nI u := by
    intro F hno hyes G hno2 hyes2
    have hGu : G ≤ u := by
      rcases Nat.lt_or_ge u G with c | c
      · have h := hno2 u c
        rw [hset, decide_eq_true (rfl : u = u), Bool.or_true] at h
        cases h
      · exact c
    have hG := hyes2 (by omega)
    rw [hset] at hG
    rw [if_pos (by omega : G < 64)]
    by_cases c : F < 64
    · have hF := hyes c
      have hGF : G ≤ F := by
        rcases Nat.lt_or_ge F G with d | d
        · have h := hno2 F d
          rw [hset, hF, Bool.true_or] at h
          cases h
        · exact d
      rw [if_pos c, if_neg (pq_ne1 (by omega))]
      rcases Nat.lt_or_ge u F with d | d
      · rw [if_neg (nI_ge d (by omega))]
        have : G = u := by
          rcases Nat.lt_or_ge G u with e | e
          · rw [hno G (by omega), decide_eq_false (by omega)] at hG
            cases hG
          · omega
        rw [this]
      · rw [if_pos (nI_le d (by omega))]
        have : G = F := by
          rcases Nat.lt_or_ge G F with e | e
          · rw [hno G e, decide_eq_false (by omega)] at hG
            cases hG
          · omega
        rw [this]
    · rw [if_neg c, if_pos rfl]
      have : G = u := by
        rcases Nat.lt_or_ge G u with e | e
        · rw [hno G (by omega), decide_eq_false (by omega)] at hG
          cases hG
        · omega
      rw [this]
  exact key (fa_first (fun i => R.testBit i) 64) (fun k hk => fa_first_no (fun i => R.testBit i) 64 k hk) (fun hk => fa_first_yes (fun i => R.testBit i) 64 hk) (fa_first (fun i => (R ||| 2 ^ u).testBit i) 64) (fun k hk => fa_first_no (fun i => (R ||| 2 ^ u).testBit i) 64 k hk) (fun hk => fa_first_yes (fun i => (R ||| 2 ^ u).testBit i) 64 hk)
theorem pqPc_set {R u : Nat} (hu : u < 64) (h : R.testBit u = false) : pqPc (R ||| 2 ^ u) 64 = pqPc R 64 + 1 := by
  have e : pqPc (R ||| 2 ^ u) 64 = fb_ct (fun k => if k = u then true else R.testBit k) 64 := fb_ct_cong (fun k _ => by
    rw [fb_bit_set]
    by_cases c : k = u
    · rw [if_pos c, decide_eq_true c, Bool.or_true]
    · rw [if_neg c, decide_eq_false c, Bool.or_false])
  have e2 := fb_ct_upd (fun k => R.testBit k) true hu
  simp only [h, Bool.false_eq_true, ↓reduceIte, Nat.add_zero] at e2
  rw [e]
  exact e2
theorem pq_orself {R u : Nat} (h : R.testBit u = true) : R ||| 2 ^ u = R := by
  apply Nat.eq_of_testBit_eq
  intro i
  rw [fb_bit_set]
  by_cases c : i = u
  · rw [c, h, Bool.true_or]
  · rw [decide_eq_false c, Bool.or_false]
theorem pqRb_one {n f : Nat} {b : Nat → Nat} {cl op met : Nat → Int32} {inp : Int32} {R R2 : Nat} (h : pqRb n b cl op inp f met R) (h2 : pqRb n b cl op inp f met R2) : R = R2 := by
  apply Nat.eq_of_testBit_eq
  intro i
  rcases Nat.lt_or_ge i 64 with c | c
  · rw [Bool.eq_iff_iff, h.2 i c, h2.2 i c]
  · rw [Nat.testBit_lt_two_pow (Nat.lt_of_lt_of_le h.1 (Nat.pow_le_pow_right (by decide) c)), Nat.testBit_lt_two_pow (Nat.lt_of_lt_of_le h2.1 (Nat.pow_le_pow_right (by decide) c))]
theorem pqRb_cong {n f : Nat} {b : Nat → Nat} {cl op met met2 : Nat → Int32} {inp : Int32} {R : Nat} (h : pqRb n b cl op inp f met R) (hm : ∀ k, k < f → met2 k = met k) : pqRb n b cl op inp f met2 R := by
  refine ⟨h.1, fun u hu => ?_⟩
  rw [h.2 u hu]
  constructor
  · rintro ⟨k, k1, k2, k3⟩
    exact ⟨k, k1, by rw [hm k k1]; exact k2, by rw [hm k k1]; exact k3⟩
  · rintro ⟨k, k1, k2, k3⟩
    rw [hm k k1] at k2 k3
    exact ⟨k, k1, k2, k3⟩
theorem pq_least {fu R : Nat} (hR : R < 2 ^ 64) (hf : 4096 ≤ fu) : F_X2_leastRest fu (lN R) = some (pqLo R) := by
  unfold F_X2_leastRest pqLo
  have hle := fa_first_le (fun i => R.testBit i) 64
  have hno := fa_first_no (fun i => R.testBit i) 64
  have hyes := fa_first_yes (fun i => R.testBit i) 64
  generalize fa_first (fun i => R.testBit i) 64 = K at *
  refine zlp_r1 (fun j => nI j) K ?_ ?_ (by omega)
  · intro rec j hj
    have h64 : ¬ (64 : Int32) ≤ nI j := nI_ge (b := 64) (by omega) (by omega)
    have h0 : R.testBit j = false := hno j hj
    simp (disch := omega) only [F_X2_leastRest_L2, h64, ↓reduceIte, lg_cmp_eq, pq_bitL hR (show j < 64 by omega), h0, Bool.false_eq_true, show ¬ (0 : Int64) = 1 by decide, nI_1]
  · intro rec
    by_cases c : K < 64
    · have h64 : ¬ (64 : Int32) ≤ nI K := nI_ge (b := 64) (by omega) (by omega)
      have h1 : R.testBit K = true := hyes c
      simp (disch := omega) only [F_X2_leastRest_L2, h64, ↓reduceIte, lg_cmp_eq, pq_bitL hR c, h1, c]
    · obtain rfl : K = 64 := by omega
      simp only [F_X2_leastRest_L2, show (64 : Int32) ≤ nI 64 by decide, ↓reduceIte, F_X2_leastRest_E29, Nat.lt_irrefl]
theorem pq_greatest {fu R : Nat} (hR : R < 2 ^ 64) (hf : 4096 ≤ fu) : F_X2_greatestRest fu (lN R) = some (pqTp R 64) := by
  have key : ∀ N, N ≤ 64 → ∀ fc, N < fc → zlp1 (F_X2_greatestRest_L3 (lN R) (F_X2_greatestRest_E28)) fc (if N = 0 then -1 else nI (N - 1)) = some (pqTp R N) := by
    intro N
    induction N with
    | zero =>
      intro _ fc hfc
      obtain ⟨fc, rfl⟩ : ∃ q, fc = q + 1 := ⟨fc - 1, by omega⟩
      rw [zlp_s1, if_pos rfl]
      simp only [F_X2_greatestRest_L3, show (-1 : Int32) < 0 by decide, ↓reduceIte, F_X2_greatestRest_E28, pqTp]
    | succ N ih =>
      intro hN fc hfc
      obtain ⟨fc, rfl⟩ : ∃ q, fc = q + 1 := ⟨fc - 1, by omega⟩
      have h0 : ¬ nI N < 0 := nI_pos (by omega)
      rw [zlp_s1, if_neg (by omega), Nat.add_sub_cancel]
      simp (disch := omega) only [F_X2_greatestRest_L3, h0, ↓reduceIte, lg_cmp_eq, pq_bitL hR (show N < 64 by omega), pqTp]
      by_cases c : R.testBit N = true
      · simp only [c, ↓reduceIte]
      · simp only [c, ↓reduceIte, Bool.false_eq_true, show ¬ (0 : Int64) = 1 by decide]
        have e : nI N + (-1 : Int32) = if N = 0 then -1 else nI (N - 1) := by
          cases N with
          | zero => decide
          | succ N => rw [pk_m1, if_neg (by omega), Nat.add_sub_cancel]
        rw [e]
        exact ih (by omega) fc (by omega)
  exact key 64 (Nat.le_refl _) fu (by omega)
theorem pq_looks {fu n m : Nat} {b : Nat → Nat} {cl op pu dr s met : Nat → Int32} {inp r0 l0 m0 : Int32} (hR : pqR n b cl op pu dr inp s) (hm : m ≤ 300) (hf : 4096 ≤ fu) : ∃ R, F_X4_looksAtRests_s fu (nI m) r0 l0 m0 s met = some (nI (pqPc R 64), pqLo R, pqTp R 64) ∧ pqRb n b cl op inp m met R := by
  unfold F_X4_looksAtRests_s
  refine zlp_t5 (Q := fun (o : Option (Int32 × Int32 × Int32)) => ∃ R, o = some (nI (pqPc R 64), pqLo R, pqTp R 64) ∧ pqRb n b cl op inp m met R) m (fun (k : Nat) (a1 : Int64) (a2 a3 a4 a5 : Int32) => a2 = nI k ∧ ∃ R, a1 = lN R ∧ pqRb n b cl op inp k met R ∧ a3 = nI (pqPc R 64) ∧ a4 = pqLo R ∧ a5 = pqTp R 64) ?_ (by omega) _ _ _ _ _ ⟨rfl, 0, rfl, ⟨by decide, fun u _ => ⟨fun z => (by rw [Nat.zero_testBit] at z; cases z), fun ⟨k, z, _⟩ => absurd z (Nat.not_lt_zero _)⟩⟩, by decide +kernel, by decide +kernel, by decide +kernel⟩
  rintro rec i hi hrec a1 a2 a3 a4 a5 ⟨h2, R, h1, hRb, h3, h4, h5⟩
  rw [h1, h2, h3, h4, h5]
  clear h1 h2 h3 h4 h5 a1 a2 a3 a4 a5
  rcases Nat.lt_or_ge i m with c | c
  · obtain ⟨u, hu, eu⟩ := pk_andE (met i) (m := (63 : Int32)) 6 (by decide)
    have hu : u < 64 := hu
    obtain ⟨R2, q1, q2⟩ := pqRb_step hRb (fun k _ => rfl)
    simp (disch := omega) only [F_X4_looksAtRests_s_L20, nI_leI, show ¬ m ≤ i by omega, ↓reduceIte, pq_rd, Option.bind_some, F_X4_upOf, eu, pq_isQuiet hR hf, lg_cmp_eq, pq_bitL hRb.1 hu]
    by_cases q : pqU n b cl op inp (met i) = 0
    · rw [if_pos q, eu, pq_setL hRb.1 hu] at q1
      have q3 : R2 = R ||| 2 ^ u := by
        have h1 := congrArg (fun z => z.toBitVec.toNat) q1
        rw [wb_tn (Nat.or_lt_two_pow hRb.1 (Nat.pow_lt_pow_right (by decide) hu)), wb_tn q2.1] at h1
        exact h1.symm
      subst q3
      by_cases z : R.testBit u = true
      · simp only [q, z, ↓reduceIte, pq_10, show ¬ (1 : Int64) = 0 by decide, nI_1]
        rw [pq_orself z] at q2
        exact hrec c _ _ _ _ _ ⟨rfl, R, rfl, q2, rfl, rfl, rfl⟩
      · have zf := Bool.eq_false_iff.mpr z
        have e1 := pqPc_set hu zf
        have e2 := pqLo_set (R := R) hu
        have e3 := pqTp_set (R := R) hu 64 (Nat.le_refl _)
        rw [if_pos hu] at e3
        simp only [q, zf, ↓reduceIte, pq_10, Bool.false_eq_true, F_X4_looksAtRests_s_J110, pq_setL hRb.1 hu, nI_1]
        by_cases l1 : pqLo R = -1
        · by_cases t1 : nI u ≤ pqTp R 64
          · simp only [l1, t1, ↓reduceIte]
            exact hrec c _ _ _ _ _ ⟨rfl, _, rfl, q2, by rw [e1], by rw [e2, if_pos l1], by rw [e3, if_pos t1]⟩
          · simp only [l1, t1, ↓reduceIte]
            exact hrec c _ _ _ _ _ ⟨rfl, _, rfl, q2, by rw [e1], by rw [e2, if_pos l1], by rw [e3, if_neg t1]⟩
        · by_cases l2 : pqLo R ≤ nI u
          · by_cases t1 : nI u ≤ pqTp R 64
            · simp only [l1, l2, t1, ↓reduceIte]
              exact hrec c _ _ _ _ _ ⟨rfl, _, rfl, q2, by rw [e1], by rw [e2, if_neg l1, if_pos l2], by rw [e3, if_pos t1]⟩
            · simp only [l1, l2, t1, ↓reduceIte]
              exact hrec c _ _ _ _ _ ⟨rfl, _, rfl, q2, by rw [e1], by rw [e2, if_neg l1, if_pos l2], by rw [e3, if_neg t1]⟩
          · by_cases t1 : nI u ≤ pqTp R 64
            · simp only [l1, l2, t1, ↓reduceIte]
              exact hrec c _ _ _ _ _ ⟨rfl, _, rfl, q2, by rw [e1], by rw [e2, if_neg l1, if_neg l2], by rw [e3, if_pos t1]⟩
            · simp only [l1, l2, t1, ↓reduceIte]
              exact hrec c _ _ _ _ _ ⟨rfl, _, rfl, q2, by rw [e1], by rw [e2, if_neg l1, if_neg l2], by rw [e3, if_neg t1]⟩
    · rw [if_neg q] at q1
      have q3 : R2 = R := by
        have h1 := congrArg (fun z => z.toBitVec.toNat) q1
        rw [wb_tn hRb.1, wb_tn q2.1] at h1
        exact h1.symm
      subst q3
      simp only [q, ↓reduceIte, nI_1]
      exact hrec c _ _ _ _ _ ⟨rfl, _, rfl, q2, rfl, rfl, rfl⟩
  · obtain rfl : i = m := by omega
    simp (disch := omega) only [F_X4_looksAtRests_s_L20, nI_leI, Nat.le_refl, ↓reduceIte, F_X4_looksAtRests_s_E141]
    exact ⟨R, rfl, hRb⟩
/-! all ways -/
theorem pq_clear {fu : Nat} {T : Nat → Int32} {K : Int32 → (Nat → Int32) → Option (Int32 × Int32 × Int32 × Int32 × Int32 × Int32 × Int32 × Int32 × (Nat → Int32) × (Nat → Int32) × (Nat → Int32) × (Nat → Int32) × (Nat → Int32))} (hf : 4096 ≤ fu) : ∃ T2, (∀ p, p < 1024 → T2 p = 0) ∧ zlp2 (F_X4_races_s_L2 K) fu 0 T = K (nI 1024) T2 := by
  refine zlp_t2 (Q := fun (o : Option (Int32 × Int32 × Int32 × Int32 × Int32 × Int32 × Int32 × Int32 × (Nat → Int32) × (Nat → Int32) × (Nat → Int32) × (Nat → Int32) × (Nat → Int32))) => ∃ T2 : Nat → Int32, (∀ p, p < 1024 → T2 p = 0) ∧ o = K (nI 1024) T2) 1024 (fun (i : Nat) (a1 : Int32) (a2 : Nat → Int32) => a1 = nI i ∧ ∀ p, p < i → a2 p = 0) ?_ (by omega) _ _ ⟨rfl, fun p z => absurd z (Nat.not_lt_zero _)⟩
  rintro rec i hi hrec a1 a2 ⟨rfl, hz⟩
  rcases Nat.lt_or_ge i 1024 with c | c
  · have h1 : ¬ (1024 : Int32) ≤ nI i := nI_ge (b := 1024) c (by omega)
    simp (disch := omega) only [F_X4_races_s_L2, h1, ↓reduceIte, pq_wr, Option.bind_some, nI_1]
    refine hrec c _ _ ⟨rfl, fun p hp => ?_⟩
    by_cases z : p = i
    · rw [z, pk_us]
    · rw [pk_un z]
      exact hz p (by omega)
  · obtain rfl : i = 1024 := by omega
    simp only [F_X4_races_s_L2, show (1024 : Int32) ≤ nI 1024 by decide, ↓reduceIte]
    exact ⟨a2, hz, rfl⟩
theorem pq_race {fu n : Nat} {b : Nat → Nat} {br cl op pu dr s : Nat → Int32} {inp mot : Int32} (hb : pqB n b br) (hR : pqR n b cl op pu dr inp s) (hM : pqM n mot s) (hz : pqZ n mot) (hf : 4096 ≤ fu) (rests0 : Int64) (st0 told0 wh0 : Int32) (met0 slots0 outs0 out0 arr0 freed0 cal0 : Nat → Int32) (c0 d0 ms0 it0 re0 le0 mo0 iw0 : Int32) (metR0 table0 ways0 wof0 into0 : Nat → Int32) : ∃ (rr : Int64) (st told wh : Int32) (a1 a2 a3 a4 a5 a6 a7 : Nat → Int32) (c1 d1 ms re le mo iw : Int32) (t1 t2 t3 t4 t5 : Nat → Int32), F_X2_lookFrom fu rests0 st0 told0 wh0 met0 slots0 outs0 out0 arr0 freed0 cal0 (nI n) inp mot br cl dr op pu = some (rr, st, told, wh, a1, a2, a3, a4, a5, a6, a7) ∧ F_X4_races_s fu c0 d0 ms0 it0 re0 le0 mo0 iw0 s metR0 table0 ways0 wof0 into0 = some (c1, d1, ms, told, re, le, mo, iw, t1, t2, t3, t4, t5) ∧ (told = 0 ∨ told = 1 ∧ ms = st ∧ iw = wh ∧ (wh = 0 ∨ wh = 1) ∧ F_X2_unlikeRests fu rr = some re ∧ F_X2_leastRest fu rr = some le ∧ F_X2_greatestRest fu rr = some mo ∧ ∃ k, k ≤ 64 ∧ re = nI k) := by
  obtain ⟨S0, eS0, hS0⟩ := pq_fillA (fu := fu) (N := 512) (a := slots0) (x := 0) (by omega) hf
  obtain ⟨C0, eC0, hC0⟩ := pq_fillA (fu := fu) (N := 64) (a := cal0) (x := -1) (by omega) hf
  have H0 : pqHt 512 pqH1 S0 met0 0 := pqHt_0 (by omega) (by omega) hS0
  obtain ⟨e, he, e1, e2, e3⟩ := pq_slotOf (fu := fu) H0 (by omega) hf mot
  have e4 : S0 ((pqH1 mot + e) % 512) = 0 := hS0 _ (Nat.mod_lt _ (by omega))
  obtain ⟨T0, hT0, eT0⟩ := pq_clear (fu := fu) (T := table0) (K := F_X4_races_s_E22 fu c0 d0 into0 iw0 le0 metR0 mo0 re0 s ways0 wof0) hf
  have G0 : pqHt 1024 pqH2 T0 metR0 0 := pqHt_0 (by omega) (by omega) hT0
  obtain ⟨d, hd, d1, d2⟩ := pq_metAt (fu := fu) (waysOf := wof0) (into := into0) G0 (by omega) hf mot
  have d3 : F_X4_metAt fu (nI 0) metR0 T0 wof0 into0 mot = some (nI 0, nI (0 + 1), upd metR0 0 mot, upd T0 ((pqH2 mot + d) % 1024) (nI (0 + 1)), upd wof0 0 0, upd into0 0 0) := by
    rcases d2 with ⟨_, _, d3⟩ | ⟨k, hk, _⟩
    · exact d3
    · exact absurd hk (Nat.not_lt_zero _)
  have hTo : pqTo (fun _ c => pqZ n c) 0 (nI 1, 1, upd met0 0 mot, upd S0 ((pqH1 mot + e) % 512) (nI (0 + 1)), outs0, out0) (nI 1, upd metR0 0 mot, upd T0 ((pqH2 mot + d) % 1024) (nI (0 + 1)), ways0, upd wof0 0 0, upd into0 0 0) := by
    refine ⟨1, fun _ => 0, fun _ _ => 0, rfl, rfl, rfl, by omega, by omega, pqHt_put H0 (by omega) he e4 e2 (fun k z => absurd z (Nat.not_lt_zero _)), pqHt_put G0 (by omega) hd (hT0 _ (Nat.mod_lt _ (by omega))) d1 (fun k z => absurd z (Nat.not_lt_zero _)), ⟨fun k hk => ?_, fun g z => absurd z (Nat.not_lt_zero _), fun g hg => ?_, fun _ _ => rfl, fun _ => Nat.zero_le _, fun g z => absurd z (Nat.not_lt_zero _), fun t ht => ?_, fun g z => absurd z (Nat.not_lt_zero _)⟩, fun k hk => ?_⟩
    · obtain rfl : k = 0 := by omega
      show upd met0 0 mot 0 = upd metR0 0 mot 0
      rw [pk_us, pk_us]
    · obtain rfl : g = 0 := by omega
      show upd wof0 0 0 0 = nI 0
      rw [pk_us, nI_0]
    · obtain rfl : t = 0 := by omega
      show upd into0 0 0 0 = _
      rw [pk_us, pqEc_out (fun g _ k hk => absurd hk (Nat.not_lt_zero _))]
      rfl
    · obtain rfl : k = 0 := by omega
      show pqZ n (upd met0 0 mot 0)
      rw [pk_us]
      exact hz
  obtain ⟨y2, w2, R2, cal2, c1, d4, v5, v6, g1, g2, g3⟩ := pq_loop (fu := fu) (arr := arr0) (freed := freed0) (iw := iw0) (lr := le0) (mr := mo0) (re := re0) hb hR hf 300 0 (by omega) _ _ 0 C0 c0 d0 hTo ⟨by decide, fun u _ => ⟨fun z => (by rw [Nat.zero_testBit] at z; cases z), fun ⟨k, z, _⟩ => absurd z (Nat.not_lt_zero _)⟩⟩ (fun u hu => Or.inl (hC0 u hu)) fu fu (by omega) (by omega)
  have hcl : F_X2_lookFrom fu rests0 st0 told0 wh0 met0 slots0 outs0 out0 arr0 freed0 cal0 (nI n) inp mot br cl dr op pu = F_X2_lookFrom_E84 fu arr0 freed0 v5 (lN R2) y2.1 y2.2.1 y2.2.2.1 y2.2.2.2.1 y2.2.2.2.2.1 y2.2.2.2.2.2 cal2 := by
    rw [← g1]
    unfold F_X2_lookFrom
    rw [eS0, Option.bind_some, eC0, Option.bind_some, e1, Option.bind_some]
    have hmeet : F_X2_meet fu (0 : Int32) (1 : Int32) met0 S0 mot (nI ((pqH1 mot + e) % 512)) = some (1, nI 1, 1, upd met0 0 mot, upd S0 ((pqH1 mot + e) % 512) (nI (0 + 1))) := by
      have hP : (pqH1 mot + e) % 512 < 512 := Nat.mod_lt _ (by omega)
      unfold F_X2_meet
      rw [if_pos (by decide), pq_wr0 (by omega) (by omega), Option.bind_some, pq_wr hP (by omega), Option.bind_some]
      rfl
    rw [hmeet, Option.bind_some]
    first | done | rfl
  have hrf : F_X4_races_s fu c0 d0 ms0 it0 re0 le0 mo0 iw0 s metR0 table0 ways0 wof0 into0 = F_X4_races_s_E68 fu iw0 le0 mo0 re0 s v6 c1 d4 w2.1 w2.2.1 w2.2.2.1 w2.2.2.2.1 w2.2.2.2.2.1 w2.2.2.2.2.2 := by
    rw [← g2]
    unfold F_X4_races_s
    rw [eT0]
    unfold F_X4_races_s_E22
    rw [pq_codeOf hR.1 hR.2.1 hM hz hf, Option.bind_some]
    have d5 : F_X4_metAt fu (0 : Int32) metR0 T0 wof0 into0 mot = some (nI 0, nI (0 + 1), upd metR0 0 mot, upd T0 ((pqH2 mot + d) % 1024) (nI (0 + 1)), upd wof0 0 0, upd into0 0 0) := d3
    rw [d5, Option.bind_some]
    first | done | rfl
  rw [hcl, hrf]
  rcases g3 with ⟨m, k1, k2, k3⟩ | ⟨q1, q2⟩
  · obtain ⟨m2, o, tg, l1, l2, l3, hS⟩ := k2
    obtain rfl : m2 = m := (nI_eq (by have := hS.1; omega) (by have := hS.1; have := hS.2.1; omega)).mp (l1.symm.trans k1)
    have hm := hS.1
    obtain ⟨v, A2, FR2, T2, I2, w1, w3, w4⟩ := pq_wheel (fu := fu) (arr := arr0) (freed := freed0) hS hf
    obtain ⟨R, r1, r2⟩ := pq_looks (fu := fu) (r0 := re0) (l0 := le0) (m0 := mo0) (met := w2.2.1) hR hm hf
    have hRR : R = R2 := pqRb_one r2 (pqRb_cong k3 (fun k hk => (hS.2.2.2.2.1.1 k hk).symm))
    subst hRR
    have hzb : zbo v = some v := by
      unfold zbo
      rw [if_pos w4]
    refine ⟨lN R, nI m2, 1, v, y2.2.2.1, y2.2.2.2.1, y2.2.2.2.2.1, y2.2.2.2.2.2, A2, FR2, cal2, c1, d4, nI m2, nI (pqPc R 64), pqLo R, pqTp R 64, v, w2.2.1, T2, w2.2.2.2.1, w2.2.2.2.2.1, I2, ?_, ?_, Or.inr ⟨rfl, rfl, rfl, w4, ?_, pq_least r2.1 hf, pq_greatest r2.1 hf, pqPc R 64, fb_ct_le _ _, rfl⟩⟩
    · unfold F_X2_lookFrom_E84
      rw [l1, l2, if_neg pq_10, w1, Option.bind_some]
      rcases w4 with rfl | rfl
      · rfl
      · rfl
    · unfold F_X4_races_s_E68
      rw [l3, if_neg (pq_300n hm)]
      unfold F_X4_races_s_J84
      rw [show zbo (1 : Int32) = some 1 from rfl, Option.bind_some, if_neg pq_10, r1, Option.bind_some, w3, Option.bind_some, hzb, Option.bind_some]
    · unfold F_X2_unlikeRests
      rw [pq_lbc r2.1, Option.bind_some]
  · refine ⟨lN R2, y2.1, 0, 0, y2.2.2.1, y2.2.2.2.1, y2.2.2.2.2.1, y2.2.2.2.2.2, arr0, freed0, cal2, c1, d4, nI 301, re0, le0, mo0, iw0, w2.2.1, w2.2.2.1, w2.2.2.2.1, w2.2.2.2.2.1, w2.2.2.2.2.2, ?_, ?_, Or.inl rfl⟩
    · unfold F_X2_lookFrom_E84
      rw [q1, if_pos rfl]
    · unfold F_X4_races_s_E68
      rw [q2, if_pos (by decide)]
      unfold F_X4_races_s_J84
      rw [show zbo (0 : Int32) = some 0 from rfl, Option.bind_some, if_pos rfl]
