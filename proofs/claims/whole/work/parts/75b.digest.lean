abbrev pqMT : Type := Int32 × Int32 × Int32 × Int32 × Int32 × Int32 × Int32 × Int32 × Int32 × Int32 × Int32 × Int32 × Int64 × (Nat → Int32) × (Nat → Int32) × (Nat → Int32) × (Nat → Int32) × (Nat → Int32) × (Nat → Int32)
def pqLi (k : Nat) : Int32 := if k < 4 then nI (k / 2) else if k < 6 then 6 else 15
theorem pqLi_16 {k : Nat} (hk : k < 8) : ∃ q, q < 16 ∧ pqLi k = nI q := by
  unfold pqLi
  by_cases c4 : k < 4
  · rw [if_pos c4]
    exact ⟨k / 2, by omega, rfl⟩
  · rw [if_neg c4]
    by_cases c6 : k < 6
    · rw [if_pos c6]
      exact ⟨6, by omega, rfl⟩
    · rw [if_neg c6]
      exact ⟨15, by omega, rfl⟩
def pqLv (fu : Nat) (s : Nat → Int32) (k : Nat) : Int32 := ((F_X4_leadsTo fu 0 0 0 s s (pqLi k) (nI (k % 2))).getD (0, 0, 0, 0, s)).1
theorem pq_par (k : Nat) : nI (k % 2) = 0 ∨ nI (k % 2) = 1 := by
  rcases Nat.mod_two_eq_zero_or_one k with e | e <;> rw [e]
  · exact Or.inl rfl
  · exact Or.inr rfl
theorem pq_lead1 {fu n k : Nat} {b : Nat → Nat} {br cl op pu dr cg : Nat → Int32} {inp mot tk ch : Int32} {s : Nat → Int32} (h : pqLad n b br cl op pu dr cg inp mot tk ch s) (hk : k < 8) (hf : 4096 ≤ fu) (r9 i9 m9 t9 h9 : Int32) (b9 cl9 op9 pu9 dr9 cg9 : Nat → Int32) : ∃ q1 q2 q3 q4 q5 g1 g2 g3 g4 g5 g6, F_X3_leadAnswer fu (nI n) inp mot tk ch br cl op pu dr cg r9 i9 m9 t9 h9 b9 cl9 op9 pu9 dr9 cg9 (pqLi k) (nI (k % 2)) = some (pqLv fu s k, q1, q2, q3, q4, q5, g1, g2, g3, g4, g5, g6) := by
  obtain ⟨v, q1, q2, q3, q4, q5, g1, g2, g3, g4, g5, g6, c1, d1, e1, th2, k1, k2⟩ := pq_lead (fu := fu) (c0 := 0) (d0 := 0) (e0 := 0) (th := s) h (pqLi_16 hk) (pq_par k) hf r9 i9 m9 t9 h9 b9 cl9 op9 pu9 dr9 cg9
  refine ⟨q1, q2, q3, q4, q5, g1, g2, g3, g4, g5, g6, ?_⟩
  have e : pqLv fu s k = v := by
    unfold pqLv
    rw [k2]
    rfl
  rw [e]
  exact k1
theorem pq_lead2 {fu n k : Nat} {b : Nat → Nat} {br cl op pu dr cg : Nat → Int32} {inp mot tk ch : Int32} {s : Nat → Int32} (h : pqLad n b br cl op pu dr cg inp mot tk ch s) (hk : k < 8) (hf : 4096 ≤ fu) (c0 d0 e0 : Int32) (th : Nat → Int32) : ∃ c1 d1 e1 th2, F_X4_leadsTo fu c0 d0 e0 s th (pqLi k) (nI (k % 2)) = some (pqLv fu s k, c1, d1, e1, th2) := by
  obtain ⟨v, q1, q2, q3, q4, q5, g1, g2, g3, g4, g5, g6, c1, d1, e1, th2, k1, k2⟩ := pq_lead (fu := fu) (c0 := c0) (d0 := d0) (e0 := e0) (th := th) h (pqLi_16 hk) (pq_par k) hf 0 0 0 0 0 br br br br br br
  obtain ⟨w1, w2, w3, w4, w5, x1, x2, x3, x4, x5, x6, k3⟩ := pq_lead1 (fu := fu) h hk hf 0 0 0 0 0 br br br br br br
  rw [k1] at k3
  have e : v = pqLv fu s k := congrArg Prod.fst (Option.some.inj k3)
  rw [← e]
  exact ⟨c1, d1, e1, th2, k2⟩
theorem pq_zHIn : ∀ i, i < 4 → ∀ j, j < 2 → zHIn i = pqLi (2 * i + j) := by decide
theorem pq_hLeads1 {fu n : Nat} {b : Nat → Nat} {br cl op pu dr cg : Nat → Int32} {inp mot tk ch : Int32} {s : Nat → Int32} (h : pqLad n b br cl op pu dr cg inp mot tk ch s) (hf : 4096 ≤ fu) (h0 : Int64) (r9 i9 m9 t9 h9 : Int32) (b9 cl9 op9 pu9 dr9 cg9 : Nat → Int32) : ∃ q1 q2 q3 q4 q5 g1 g2 g3 g4 g5 g6, F_X3_hashOfLeads fu (nI n) inp mot tk ch br cl op pu dr cg r9 i9 m9 t9 h9 b9 cl9 op9 pu9 dr9 cg9 h0 = some (pqHh (pqLv fu s) h0 8, q1, q2, q3, q4, q5, g1, g2, g3, g4, g5, g6) := by
  unfold F_X3_hashOfLeads
  refine zlp_t13 (Q := fun o => ∃ q1 q2 q3 q4 q5 g1 g2 g3 g4 g5 g6, o = some (pqHh (pqLv fu s) h0 8, q1, q2, q3, q4, q5, g1, g2, g3, g4, g5, g6)) 4 (fun i hh c _ _ _ _ _ (_ _ _ _ _ _ : Nat → Int32) => hh = pqHh (pqLv fu s) h0 (2 * i) ∧ c = nI i) ?_ (by omega) _ _ _ _ _ _ _ _ _ _ _ _ _ ⟨rfl, rfl⟩
  rintro rec i hi hrec hh c x1 x2 x3 x4 x5 y1 y2 y3 y4 y5 y6 ⟨rfl, rfl⟩
  rcases Nat.lt_or_ge i 4 with ci | ci
  · rw [F_X3_hashOfLeads_L5, if_neg (show ¬ (4 : Int32) ≤ nI i from nI_ge (b := 4) ci (by omega))]
    refine zlp_t13 (Q := fun o => ∃ q1 q2 q3 q4 q5 g1 g2 g3 g4 g5 g6, o = some (pqHh (pqLv fu s) h0 8, q1, q2, q3, q4, q5, g1, g2, g3, g4, g5, g6)) 2 (fun j hh c _ _ _ _ _ (_ _ _ _ _ _ : Nat → Int32) => hh = pqHh (pqLv fu s) h0 (2 * i + j) ∧ c = nI j) ?_ (by omega) _ _ _ _ _ _ _ _ _ _ _ _ _ ⟨rfl, rfl⟩
    rintro rec2 j hj hrec2 hh c x1 x2 x3 x4 x5 y1 y2 y3 y4 y5 y6 ⟨rfl, rfl⟩
    rcases Nat.lt_or_ge j 2 with cj | cj
    · obtain ⟨q1, q2, q3, q4, q5, g1, g2, g3, g4, g5, g6, e⟩ := pq_lead1 (fu := fu) (k := 2 * i + j) h (by omega) hf x1 x2 x3 x4 x5 y1 y2 y3 y4 y5 y6
      rw [show (2 * i + j) % 2 = j by omega] at e
      rw [F_X3_hashOfLeads_L17, if_neg (show ¬ (2 : Int32) ≤ nI j from nI_ge (b := 2) cj (by omega)), pq_rd (by omega) (by omega), Option.bind_some, pq_zHIn i ci j cj, e, Option.bind_some]
      refine hrec2 cj _ _ _ _ _ _ _ _ _ _ _ _ _ ⟨rfl, nI_1 j⟩
    · obtain rfl : j = 2 := by omega
      rw [F_X3_hashOfLeads_L17, if_pos (show (2 : Int32) ≤ nI 2 by decide), F_X3_hashOfLeads_E49]
      exact hrec ci _ _ _ _ _ _ _ _ _ _ _ _ _ ⟨by rw [show 2 * (i + 1) = 2 * i + 2 by omega], nI_1 i⟩
  · obtain rfl : i = 4 := by omega
    rw [F_X3_hashOfLeads_L5, if_pos (show (4 : Int32) ≤ nI 4 by decide), F_X3_hashOfLeads_E55]
    exact ⟨_, _, _, _, _, _, _, _, _, _, _, rfl⟩
theorem pq_hLeads2 {fu n : Nat} {b : Nat → Nat} {br cl op pu dr cg : Nat → Int32} {inp mot tk ch : Int32} {s : Nat → Int32} (h : pqLad n b br cl op pu dr cg inp mot tk ch s) (hf : 4096 ≤ fu) (h0 : Int64) (kk) {Q : Option pqMT → Prop} (hk : ∀ c d e th, Q (kk (nI 8) c d e (pqHh (pqLv fu s) h0 8) th)) (c0 d0 e0 : Int32) (th0 : Nat → Int32) : Q (zlp6 (F_X4_mixesWays_L2 fu s kk) fu (0 : Int32) c0 d0 e0 h0 th0) := by
  refine zlp_t6 (Q := Q) 8 (fun i v _ _ _ hh (_ : Nat → Int32) => v = nI i ∧ hh = pqHh (pqLv fu s) h0 i) ?_ (by omega) _ _ _ _ _ _ ⟨rfl, rfl⟩
  rintro rec i hi hrec v c d e hh th ⟨rfl, rfl⟩
  rcases Nat.lt_or_ge i 8 with ci | ci
  · obtain ⟨c1, d1, e1, th2, el⟩ := pq_lead2 (fu := fu) h ci hf c d e th
    have e2 : nI i / (2 : Int32) = nI (i / 2) := pk_div (d := 2) (by omega) (by omega) (by omega)
    have e3 : nI i - nI i / (2 : Int32) * (2 : Int32) = nI (i % 2) := by
      rw [e2, show nI (i / 2) * (2 : Int32) = nI (i / 2 * 2) from pk_mul _ 2, pk_sub (by omega), show i - i / 2 * 2 = i % 2 by omega]
    have h4 : (4 : Int32) ≤ nI i ↔ 4 ≤ i := nI_leI (a := 4) (by omega) (by omega)
    have h6 : (6 : Int32) ≤ nI i ↔ 6 ≤ i := nI_leI (a := 6) (by omega) (by omega)
    have hj : F_X4_mixesWays_J34 fu rec s (nI i) c d e (pqHh (pqLv fu s) h0 i) th (pqLi i) = rec (nI i + 1) c1 d1 e1 (pqHh (pqLv fu s) h0 (i + 1)) th2 := by
      rw [F_X4_mixesWays_J34, if_neg (by decide), e3, el]
      rfl
    have hb : F_X4_mixesWays_L2 fu s kk rec (nI i) c d e (pqHh (pqLv fu s) h0 i) th = F_X4_mixesWays_J34 fu rec s (nI i) c d e (pqHh (pqLv fu s) h0 i) th (pqLi i) := by
      rw [F_X4_mixesWays_L2, if_neg (show ¬ (8 : Int32) ≤ nI i from nI_ge (b := 8) ci (by omega))]
      unfold pqLi
      by_cases c4 : 4 ≤ i
      · rw [if_pos (h4.mpr c4), if_neg (show ¬ i < 4 by omega)]
        by_cases c6 : 6 ≤ i
        · rw [if_pos (h6.mpr c6), if_neg (show ¬ i < 6 by omega)]
        · rw [if_neg (fun z => c6 (h6.mp z)), if_pos (show i < 6 by omega)]
      · rw [if_neg (fun z => c4 (h4.mp z)), if_pos (show i < 4 by omega), if_neg (show ¬ (2 : Int32) = 0 by decide), e2]
    rw [hb, hj, nI_1]
    exact hrec ci _ _ _ _ _ _ ⟨rfl, rfl⟩
  · obtain rfl : i = 8 := by omega
    rw [F_X4_mixesWays_L2, if_pos (show (8 : Int32) ≤ nI 8 by decide)]
    exact hk _ _ _ _
