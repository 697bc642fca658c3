/-! Questions: class and reference side by side. -/
theorem pq_suc {a b p : Int32} (h : a.toInt + 1 = b.toInt) : p < b ↔ ¬ a < p := by
  rw [Int32.lt_iff_toInt_lt, Int32.lt_iff_toInt_lt]
  omega
theorem pq_0n1 : ¬ (1 : Int32) = 0 := by decide
theorem pq_relay {fu n : Nat} {b : Nat → Nat} {br cl op pu dr cg : Nat → Int32} {inp mot tk ch th p0 p1 : Int32} {s : Nat → Int32} (h : pqLad n b br cl op pu dr cg inp mot tk ch s) (hf : 4096 ≤ fu) : (∃ e e2 : Nat, (e = 3 ∧ e2 = 1 ∨ e = 1 ∧ e2 = 2) ∧ F_X3_relay fu (nI n) inp mot br cl op pu dr cg p0 p1 = some (e, 0) ∧ F_X4_relay fu th s p0 p1 = some (0, nI e2)) ∨ ∃ v, F_X3_relay fu (nI n) inp mot br cl op pu dr cg p0 p1 = some (0, v) ∧ F_X4_relay fu th s p0 p1 = some (v, 0) := by
  have h9 : p1 < (9 : Int32) ↔ ¬ (8 : Int32) < p1 := pq_suc (by decide)
  unfold F_X3_relay F_X4_relay
  rcases pq_rel (fu := fu) (fu2 := fu) h.1.1 h.2.1.2.1 p0 with ⟨a1, a2⟩ | ⟨r, hr, rfl, a1, a2⟩
  · refine Or.inl ⟨3, 1, Or.inl ⟨rfl, rfl⟩, ?_, ?_⟩
    · rw [a1, Option.bind_some, if_pos rfl]
    · rw [a2, Option.bind_some, if_pos rfl, F_X4_relay_J28, pq_ref1, Option.bind_some, if_neg pq_0n1]
      rfl
  · rw [a1, a2, Option.bind_some, Option.bind_some, if_neg pq_0n1, if_neg pq_0n1, pq_in2, Option.bind_some]
    by_cases c1 : p1 < 0
    · refine Or.inl ⟨1, 2, Or.inr ⟨rfl, rfl⟩, ?_, ?_⟩
      · rw [if_pos c1]
      · rw [if_pos c1, if_pos rfl, F_X4_relay_J28, pq_ref2, Option.bind_some, if_neg pq_0n1]
        rfl
    · by_cases c2 : (8 : Int32) < p1
      · refine Or.inl ⟨1, 2, Or.inr ⟨rfl, rfl⟩, ?_, ?_⟩
        · rw [if_neg c1, if_neg (fun z => h9.mp z c2)]
        · rw [if_neg c1, if_pos c2, if_pos rfl, F_X4_relay_J28, pq_ref2, Option.bind_some, if_neg pq_0n1]
          rfl
      · obtain ⟨v, e1, e2⟩ := pq_prop (fu := fu) h hr hf p1
        refine Or.inr ⟨v, ?_, ?_⟩
        · rw [if_neg c1, if_pos (h9.mpr c2), e1]
          rfl
        · rw [if_neg c1, if_neg c2, if_neg pq_0n1, F_X4_relay_J28, pq_ref0, Option.bind_some, if_pos rfl, e2]
          rfl
theorem pq_contacts {fu n : Nat} {b : Nat → Nat} {br cl op pu dr cg : Nat → Int32} {inp mot tk ch th p0 p1 p2 : Int32} {s : Nat → Int32} (h : pqLad n b br cl op pu dr cg inp mot tk ch s) (hf : 4096 ≤ fu) : (∃ e e2 : Nat, (e = 3 ∧ e2 = 1 ∨ e = 1 ∧ e2 = 2) ∧ F_X3_contacts fu (nI n) inp mot br cl op p0 p1 p2 = some (e, 0) ∧ F_X4_contacts fu th s p0 p1 p2 = some (0, nI e2)) ∨ ∃ v, F_X3_contacts fu (nI n) inp mot br cl op p0 p1 p2 = some (0, v) ∧ F_X4_contacts fu th s p0 p1 p2 = some (v, 0) := by
  have h4 : p2 < (4 : Int32) ↔ ¬ (3 : Int32) < p2 := pq_suc (by decide)
  have hn6 := h.1.1
  unfold F_X3_contacts F_X4_contacts
  rcases pq_rel (fu := fu) (fu2 := fu) h.1.1 h.2.1.2.1 p0 with ⟨a1, a2⟩ | ⟨r, hr, rfl, a1, a2⟩
  · refine Or.inl ⟨3, 1, Or.inl ⟨rfl, rfl⟩, ?_, ?_⟩
    · rw [a1, Option.bind_some, if_pos rfl]
    · rw [a2, Option.bind_some, if_pos rfl, F_X4_contacts_J32, if_pos rfl, F_X4_contacts_J58, pq_ref1, Option.bind_some, if_neg pq_0n1]
      rfl
  · have hb4 := (h.2.1.2.2.2 r hr).2.2.2.1
    have hbr := h.1.2 r hr
    have hp : (nI (b r) - (1 : Int32) < p1) ↔ (nI (b r) ≤ p1) := by
      rw [Int32.lt_iff_toInt_lt, Int32.le_iff_toInt_le, show (1 : Int32) = nI 1 from rfl, pk_sub_toInt (by omega) (by omega), nI_toInt (by omega)]
      omega
    rw [a1, a2, Option.bind_some, Option.bind_some, if_neg pq_0n1, if_neg pq_0n1, pq_of4 (by omega), hb4, Option.bind_some, pq_in2, Option.bind_some, pq_rd (by omega) (by omega), hbr.1]
    by_cases c1 : p1 < 0
    · refine Or.inl ⟨3, 1, Or.inl ⟨rfl, rfl⟩, ?_, ?_⟩
      · rw [if_pos c1]
      · rw [if_pos c1, if_pos rfl, F_X4_contacts_J32, if_pos rfl, F_X4_contacts_J58, pq_ref1, Option.bind_some, if_neg pq_0n1]
        rfl
    · by_cases c2 : nI (b r) ≤ p1
      · refine Or.inl ⟨3, 1, Or.inl ⟨rfl, rfl⟩, ?_, ?_⟩
        · rw [if_neg c1, Option.bind_some, if_neg (Int32.not_lt.mpr c2)]
        · rw [if_neg c1, if_pos (hp.mpr c2), if_pos rfl, F_X4_contacts_J32, if_pos rfl, F_X4_contacts_J58, pq_ref1, Option.bind_some, if_neg pq_0n1]
          rfl
      · rw [if_neg c1, if_neg c1, if_neg (fun z => c2 (hp.mp z)), if_neg pq_0n1, F_X4_contacts_J32, if_neg pq_0n1, Option.bind_some, if_pos (Int32.not_le.mp c2), pq_in2, Option.bind_some]
        by_cases d1 : p2 < 0
        · refine Or.inl ⟨1, 2, Or.inr ⟨rfl, rfl⟩, ?_, ?_⟩
          · rw [if_pos d1]
          · rw [if_pos d1, if_pos rfl, F_X4_contacts_J58, pq_ref2, Option.bind_some, if_neg pq_0n1]
            rfl
        · by_cases d2 : (3 : Int32) < p2
          · refine Or.inl ⟨1, 2, Or.inr ⟨rfl, rfl⟩, ?_, ?_⟩
            · rw [if_neg d1, if_neg (fun z => h4.mp z d2)]
            · rw [if_neg d1, if_pos d2, if_pos rfl, F_X4_contacts_J58, pq_ref2, Option.bind_some, if_neg pq_0n1]
              rfl
          · rcases pk_ix p1 (n := b r) (by omega) with hj | hj | ⟨j, hj, rfl⟩
            · exact absurd hj c1
            · exact absurd hj c2
            · obtain ⟨v, e1, e2⟩ := pq_cont (fu := fu) h hr hj hf p2
              refine Or.inr ⟨v, ?_, ?_⟩
              · rw [if_neg d1, if_pos (h4.mpr d2), e1]
                rfl
              · rw [if_neg d1, if_neg d2, if_neg pq_0n1, F_X4_contacts_J58, pq_ref0, Option.bind_some, if_pos rfl, e2]
                rfl
theorem pq_count {fu n : Nat} {b : Nat → Nat} {br cl op pu dr cg : Nat → Int32} {inp mot tk ch th p0 sc : Int32} {s : Nat → Int32} (h : pqLad n b br cl op pu dr cg inp mot tk ch s) (hf : 4096 ≤ fu) : (F_X3_count fu sc (nI n) inp mot tk ch br cl op p0 = some (1, 0) ∧ F_X4_count fu th sc s p0 = some (0, 1)) ∨ ∃ v, F_X3_count fu sc (nI n) inp mot tk ch br cl op p0 = some (0, v) ∧ F_X4_count fu th sc s p0 = some (v, 0) := by
  have h9 : p0 < (10 : Int32) ↔ ¬ (9 : Int32) < p0 := pq_suc (by decide)
  unfold F_X3_count F_X4_count
  rw [pq_in2, Option.bind_some]
  by_cases c1 : p0 < 0
  · left
    rw [if_pos c1, if_pos c1, if_pos rfl, F_X4_count_J16, pq_ref1, Option.bind_some, if_neg pq_0n1]
    exact ⟨rfl, rfl⟩
  · by_cases c2 : (9 : Int32) < p0
    · left
      rw [if_neg c1, if_neg c1, if_pos c2, if_pos rfl, if_neg (fun z => h9.mp z c2), F_X4_count_J16, pq_ref1, Option.bind_some, if_neg pq_0n1]
      exact ⟨rfl, rfl⟩
    · obtain ⟨v, e1, e2⟩ := pq_num (fu := fu) (sv := sc) h hf p0
      refine Or.inr ⟨v, ?_, ?_⟩
      · rw [if_neg c1, if_pos (h9.mpr c2), e1]
        rfl
      · rw [if_neg c1, if_neg c2, if_neg pq_0n1, F_X4_count_J16, pq_ref0, Option.bind_some, if_pos rfl, e2]
        rfl
theorem pq_idles {fu n : Nat} {b : Nat → Nat} {br cl op pu dr cg : Nat → Int32} {inp mot tk ch th p0 : Int32} {s : Nat → Int32} (h : pqLad n b br cl op pu dr cg inp mot tk ch s) (hf : 4096 ≤ fu) : (F_X3_idle fu (nI n) br cl op p0 = some (3, 0) ∧ F_X4_idle fu th s p0 = some (0, 1)) ∨ ∃ v, F_X3_idle fu (nI n) br cl op p0 = some (0, v) ∧ F_X4_idle fu th s p0 = some (v, 0) := by
  unfold F_X3_idle F_X4_idle
  rcases pq_rel (fu := fu) (fu2 := fu) h.1.1 h.2.1.2.1 p0 with ⟨a1, a2⟩ | ⟨r, hr, rfl, a1, a2⟩
  · left
    rw [a1, a2, Option.bind_some, Option.bind_some, if_pos rfl, if_pos rfl, F_X4_idle_J14, pq_ref1, Option.bind_some, if_neg pq_0n1]
    exact ⟨rfl, rfl⟩
  · obtain ⟨v, e1, e2⟩ := pq_idle (fu := fu) h hr hf
    refine Or.inr ⟨v, ?_, ?_⟩
    · rw [a1, Option.bind_some, if_neg pq_0n1, e1]
      rfl
    · rw [a2, Option.bind_some, if_neg pq_0n1, F_X4_idle_J14, pq_ref0, Option.bind_some, if_pos rfl, e2]
      rfl
theorem pq_leads {fu n : Nat} {b : Nat → Nat} {br cl op pu dr cg : Nat → Int32} {inp mot tk ch thr p0 p1 c0 d0 e0 : Int32} {s th : Nat → Int32} (h : pqLad n b br cl op pu dr cg inp mot tk ch s) (hf : 4096 ≤ fu) (r9 i9 m9 t9 h9 : Int32) (b9 cl9 op9 pu9 dr9 cg9 : Nat → Int32) : (F_X3_leads fu (nI n) inp mot tk ch br cl op pu dr cg r9 i9 m9 t9 h9 b9 cl9 op9 pu9 dr9 cg9 p0 p1 = some (1, 0, r9, i9, m9, t9, h9, b9, cl9, op9, pu9, dr9, cg9) ∧ F_X4_leads fu thr c0 d0 e0 s th p0 p1 = some (0, 1, c0, d0, e0, th)) ∨ ∃ v q1 q2 q3 q4 q5 g1 g2 g3 g4 g5 g6 c1 d1 e1 th2, F_X3_leads fu (nI n) inp mot tk ch br cl op pu dr cg r9 i9 m9 t9 h9 b9 cl9 op9 pu9 dr9 cg9 p0 p1 = some (0, v, q1, q2, q3, q4, q5, g1, g2, g3, g4, g5, g6) ∧ F_X4_leads fu thr c0 d0 e0 s th p0 p1 = some (v, 0, c1, d1, e1, th2) := by
  have h2 : p1 < (2 : Int32) ↔ ¬ (1 : Int32) < p1 := pq_suc (by decide)
  unfold F_X3_leads F_X4_leads
  rw [pq_in2, Option.bind_some]
  by_cases c1 : p0 < 0
  · left
    rw [if_pos c1, if_pos c1, if_pos rfl, F_X4_leads_J25, pq_ref1, Option.bind_some, if_neg pq_0n1]
    exact ⟨rfl, rfl⟩
  · by_cases c2 : (15 : Int32) < p0
    · left
      rw [if_neg c1, if_neg c1, if_pos c2, if_pos c2, if_pos rfl, F_X4_leads_J25, pq_ref1, Option.bind_some, if_neg pq_0n1]
      exact ⟨rfl, rfl⟩
    · rw [if_neg c1, if_neg c1, if_neg c2, if_neg c2, if_neg pq_0n1, pq_in2, Option.bind_some]
      by_cases d1 : p1 < 0
      · left
        rw [if_pos d1, if_pos d1, if_pos rfl, F_X4_leads_J25, pq_ref1, Option.bind_some, if_neg pq_0n1]
        exact ⟨rfl, rfl⟩
      · by_cases d2 : (1 : Int32) < p1
        · left
          rw [if_neg d1, if_neg d1, if_pos d2, if_pos rfl, if_neg (fun z => h2.mp z d2), F_X4_leads_J25, pq_ref1, Option.bind_some, if_neg pq_0n1]
          exact ⟨rfl, rfl⟩
        · right
          obtain ⟨j, k1, k2⟩ := nI_of2 (M := (15 : Int32)) (n := 15) (by decide) c1 (Int32.not_lt.mp c2)
          obtain ⟨j2, k3, k4⟩ := nI_of2 (M := (1 : Int32)) (n := 1) (by decide) d1 (Int32.not_lt.mp d2)
          have hw : p1 = 0 ∨ p1 = 1 := by
            rcases (show j2 = 0 ∨ j2 = 1 by omega) with rfl | rfl
            · exact Or.inl k4
            · exact Or.inr k4
          obtain ⟨v, q1, q2, q3, q4, q5, g1, g2, g3, g4, g5, g6, c1', d1', e1', th2, k5, k6⟩ := pq_lead (fu := fu) (c0 := c0) (d0 := d0) (e0 := e0) (th := th) h ⟨j, by omega, k2⟩ hw hf r9 i9 m9 t9 h9 b9 cl9 op9 pu9 dr9 cg9
          refine ⟨v, q1, q2, q3, q4, q5, g1, g2, g3, g4, g5, g6, c1', d1', e1', th2, ?_, ?_⟩
          · rw [if_neg d1, if_pos (h2.mpr d2), k5]
            rfl
          · rw [if_neg d1, if_neg d2, if_neg pq_0n1, F_X4_leads_J25, pq_ref0, Option.bind_some, if_pos rfl, k6]
            rfl
