abbrev pqGT : Type := Int64 × Int32 × Int32 × Int32 × Int32 × Int32 × Int32 × Int32 × (Nat → Int32) × (Nat → Int32) × (Nat → Int32) × (Nat → Int32) × (Nat → Int32) × (Nat → Int32) × Int64 × Int32 × Int32 × Int32 × (Nat → Int32) × (Nat → Int32) × (Nat → Int32) × (Nat → Int32) × (Nat → Int32) × (Nat → Int32) × (Nat → Int32) × (Nat → Int32) × (Nat → Int32)
theorem pq_hRace1 {fu n : Nat} {b : Nat → Nat} {br cl op pu dr cg : Nat → Int32} {inp mot tk ch rk ck : Int32} {s ra ca : Nat → Int32} (h : pqLad n b br cl op pu dr cg inp mot tk ch s) (hk : rk = 0 ∨ rk = 1 ∧ pqRA fu s ra) (hck : ck = 0 ∨ ck = 1 ∧ pqCA fu s ca) (hf : 4096 ≤ fu) (h0 : Int64) (r9 i9 m9 t9 h9 : Int32) (b9 cl9 op9 pu9 dr9 cg9 : Nat → Int32) (w1 : Int64) (w2 w3 w4 : Int32) (w5 w6 w7 w8 w9 w10 w11 : Nat → Int32) : ∃ (ra2 : Nat → Int32) (r : pqFT), F_X3_hashOfRace fu rk ck (nI n) inp mot tk ch br cl op pu dr cg r9 i9 m9 t9 h9 b9 cl9 op9 pu9 dr9 cg9 w1 w2 w3 w4 w5 w6 w7 w8 w9 w10 w11 ra ca h0 = F_X3_hashOfRace_E70 r (pqHh r.2.2.2.2.2.2.2.2.2.2.2.2.2.2.2.2.2.2.2.2.2.2.2.2.2 (pqHh ra2 h0 5) 3) 3 ∧ pqRA fu s ra2 ∧ (r.1 = 0 ∨ r.1 = 1 ∧ pqRA fu s (r.2.2.2.2.2.2.2.2.2.2.2.2.2.2.2.2.2.2.2.2.2.2.2.2.1)) ∧ r.2.1 = 1 ∧ pqCA fu s (r.2.2.2.2.2.2.2.2.2.2.2.2.2.2.2.2.2.2.2.2.2.2.2.2.2) := by
  obtain ⟨rr, st, told, wh, a1, a2, a3, a4, a5, a6, a7, ra2, e1, hra⟩ := pq_findRace (fu := fu) h.1 h.2.1 h.2.2.1 h.2.2.2.1 hk hf w1 w2 w3 w4 w5 w6 w7 w8 w9 w10 w11
  obtain ⟨r, e2, h1, h2, h3⟩ := pq_findCure (fu := fu) (rk := 1) (ra := ra2) h (Or.inr ⟨rfl, hra⟩) hck hf r9 i9 m9 t9 h9 b9 cl9 op9 pu9 dr9 cg9 rr st told wh a1 a2 a3 a4 a5 a6 a7
  refine ⟨ra2, r, ?_, hra, h1, h2, h3⟩
  unfold F_X3_hashOfRace
  rw [e1, Option.bind_some]
  refine zlp_r2 (fun i => pqHh ra2 h0 i) (fun i => nI i) 5 ?_ ?_ (by omega)
  · intro rec i hi
    simp (disch := omega) only [F_X3_hashOfRace_L9, show ¬ (5 : Int32) ≤ nI i from nI_ge (b := 5) hi (by omega), ↓reduceIte, pq_rd, Option.bind_some, nI_1, pqHh]
  · intro rec
    rw [F_X3_hashOfRace_L9, if_pos (show (5 : Int32) ≤ nI 5 by decide), F_X3_hashOfRace_E36, e2, Option.bind_some]
    refine zlp_r2 (fun i => pqHh r.2.2.2.2.2.2.2.2.2.2.2.2.2.2.2.2.2.2.2.2.2.2.2.2.2 (pqHh ra2 h0 5) i) (fun i => nI i) 3 ?_ ?_ (by omega)
    · intro rec i hi
      simp (disch := omega) only [F_X3_hashOfRace_L43, show ¬ (3 : Int32) ≤ nI i from nI_ge (b := 3) hi (by omega), ↓reduceIte, pq_rd, Option.bind_some, nI_1, pqHh]
    · intro rec
      rw [F_X3_hashOfRace_L43, if_pos (show (3 : Int32) ≤ nI 3 by decide)]
      rfl
theorem pq_m164 : (-1 : Int32).toInt64 = (-1 : Int64) := by decide
theorem pq_hCure2 {fu : Nat} {s ca : Nat → Int32} (hca : pqCA fu s ca) (cA cR cW v4 : Int32) (v6 : Nat → Int32) (v7 : Int32 × Int32 × Int32 × Int32 × Int32 × Int32 × Int32 × Int32 × (Nat → Int32) × (Nat → Int32) × (Nat → Int32) × (Nat → Int32) × (Nat → Int32)) (v8 : Int32) (v9 : Int64) : ∃ r : pqRT, F_X4_mixesWays_E81 fu cA cR cW s v4 v6 v7 v8 v9 = F_X4_mixesWays_J140 fu s v4 r (31 * (31 * v9 + (ca 0).toInt64) + (ca 1).toInt64) (ca 2).toInt64 := by
  obtain ⟨r, e, hr⟩ := hca v7.1 v7.2.1 v7.2.2.1 v7.2.2.2.1 v7.2.2.2.2.1 v7.2.2.2.2.2.1 v7.2.2.2.2.2.2.1 v7.2.2.2.2.2.2.2.1 cA cR cW v6 v7.2.2.2.2.2.2.2.2.1 v7.2.2.2.2.2.2.2.2.2.1 v7.2.2.2.2.2.2.2.2.2.2.1 v7.2.2.2.2.2.2.2.2.2.2.2.1 v7.2.2.2.2.2.2.2.2.2.2.2.2
  refine ⟨r, ?_⟩
  rw [F_X4_mixesWays_E81, e, Option.bind_some]
  rcases hr with ⟨h0, hc⟩ | ⟨h1, c0, c1, c2⟩
  · rw [if_pos h0, F_X4_mixesWays_J102, F_X4_mixes, Option.bind_some, if_pos h0, F_X4_mixesWays_J121, F_X4_mixes, Option.bind_some, if_pos h0, hc 0 (by omega), hc 1 (by omega), hc 2 (by omega), pq_m164]
  · have hn : ¬ r.1 = 0 := by rw [h1]; decide
    rw [if_neg hn, F_X4_mixesWays_J102, F_X4_mixes, Option.bind_some, if_neg hn, F_X4_mixesWays_J121, F_X4_mixes, Option.bind_some, if_neg hn, c0, c1, c2]
theorem pq_hWays2 {fu n : Nat} {b : Nat → Nat} {br cl op pu dr cg : Nat → Int32} {inp mot tk ch : Int32} {s ra ca : Nat → Int32} (h : pqLad n b br cl op pu dr cg inp mot tk ch s) (hf : 4096 ≤ fu) (hra : pqRA fu s ra) (hca : pqCA fu s ca) (h0 : Int64) (c0 d0 ms0 it0 re0 le0 mo0 iw0 en0 x0 x1 x2 : Int32) (th metR0 table0 ways0 wof0 into0 : Nat → Int32) (r9 i9 m9 t9 h9 : Int32) (b9 cl9 op9 pu9 dr9 cg9 : Nat → Int32) : ∃ v q1 q2 q3 q4 q5 g1 g2 g3 g4 g5 g6, F_X3_holding fu (nI n) inp mot tk ch br cl op pu dr cg r9 i9 m9 t9 h9 b9 cl9 op9 pu9 dr9 cg9 = some (v, q1, q2, q3, q4, q5, g1, g2, g3, g4, g5, g6) ∧ ∃ m : pqMT, F_X4_mixesWays fu c0 d0 ms0 it0 re0 le0 mo0 iw0 en0 x0 x1 x2 h0 s th metR0 table0 ways0 wof0 into0 = some m ∧ m.2.2.2.2.2.2.2.2.2.2.2.2.1 = 31 * pqHh ca (pqHh ra (pqHh (pqLv fu s) h0 8) 5) 3 + v.toInt64 := by
  have hall : ∀ c d e t2, ∃ v q1 q2 q3 q4 q5 g1 g2 g3 g4 g5 g6 c1 d1 e1 th2, F_X3_holding fu (nI n) inp mot tk ch br cl op pu dr cg r9 i9 m9 t9 h9 b9 cl9 op9 pu9 dr9 cg9 = some (v, q1, q2, q3, q4, q5, g1, g2, g3, g4, g5, g6) ∧ F_X4_holds fu c d e s t2 = some (v, c1, d1, e1, th2) := fun c d e t2 => pq_hold (fu := fu) (c0 := c) (d0 := d) (e0 := e) (th := t2) h hf r9 i9 m9 t9 h9 b9 cl9 op9 pu9 dr9 cg9
  unfold F_X4_mixesWays
  refine pq_hLeads2 h hf h0 _ (Q := fun o => ∃ v q1 q2 q3 q4 q5 g1 g2 g3 g4 g5 g6, F_X3_holding fu (nI n) inp mot tk ch br cl op pu dr cg r9 i9 m9 t9 h9 b9 cl9 op9 pu9 dr9 cg9 = some (v, q1, q2, q3, q4, q5, g1, g2, g3, g4, g5, g6) ∧ ∃ m : pqMT, o = some m ∧ m.2.2.2.2.2.2.2.2.2.2.2.2.1 = 31 * pqHh ca (pqHh ra (pqHh (pqLv fu s) h0 8) 5) 3 + v.toInt64) ?_ _ _ _ _
  intro c d e t2
  generalize pqHh (pqLv fu s) h0 8 = h8
  obtain ⟨c1, d1, ms, told, re, le, mo, iw, t1, t3, t4, t5, t6, er, hr⟩ := hra c d ms0 it0 re0 le0 mo0 iw0 metR0 table0 ways0 wof0 into0
  obtain ⟨r, ec⟩ := pq_hCure2 hca x0 x1 x2 e t2 (c1, d1, ms, told, re, le, mo, iw, t1, t3, t4, t5, t6) (nI 5) (pqHh ra h8 5)
  obtain ⟨v, q1, q2, q3, q4, q5, g1, g2, g3, g4, g5, g6, c2, d2, e2, th3, k1, k2⟩ := hall r.2.1 r.2.2.1 e r.2.2.2.2.2.2.2.2.2.2.2.2.1
  refine ⟨v, q1, q2, q3, q4, q5, g1, g2, g3, g4, g5, g6, k1, ?_⟩
  rw [F_X4_mixesWays_E50, er, Option.bind_some]
  have hl : ∀ kk, zlp2 (F_X4_mixesWays_L60 fu (c1, d1, ms, told, re, le, mo, iw, t1, t3, t4, t5, t6) kk) fu (0 : Int32) h8 = kk (nI 5) (pqHh ra h8 5) := by
    intro kk
    refine zlp_r2 (fun i => nI i) (fun i => pqHh ra h8 i) 5 ?_ ?_ (by omega)
    · intro rec i hi
      simp (disch := omega) only [F_X4_mixesWays_L60, show ¬ (5 : Int32) ≤ nI i from nI_ge (b := 5) hi (by omega), ↓reduceIte, pq_raced hr hi, F_X4_mixes, Option.bind_some, nI_1, pqHh]
    · intro rec
      rw [F_X4_mixesWays_L60, if_pos (show (5 : Int32) ≤ nI 5 by decide)]
  rw [hl, ec, F_X4_mixesWays_J140, F_X4_mixes, Option.bind_some, k2]
  exact ⟨_, rfl, rfl⟩
