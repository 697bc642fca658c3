theorem pq_raceQ {fu n : Nat} {b : Nat → Nat} {br cl op pu dr cg : Nat → Int32} {inp mot tk ch rk p0 : Int32} {s ra : Nat → Int32} (h : pqLad n b br cl op pu dr cg inp mot tk ch s) (hk : rk = 0 ∨ rk = 1 ∧ pqRA fu s ra) (hf : 4096 ≤ fu) (w1 : Int64) (w2 w3 w4 : Int32) (w5 w6 w7 w8 w9 w10 w11 : Nat → Int32) (thr0 c0 d0 ms0 it0 re0 le0 mo0 iw0 : Int32) (metR0 table0 ways0 wof0 into0 : Nat → Int32) : (F_X3_race fu rk (nI n) inp mot br cl op pu dr w1 w2 w3 w4 w5 w6 w7 w8 w9 w10 w11 ra p0 = some (1, 0, rk, w1, w2, w3, w4, w5, w6, w7, w8, w9, w10, w11, ra) ∧ F_X4_race fu thr0 c0 d0 ms0 it0 re0 le0 mo0 iw0 s metR0 table0 ways0 wof0 into0 p0 = some (0, 1, c0, d0, ms0, it0, re0, le0, mo0, iw0, metR0, table0, ways0, wof0, into0)) ∨ ∃ (v : Int32) (z1 : Int64) (z2 z3 z4 : Int32) (z5 z6 z7 z8 z9 z10 z11 ra2 : Nat → Int32) (c1 d1 ms it re le mo iw : Int32) (t1 t2 t3 t4 t5 : Nat → Int32), F_X3_race fu rk (nI n) inp mot br cl op pu dr w1 w2 w3 w4 w5 w6 w7 w8 w9 w10 w11 ra p0 = some (0, v, 1, z1, z2, z3, z4, z5, z6, z7, z8, z9, z10, z11, ra2) ∧ F_X4_race fu thr0 c0 d0 ms0 it0 re0 le0 mo0 iw0 s metR0 table0 ways0 wof0 into0 p0 = some (v, 0, c1, d1, ms, it, re, le, mo, iw, t1, t2, t3, t4, t5) ∧ pqRA fu s ra2 := by
  have h5 : p0 < (5 : Int32) ↔ ¬ (4 : Int32) < p0 := pq_suc (by decide)
  unfold F_X3_race F_X4_race
  rw [pq_in2, Option.bind_some]
  by_cases c1 : p0 < 0
  · left
    rw [if_pos c1, if_pos c1, if_pos rfl, F_X4_race_J15, pq_ref1, Option.bind_some, if_neg pq_0n1]
    exact ⟨rfl, rfl⟩
  · by_cases c2 : (4 : Int32) < p0
    · left
      rw [if_neg c1, if_neg c1, if_pos c2, if_pos rfl, if_neg (fun z => h5.mp z c2), F_X4_race_J15, pq_ref1, Option.bind_some, if_neg pq_0n1]
      exact ⟨rfl, rfl⟩
    · right
      obtain ⟨j, k1, rfl⟩ := nI_of2 (M := (4 : Int32)) (n := 4) (by decide) c1 (Int32.not_lt.mp c2)
      obtain ⟨rr, st, told, wh, a1, a2, a3, a4, a5, a6, a7, ra2, e1, hra⟩ := pq_findRace (fu := fu) h.1 h.2.1 h.2.2.1 h.2.2.2.1 hk hf w1 w2 w3 w4 w5 w6 w7 w8 w9 w10 w11
      obtain ⟨c1', d1', ms, it, re, le, mo, iw, t1, t2, t3, t4, t5, e2, hr⟩ := hra c0 d0 ms0 it0 re0 le0 mo0 iw0 metR0 table0 ways0 wof0 into0
      have e3 := pq_raced (fu := fu) (k := j) hr (by omega)
      refine ⟨ra2 j, rr, st, told, wh, a1, a2, a3, a4, a5, a6, a7, ra2, c1', d1', ms, it, re, le, mo, iw, t1, t2, t3, t4, t5, ?_, ?_, hra⟩
      · rw [if_neg c1, if_pos (h5.mpr c2), e1, Option.bind_some]
        show (zrd ra2 5 (nI j)).bind _ = _
        rw [pq_rd (by omega) (by omega)]
        rfl
      · rw [if_neg c1, if_neg c2, if_neg pq_0n1, F_X4_race_J15, pq_ref0, Option.bind_some, if_pos rfl, F_X4_racesNow, e2, Option.bind_some]
        show ((F_X4_raced fu ms it re le mo iw (nI j)).bind _).bind _ = _
        rw [e3]
        rfl
theorem pq_cureQ {fu n : Nat} {b : Nat → Nat} {br cl op pu dr cg : Nat → Int32} {inp mot tk ch rk ck p0 : Int32} {s ra ca : Nat → Int32} (h : pqLad n b br cl op pu dr cg inp mot tk ch s) (hk : rk = 0 ∨ rk = 1 ∧ pqRA fu s ra) (hck : ck = 0 ∨ ck = 1 ∧ pqCA fu s ca) (hf : 4096 ≤ fu) (r9 i9 m9 t9 h9 : Int32) (b9 cl9 op9 pu9 dr9 cg9 : Nat → Int32) (w1 : Int64) (w2 w3 w4 : Int32) (w5 w6 w7 w8 w9 w10 w11 : Nat → Int32) (thr0 c0 d0 ms0 it0 re0 le0 mo0 iw0 x0 x1 x2 : Int32) (th metR0 table0 ways0 wof0 into0 : Nat → Int32) : (F_X3_cure fu rk ck (nI n) inp mot tk ch br cl op pu dr cg r9 i9 m9 t9 h9 b9 cl9 op9 pu9 dr9 cg9 w1 w2 w3 w4 w5 w6 w7 w8 w9 w10 w11 ra ca p0 = some (1, 0, rk, ck, r9, i9, m9, t9, h9, b9, cl9, op9, pu9, dr9, cg9, w1, w2, w3, w4, w5, w6, w7, w8, w9, w10, w11, ra, ca) ∧ F_X4_cure fu thr0 c0 d0 ms0 it0 re0 le0 mo0 iw0 x0 x1 x2 s th metR0 table0 ways0 wof0 into0 p0 = some (0, 1, c0, d0, ms0, it0, re0, le0, mo0, iw0, x0, x1, x2, th, metR0, table0, ways0, wof0, into0)) ∨ ∃ (v : Int32) (r : pqFT) (q : pqRT), F_X3_cure fu rk ck (nI n) inp mot tk ch br cl op pu dr cg r9 i9 m9 t9 h9 b9 cl9 op9 pu9 dr9 cg9 w1 w2 w3 w4 w5 w6 w7 w8 w9 w10 w11 ra ca p0 = some (0, v, r) ∧ F_X4_cure fu thr0 c0 d0 ms0 it0 re0 le0 mo0 iw0 x0 x1 x2 s th metR0 table0 ways0 wof0 into0 p0 = some (v, 0, q.2) ∧ (r.1 = 0 ∨ r.1 = 1 ∧ pqRA fu s (r.2.2.2.2.2.2.2.2.2.2.2.2.2.2.2.2.2.2.2.2.2.2.2.2.1)) ∧ r.2.1 = 1 ∧ pqCA fu s (r.2.2.2.2.2.2.2.2.2.2.2.2.2.2.2.2.2.2.2.2.2.2.2.2.2) := by
  have h3 : p0 < (3 : Int32) ↔ ¬ (2 : Int32) < p0 := pq_suc (by decide)
  unfold F_X3_cure F_X4_cure
  rw [pq_in2, Option.bind_some]
  by_cases c1 : p0 < 0
  · left
    rw [if_pos c1, if_pos c1, if_pos rfl, F_X4_cure_J15, pq_ref1, Option.bind_some, if_neg pq_0n1]
    exact ⟨rfl, rfl⟩
  · by_cases c2 : (2 : Int32) < p0
    · left
      rw [if_neg c1, if_neg c1, if_pos c2, if_pos rfl, if_neg (fun z => h3.mp z c2), F_X4_cure_J15, pq_ref1, Option.bind_some, if_neg pq_0n1]
      exact ⟨rfl, rfl⟩
    · right
      obtain ⟨j, k1, k2⟩ := nI_of2 (M := (2 : Int32)) (n := 2) (by decide) c1 (Int32.not_lt.mp c2)
      obtain ⟨r, e1, hr1, hr2, hr3⟩ := pq_findCure (fu := fu) h hk hck hf r9 i9 m9 t9 h9 b9 cl9 op9 pu9 dr9 cg9 w1 w2 w3 w4 w5 w6 w7 w8 w9 w10 w11
      obtain ⟨q, e2, hq⟩ := hr3 c0 d0 ms0 it0 re0 le0 mo0 iw0 x0 x1 x2 th metR0 table0 ways0 wof0 into0
      refine ⟨r.2.2.2.2.2.2.2.2.2.2.2.2.2.2.2.2.2.2.2.2.2.2.2.2.2 j, r, q, ?_, ?_, hr1, hr2, hr3⟩
      · rw [if_neg c1, if_pos (h3.mpr c2), e1, Option.bind_some, k2, pq_rd (by omega) (by omega)]
        rfl
      · rw [if_neg c1, if_neg c2, if_neg pq_0n1, F_X4_cure_J15, pq_ref0, Option.bind_some, if_pos rfl, F_X4_cures, e2, Option.bind_some]
        rcases hq with ⟨q0, hc⟩ | ⟨q1, hc0, hc1, hc2⟩
        · rw [if_pos q0, hc j (by omega)]
          rfl
        · have hn : ¬ q.1 = 0 := by rw [q1]; decide
          rw [if_neg hn]
          rcases (show j = 0 ∨ j = 1 ∨ j = 2 by omega) with rfl | rfl | rfl
          · rw [if_pos (show p0 = (0 : Int32) from k2), hc0]
            rfl
          · rw [if_neg (by rw [k2]; decide), if_pos (show p0 = (1 : Int32) from k2), hc1]
            rfl
          · rw [if_neg (by rw [k2]; decide), if_neg (by rw [k2]; decide), hc2]
            rfl
