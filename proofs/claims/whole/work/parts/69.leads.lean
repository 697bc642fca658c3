/-! Where inputs lead; the race told: class and reference side by side. -/
def pqTt (s th : Nat → Int32) : Nat → Nat → Int32
  | 0 => th
  | i + 1 => upd (pqTt s th i) i (s i)
theorem pqTt_at {s th : Nat → Int32} {q : Nat} : ∀ i, q < i → pqTt s th i q = s q
  | 0, h => absurd h (Nat.not_lt_zero _)
  | i + 1, h => by
    unfold pqTt
    by_cases c : q = i
    · rw [c, pk_us]
    · rw [pk_un c]
      exact pqTt_at i (by omega)
theorem pq_tries {fu : Nat} {s th : Nat → Int32} (hf : 4096 ≤ fu) : F_X4_tries fu s th = some (pqTt s th 88) := by
  unfold F_X4_tries
  refine zlp_r2 (fun i => nI i) (fun i => pqTt s th i) 88 ?_ ?_ (by omega)
  · intro rec i hi
    have h1 : ¬ (88 : Int32) ≤ nI i := nI_ge (b := 88) hi (by omega)
    simp (disch := omega) only [F_X4_tries_L2, h1, ↓reduceIte, pq_rd, Option.bind_some, pq_wr, nI_1, pqTt]
  · intro rec
    simp only [F_X4_tries_L2, show (88 : Int32) ≤ nI 88 by decide, ↓reduceIte, F_X4_tries_E26]
theorem pq_lead {fu n : Nat} {b : Nat → Nat} {br cl op pu dr cg : Nat → Int32} {inp mot tk ch i2 what c0 d0 e0 : Int32} {s th : Nat → Int32} (h : pqLad n b br cl op pu dr cg inp mot tk ch s) (hi : ∃ q, q < 16 ∧ i2 = nI q) (hw : what = 0 ∨ what = 1) (hf : 4096 ≤ fu) (r9 i9 m9 t9 h9 : Int32) (b9 cl9 op9 pu9 dr9 cg9 : Nat → Int32) : ∃ v q1 q2 q3 q4 q5 g1 g2 g3 g4 g5 g6 c1 d1 e1 th2, F_X3_leadAnswer fu (nI n) inp mot tk ch br cl op pu dr cg r9 i9 m9 t9 h9 b9 cl9 op9 pu9 dr9 cg9 i2 what = some (v, q1, q2, q3, q4, q5, g1, g2, g3, g4, g5, g6) ∧ F_X4_leadsTo fu c0 d0 e0 s th i2 what = some (v, c1, d1, e1, th2) := by
  obtain ⟨b2, cl2, op2, pu2, dr2, cg2, ec, j1, j2, j3, j4, j5, j6⟩ := pq_copy (fu := fu) r9 i9 m9 t9 h9 b9 cl9 op9 pu9 dr9 cg9 (nI n) inp mot tk ch br cg cl dr op pu
  have h2 := pq_inpLad (pqLad_cong (s2 := pqTt s th 88) h j1 j2 j3 j4 j5 j6 (fun q hq => pqTt_at 88 hq)) hi
  have hq := pq_ticksToQuiet (fu := fu) (x := (mot, tk, ch, cg2)) (cl := cl2) (op := op2) (pu := pu2) (dr := dr2) (inp := i2) h2.1 h2.2.2.2.1 hf
  obtain ⟨c1, d1, e1, hr, hr2⟩ := pq_quietIn (fu := fu) (x := (mot, tk, ch, cg2)) h2.2.1 h2.2.2.1 h2.2.2.2.1 hf c0 d0 e0
  obtain ⟨K, eK, hle, hno, hyes⟩ := pqF_ex n b cl2 op2 pu2 dr2 i2 (mot, tk, ch, cg2)
  rw [eK] at hq hr hr2
  simp only at hq
  unfold F_X3_leadAnswer F_X4_leadsTo
  rw [ec, pq_tries hf]
  simp (disch := omega) only [Option.bind_some, pq_wr1]
  rw [hq, e_quietIn, hr]
  simp only [Option.bind_some]
  by_cases c : K = 201
  · simp only [c, ↓reduceIte]
    exact ⟨_, _, _, _, _, _, _, _, _, _, _, _, _, _, _, _, rfl, rfl⟩
  · have hne : ¬ nI K = (-1 : Int32) := pq_ne1 (by omega)
    rcases hw with rfl | rfl
    · have e := hr2 (by omega)
      simp only [c, hne, ↓reduceIte, pq_01, F_X0_up, F_X0_upIn, Option.bind_some, e]
      exact ⟨_, _, _, _, _, _, _, _, _, _, _, _, _, _, _, _, rfl, rfl⟩
    · simp only [c, hne, ↓reduceIte, pq_10]
      exact ⟨_, _, _, _, _, _, _, _, _, _, _, _, _, _, _, _, rfl, rfl⟩
theorem pq_hold {fu n : Nat} {b : Nat → Nat} {br cl op pu dr cg : Nat → Int32} {inp mot tk ch c0 d0 e0 : Int32} {s th : Nat → Int32} (h : pqLad n b br cl op pu dr cg inp mot tk ch s) (hf : 4096 ≤ fu) (r9 i9 m9 t9 h9 : Int32) (b9 cl9 op9 pu9 dr9 cg9 : Nat → Int32) : ∃ v q1 q2 q3 q4 q5 g1 g2 g3 g4 g5 g6 c1 d1 e1 th2, F_X3_holding fu (nI n) inp mot tk ch br cl op pu dr cg r9 i9 m9 t9 h9 b9 cl9 op9 pu9 dr9 cg9 = some (v, q1, q2, q3, q4, q5, g1, g2, g3, g4, g5, g6) ∧ F_X4_holds fu c0 d0 e0 s th = some (v, c1, d1, e1, th2) := by
  obtain ⟨v, q1, q2, q3, q4, q5, g1, g2, g3, g4, g5, g6, c1, d1, e1, th2, k1, k2⟩ := pq_lead (fu := fu) (c0 := c0) (d0 := d0) (e0 := e0) (th := th) h (i2 := 0) (what := 0) ⟨0, by omega, rfl⟩ (Or.inl rfl) hf r9 i9 m9 t9 h9 b9 cl9 op9 pu9 dr9 cg9
  unfold F_X3_holding F_X4_holds
  rw [k1, k2]
  simp only [Option.bind_some, pq_codeOf h.2.1.1 h.2.1.2.1 h.2.2.1 h.2.2.2.1 hf, F_X4_upOf, F_X0_up, F_X0_upIn]
  by_cases c : v = -1
  · simp only [c, ↓reduceIte]
    exact ⟨_, _, _, _, _, _, _, _, _, _, _, _, _, _, _, _, rfl, rfl⟩
  · simp only [c, ↓reduceIte]
    rw [Int32.and_comm v]
    exact ⟨_, _, _, _, _, _, _, _, _, _, _, _, _, _, _, _, rfl, rfl⟩
/-- these are the answers of race for the ladder that the row spells -/
def pqRA (fu : Nat) (s ra : Nat → Int32) : Prop := ∀ (c0 d0 ms0 it0 re0 le0 mo0 iw0 : Int32) (metR0 table0 ways0 wof0 into0 : Nat → Int32), ∃ (c1 d1 ms told re le mo iw : Int32) (t1 t2 t3 t4 t5 : Nat → Int32), F_X4_races_s fu c0 d0 ms0 it0 re0 le0 mo0 iw0 s metR0 table0 ways0 wof0 into0 = some (c1, d1, ms, told, re, le, mo, iw, t1, t2, t3, t4, t5) ∧ (told = 0 ∧ (∀ i, i < 5 → ra i = -1) ∨ told = 1 ∧ ra 0 = re ∧ ra 1 = le ∧ ra 2 = mo ∧ ra 3 = iw ∧ (iw = 0 ∨ iw = 1) ∧ ra 4 = ms ∧ ∃ k, k ≤ 64 ∧ re = nI k)
theorem pq_findRace {fu n : Nat} {b : Nat → Nat} {br cl op pu dr s ra : Nat → Int32} {inp mot rk : Int32} (hb : pqB n b br) (hR : pqR n b cl op pu dr inp s) (hM : pqM n mot s) (hz : pqZ n mot) (hk : rk = 0 ∨ rk = 1 ∧ pqRA fu s ra) (hf : 4096 ≤ fu) (rests0 : Int64) (st0 told0 wh0 : Int32) (met0 slots0 outs0 out0 arr0 freed0 cal0 : Nat → Int32) : ∃ (rr : Int64) (st told wh : Int32) (a1 a2 a3 a4 a5 a6 a7 ra2 : Nat → Int32), F_X3_findRace fu rk (nI n) inp mot br cl op pu dr rests0 st0 told0 wh0 met0 slots0 outs0 out0 arr0 freed0 cal0 ra = some (1, rr, st, told, wh, a1, a2, a3, a4, a5, a6, a7, ra2) ∧ pqRA fu s ra2 := by
  rcases hk with rfl | ⟨rfl, hk⟩
  · obtain ⟨rr, st, told, wh, a1, a2, a3, a4, a5, a6, a7, _, _, _, _, _, _, _, _, _, _, _, _, hl, _, _⟩ := pq_race (fu := fu) hb hR hM hz hf rests0 st0 told0 wh0 met0 slots0 outs0 out0 arr0 freed0 cal0 0 0 0 0 0 0 0 0 (fun _ => 0) (fun _ => 0) (fun _ => 0) (fun _ => 0) (fun _ => 0)
    have hall := fun (c0 d0 ms0 it0 re0 le0 mo0 iw0 : Int32) (metR0 table0 ways0 wof0 into0 : Nat → Int32) => pq_race (fu := fu) hb hR hM hz hf rests0 st0 told0 wh0 met0 slots0 outs0 out0 arr0 freed0 cal0 c0 d0 ms0 it0 re0 le0 mo0 iw0 metR0 table0 ways0 wof0 into0
    obtain ⟨G, eG, hG⟩ := pq_fillA (fu := fu) (N := 5) (a := ra) (x := -1) (by omega) hf
    unfold F_X3_findRace
    rw [if_pos rfl, hl, Option.bind_some, eG, Option.bind_some]
    obtain ⟨rr', st', told', wh', a1', a2', a3', a4', a5', a6', a7', _, _, _, re, le, mo, _, _, _, _, _, _, hl', _, hd⟩ := hall 0 0 0 0 0 0 0 0 (fun _ => 0) (fun _ => 0) (fun _ => 0) (fun _ => 0) (fun _ => 0)
    rw [hl] at hl'
    simp only [Option.some.injEq, Prod.mk.injEq] at hl'
    obtain ⟨rfl, rfl, rfl, rfl, -⟩ := hl'
    by_cases c : told = 0
    · simp only [c, ↓reduceIte, F_X3_findRace_J110]
      refine ⟨rr, st, 0, wh, a1, a2, a3, a4, a5, a6, a7, G, rfl, fun c0 d0 ms0 it0 re0 le0 mo0 iw0 metR0 table0 ways0 wof0 into0 => ?_⟩
      obtain ⟨rr', st', told', wh', b1, b2, b3, b4, b5, b6, b7, c1, d1, ms, re', le', mo', iw', t1, t2, t3, t4, t5, hl2, hr2, hd2⟩ := hall c0 d0 ms0 it0 re0 le0 mo0 iw0 metR0 table0 ways0 wof0 into0
      rw [hl] at hl2
      simp only [Option.some.injEq, Prod.mk.injEq] at hl2
      obtain ⟨rfl, rfl, rfl, rfl, -⟩ := hl2
      exact ⟨_, _, _, _, _, _, _, _, _, _, _, _, _, hr2, Or.inl ⟨c, hG⟩⟩
    · obtain ⟨q1, q2, q3, q4, q5, q6, q7, q8⟩ := hd.resolve_left c
      have hw : (if wh = 0 then F_X3_findRace_J96 (rr, st, told, wh, a1, a2, a3, a4, a5, a6, a7) (upd (upd (upd G 0 re) 1 le) 2 mo) 0 else F_X3_findRace_J96 (rr, st, told, wh, a1, a2, a3, a4, a5, a6, a7) (upd (upd (upd G 0 re) 1 le) 2 mo) 1) = some (1, rr, st, told, wh, a1, a2, a3, a4, a5, a6, a7, upd (upd (upd (upd (upd G 0 re) 1 le) 2 mo) 3 wh) 4 st) := by
        rcases q4 with rfl | rfl
        · simp (disch := omega) only [↓reduceIte, F_X3_findRace_J96, pq_wr3, pq_wr4, Option.bind_some, F_X3_findRace_J110]
        · simp (disch := omega) only [pq_10, ↓reduceIte, F_X3_findRace_J96, pq_wr3, pq_wr4, Option.bind_some, F_X3_findRace_J110]
      refine ⟨rr, st, told, wh, a1, a2, a3, a4, a5, a6, a7, upd (upd (upd (upd (upd G 0 re) 1 le) 2 mo) 3 wh) 4 st, ?_, fun c0 d0 ms0 it0 re0 le0 mo0 iw0 metR0 table0 ways0 wof0 into0 => ?_⟩
      · simp (disch := omega) only [c, ↓reduceIte, q5, Option.bind_some, pq_wr0, q6, pq_wr1, q7, pq_wr2]
        exact hw
      · obtain ⟨rr', st', told', wh', b1, b2, b3, b4, b5, b6, b7, c1, d1, ms, re', le', mo', iw', t1, t2, t3, t4, t5, hl2, hr2, hd2⟩ := hall c0 d0 ms0 it0 re0 le0 mo0 iw0 metR0 table0 ways0 wof0 into0
        rw [hl] at hl2
        simp only [Option.some.injEq, Prod.mk.injEq] at hl2
        obtain ⟨rfl, rfl, rfl, rfl, -⟩ := hl2
        obtain ⟨p1, p2, p3, p4, p5, p6, p7, p8⟩ := hd2.resolve_left c
        rw [q5] at p5
        rw [q6] at p6
        rw [q7] at p7
        obtain rfl := Option.some.inj p5
        obtain rfl := Option.some.inj p6
        obtain rfl := Option.some.inj p7
        refine ⟨_, _, _, _, _, _, _, _, _, _, _, _, _, hr2, Or.inr ⟨p1, ?_, ?_, ?_, ?_, ?_, ?_, p8⟩⟩
        · rw [pk_un (by omega), pk_un (by omega), pk_un (by omega), pk_un (by omega), pk_us]
        · rw [pk_un (by omega), pk_un (by omega), pk_un (by omega), pk_us]
        · rw [pk_un (by omega), pk_un (by omega), pk_us]
        · rw [pk_un (by omega), pk_us, p3]
        · rw [p3]
          exact q4
        · rw [pk_us, p2]
  · refine ⟨rests0, st0, told0, wh0, met0, slots0, outs0, out0, arr0, freed0, cal0, ra, ?_, hk⟩
    unfold F_X3_findRace
    rw [if_neg pq_10]
theorem pq_raced {fu k : Nat} {ms told re le mo iw : Int32} {ra : Nat → Int32} (h : told = 0 ∧ (∀ i, i < 5 → ra i = -1) ∨ told = 1 ∧ ra 0 = re ∧ ra 1 = le ∧ ra 2 = mo ∧ ra 3 = iw ∧ (iw = 0 ∨ iw = 1) ∧ ra 4 = ms ∧ ∃ k, k ≤ 64 ∧ re = nI k) (hk : k < 5) : F_X4_raced fu ms told re le mo iw (nI k) = some (ra k) := by
  unfold F_X4_raced
  rcases h with ⟨rfl, h⟩ | ⟨rfl, h0, h1, h2, h3, h01, h4, -⟩
  · rw [if_pos rfl, h k hk]
  · rw [if_neg pq_10]
    rcases (show k = 0 ∨ k = 1 ∨ k = 2 ∨ k = 3 ∨ k = 4 by omega) with rfl | rfl | rfl | rfl | rfl
    · rw [if_pos (by decide), h0]
    · rw [if_neg (by decide), if_pos (by decide), h1]
    · rw [if_neg (by decide), if_neg (by decide), if_pos (by decide), h2]
    · rw [if_neg (by decide), if_neg (by decide), if_neg (by decide), if_pos (by decide), h3]
      rcases h01 with rfl | rfl <;> rfl
    · rw [if_neg (by decide), if_neg (by decide), if_neg (by decide), if_neg (by decide), h4]
