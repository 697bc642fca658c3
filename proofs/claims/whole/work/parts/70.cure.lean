/-! The least cure: class and reference side by side. -/
theorem e_races : F_X4_races_then = F_X4_races_s := rfl
/-- just one rest by all ways from what the row spells, and no wheel -/
def pqCured (fu : Nat) (s : Nat → Int32) : Prop := ∃ (c1 d1 ms told re le mo iw : Int32) (t1 t2 t3 t4 t5 : Nat → Int32), F_X4_races_s fu 0 0 0 0 0 0 0 0 s (fun _ => 0) (fun _ => 0) (fun _ => 0) (fun _ => 0) (fun _ => 0) = some (c1, d1, ms, told, re, le, mo, iw, t1, t2, t3, t4, t5) ∧ ¬ told = 0 ∧ re = 1 ∧ iw = 0
theorem pq_cuC {fu n : Nat} {b : Nat → Nat} {br cl op pu dr s : Nat → Int32} {inp mot : Int32} (hb : pqB n b br) (hR : pqR n b cl op pu dr inp s) (hM : pqM n mot s) (hz : pqZ n mot) (hf : 4096 ≤ fu) (rests0 : Int64) (st0 told0 wh0 : Int32) (met0 slots0 outs0 out0 arr0 freed0 cal0 : Nat → Int32) : ∃ (rr : Int64) (st told wh : Int32) (a1 a2 a3 a4 a5 a6 a7 : Nat → Int32), F_X2_lookFrom fu rests0 st0 told0 wh0 met0 slots0 outs0 out0 arr0 freed0 cal0 (nI n) inp mot br cl dr op pu = some (rr, st, told, wh, a1, a2, a3, a4, a5, a6, a7) ∧ (told = 0 ∧ ¬ pqCured fu s ∨ ¬ told = 0 ∧ ∃ re, F_X2_unlikeRests fu rr = some re ∧ (pqCured fu s ↔ re = 1 ∧ wh = 0)) := by
  obtain ⟨rr, st, told, wh, a1, a2, a3, a4, a5, a6, a7, c1, d1, ms, re, le, mo, iw, t1, t2, t3, t4, t5, hl, hr, hd⟩ := pq_race (fu := fu) hb hR hM hz hf rests0 st0 told0 wh0 met0 slots0 outs0 out0 arr0 freed0 cal0 0 0 0 0 0 0 0 0 (fun _ => 0) (fun _ => 0) (fun _ => 0) (fun _ => 0) (fun _ => 0)
  have hc : pqCured fu s ↔ ¬ told = 0 ∧ re = 1 ∧ iw = 0 := by
    constructor
    · rintro ⟨x1, x2, x3, x4, x5, x6, x7, x8, y1, y2, y3, y4, y5, h1, h2⟩
      rw [hr] at h1
      simp only [Option.some.injEq, Prod.mk.injEq] at h1
      obtain ⟨-, -, -, rfl, rfl, -, -, rfl, -⟩ := h1
      exact h2
    · intro h2
      exact ⟨_, _, _, _, _, _, _, _, _, _, _, _, _, hr, h2⟩
  refine ⟨rr, st, told, wh, a1, a2, a3, a4, a5, a6, a7, hl, ?_⟩
  by_cases c : told = 0
  · exact Or.inl ⟨c, fun z => (hc.mp z).1 c⟩
  · obtain ⟨q1, q2, q3, q4, q5, -⟩ := hd.resolve_left c
    refine Or.inr ⟨c, re, q5, hc.trans ?_⟩
    rw [q3]
    exact ⟨fun z => z.2, fun z => ⟨c, z⟩⟩
theorem pq_cuR {fu n : Nat} {b : Nat → Nat} {br cl op pu dr s : Nat → Int32} {inp mot : Int32} (hb : pqB n b br) (hR : pqR n b cl op pu dr inp s) (hM : pqM n mot s) (hz : pqZ n mot) (hf : 4096 ≤ fu) (c0 d0 ms0 it0 re0 le0 mo0 iw0 : Int32) (metR0 table0 ways0 wof0 into0 : Nat → Int32) : ∃ (c1 d1 ms told re le mo iw : Int32) (t1 t2 t3 t4 t5 : Nat → Int32) (v : Int32), F_X4_races_s fu c0 d0 ms0 it0 re0 le0 mo0 iw0 s metR0 table0 ways0 wof0 into0 = some (c1, d1, ms, told, re, le, mo, iw, t1, t2, t3, t4, t5) ∧ F_X4_isCured fu told re iw = some v ∧ (v = 0 ∧ ¬ pqCured fu s ∨ v = 1 ∧ pqCured fu s) := by
  obtain ⟨rr, st, told, wh, a1, a2, a3, a4, a5, a6, a7, c1, d1, ms, re, le, mo, iw, t1, t2, t3, t4, t5, hl, hr, hd⟩ := pq_race (fu := fu) hb hR hM hz hf 0 0 0 0 (fun _ => 0) (fun _ => 0) (fun _ => 0) (fun _ => 0) (fun _ => 0) (fun _ => 0) (fun _ => 0) c0 d0 ms0 it0 re0 le0 mo0 iw0 metR0 table0 ways0 wof0 into0
  obtain ⟨rr', st', told', wh', b1, b2, b3, b4, b5, b6, b7, hl2, hd2⟩ := pq_cuC (fu := fu) hb hR hM hz hf 0 0 0 0 (fun _ => 0) (fun _ => 0) (fun _ => 0) (fun _ => 0) (fun _ => 0) (fun _ => 0) (fun _ => 0)
  rw [hl] at hl2
  simp only [Option.some.injEq, Prod.mk.injEq] at hl2
  obtain ⟨rfl, rfl, rfl, rfl, -⟩ := hl2
  unfold F_X4_isCured
  rcases hd2 with ⟨z1, z2⟩ | ⟨z1, re2, z2, z3⟩
  · exact ⟨c1, d1, ms, told, re, le, mo, iw, t1, t2, t3, t4, t5, 0, hr, by rw [if_pos z1], Or.inl ⟨rfl, z2⟩⟩
  · obtain ⟨q1, q2, q3, q4, q5, -⟩ := hd.resolve_left z1
    rw [q5] at z2
    obtain rfl := Option.some.inj z2
    rw [← q3] at z3
    by_cases c : re = 1
    · by_cases c2 : iw = 0
      · exact ⟨c1, d1, ms, told, re, le, mo, iw, t1, t2, t3, t4, t5, 1, hr, by rw [if_neg z1, if_pos c, if_pos c2], Or.inr ⟨rfl, z3.mpr ⟨c, c2⟩⟩⟩
      · exact ⟨c1, d1, ms, told, re, le, mo, iw, t1, t2, t3, t4, t5, 0, hr, by rw [if_neg z1, if_pos c, if_neg c2], Or.inl ⟨rfl, fun z => c2 (z3.mp z).2⟩⟩
    · exact ⟨c1, d1, ms, told, re, le, mo, iw, t1, t2, t3, t4, t5, 0, hr, by rw [if_neg z1, if_neg c], Or.inl ⟨rfl, fun z => c (z3.mp z).1⟩⟩
/-- a longer time cures: relay r's pulling (w = 0) or dropping (w = 1), a ticks longer -/
def pqDp (fu : Nat) (th : Nat → Int32) (a r w : Nat) : Prop := ∃ h, th (4 + 14 * r + (2 + w)) = nI h ∧ h ≤ 9 ∧ h + a ≤ 9 ∧ pqCured fu (upd th (4 + 14 * r + (2 + w)) (nI (h + a)))
theorem pq_back {f : Nat → Int32} {i : Nat} {x y : Int32} (h : f i = y) : upd (upd f i x) i y = f := by
  funext k
  by_cases c : k = i
  · rw [c, pk_us, h]
  · rw [pk_un c, pk_un c]
theorem pq_9le {h a : Nat} (h1 : h ≤ 9) (h2 : a ≤ 9) : (nI h + nI a ≤ (9 : Int32)) ↔ h + a ≤ 9 := by
  rw [nI_add]
  exact nI_leI (b := 9) (by omega) (by omega)
theorem pq_cuPull {fu n r a : Nat} {b : Nat → Nat} {br cl op pu dr cg : Nat → Int32} {inp mot tk ch : Int32} {th : Nat → Int32} (h : pqLad n b br cl op pu dr cg inp mot tk ch th) (hr : r < n) (ha : a ≤ 9) (hf : 4096 ≤ fu) (rests0 : Int64) (st0 told0 wh0 : Int32) (met0 slots0 outs0 out0 arr0 freed0 cal0 : Nat → Int32) : ∃ (v : Int32) (rr : Int64) (st told wh : Int32) (a1 a2 a3 a4 a5 a6 a7 : Nat → Int32), F_X3_cures_trial_pull fu (nI n) inp mot br cl op pu dr rests0 st0 told0 wh0 met0 slots0 outs0 out0 arr0 freed0 cal0 (nI r) (nI a) = some (v, pu, rr, st, told, wh, a1, a2, a3, a4, a5, a6, a7) ∧ (v = 0 ∧ ¬ pqDp fu th a r 0 ∨ v = 1 ∧ pqDp fu th a r 0) := by
  have hn := h.1.1
  obtain ⟨t, ht, et⟩ := (h.2.2.2.2.2.2.2.2 r hr).1
  have eth : th (4 + 14 * r + (2 + 0)) = nI t := ((h.2.1.2.2.2 r hr).2.1).trans et
  have hdp : pqDp fu th a r 0 ↔ t + a ≤ 9 ∧ pqCured fu (upd th (4 + 14 * r + (2 + 0)) (nI (t + a))) := by
    constructor
    · rintro ⟨t2, k1, k2, k3, k4⟩
      rw [eth, nI_eq (by omega) (by omega)] at k1
      subst k1
      exact ⟨k3, k4⟩
    · rintro ⟨k3, k4⟩
      exact ⟨t, eth, ht, k3, k4⟩
  unfold F_X3_cures_trial_pull
  rw [pq_rd (by omega) (by omega), et, Option.bind_some]
  by_cases c : t + a ≤ 9
  · have h2 := pq_puLad (p := nI (t + a)) h hr ⟨t + a, c, rfl⟩
    obtain ⟨rr, st, told, wh, a1, a2, a3, a4, a5, a6, a7, hl, hd⟩ := pq_cuC (fu := fu) h2.1 h2.2.1 h2.2.2.1 h2.2.2.2.1 hf rests0 st0 told0 wh0 met0 slots0 outs0 out0 arr0 freed0 cal0
    rw [if_pos ((pq_9le ht ha).mpr c), nI_add, pq_wr (by omega) (by omega), Option.bind_some, hl, Option.bind_some, pq_wr (by omega) (by omega), pq_back et, Option.bind_some]
    rcases hd with ⟨z1, z2⟩ | ⟨z1, re, z2, z3⟩
    · refine ⟨0, rr, st, told, wh, a1, a2, a3, a4, a5, a6, a7, by simp only [z1, ↓reduceIte], Or.inl ⟨rfl, fun z => z2 (hdp.mp z).2⟩⟩
    · simp only [z1, ↓reduceIte, z2, Option.bind_some]
      by_cases c2 : re = 1
      · by_cases c3 : wh = 0
        · exact ⟨1, rr, st, told, wh, a1, a2, a3, a4, a5, a6, a7, by simp only [c2, c3, ↓reduceIte], Or.inr ⟨rfl, hdp.mpr ⟨c, z3.mpr ⟨c2, c3⟩⟩⟩⟩
        · exact ⟨0, rr, st, told, wh, a1, a2, a3, a4, a5, a6, a7, by simp only [c2, c3, ↓reduceIte], Or.inl ⟨rfl, fun z => c3 (z3.mp (hdp.mp z).2).2⟩⟩
      · exact ⟨0, rr, st, told, wh, a1, a2, a3, a4, a5, a6, a7, by simp only [c2, ↓reduceIte], Or.inl ⟨rfl, fun z => c2 (z3.mp (hdp.mp z).2).1⟩⟩
  · rw [if_neg (fun z => c ((pq_9le ht ha).mp z))]
    exact ⟨0, _, _, _, _, _, _, _, _, _, _, _, rfl, Or.inl ⟨rfl, fun z => c (hdp.mp z).1⟩⟩
theorem pq_cuDrop {fu n r a : Nat} {b : Nat → Nat} {br cl op pu dr cg : Nat → Int32} {inp mot tk ch : Int32} {th : Nat → Int32} (h : pqLad n b br cl op pu dr cg inp mot tk ch th) (hr : r < n) (ha : a ≤ 9) (hf : 4096 ≤ fu) (rests0 : Int64) (st0 told0 wh0 : Int32) (met0 slots0 outs0 out0 arr0 freed0 cal0 : Nat → Int32) : ∃ (v : Int32) (rr : Int64) (st told wh : Int32) (a1 a2 a3 a4 a5 a6 a7 : Nat → Int32), F_X3_cures_trial_drop fu (nI n) inp mot br cl op pu dr rests0 st0 told0 wh0 met0 slots0 outs0 out0 arr0 freed0 cal0 (nI r) (nI a) = some (v, dr, rr, st, told, wh, a1, a2, a3, a4, a5, a6, a7) ∧ (v = 0 ∧ ¬ pqDp fu th a r 1 ∨ v = 1 ∧ pqDp fu th a r 1) := by
  have hn := h.1.1
  obtain ⟨t, ht, et⟩ := (h.2.2.2.2.2.2.2.2 r hr).2
  have eth : th (4 + 14 * r + (2 + 1)) = nI t := ((h.2.1.2.2.2 r hr).2.2.1).trans et
  have hdp : pqDp fu th a r 1 ↔ t + a ≤ 9 ∧ pqCured fu (upd th (4 + 14 * r + (2 + 1)) (nI (t + a))) := by
    constructor
    · rintro ⟨t2, k1, k2, k3, k4⟩
      rw [eth, nI_eq (by omega) (by omega)] at k1
      subst k1
      exact ⟨k3, k4⟩
    · rintro ⟨k3, k4⟩
      exact ⟨t, eth, ht, k3, k4⟩
  unfold F_X3_cures_trial_drop
  rw [pq_rd (by omega) (by omega), et, Option.bind_some]
  by_cases c : t + a ≤ 9
  · have h2 := pq_drLad (p := nI (t + a)) h hr ⟨t + a, c, rfl⟩
    obtain ⟨rr, st, told, wh, a1, a2, a3, a4, a5, a6, a7, hl, hd⟩ := pq_cuC (fu := fu) h2.1 h2.2.1 h2.2.2.1 h2.2.2.2.1 hf rests0 st0 told0 wh0 met0 slots0 outs0 out0 arr0 freed0 cal0
    rw [if_pos ((pq_9le ht ha).mpr c), nI_add, pq_wr (by omega) (by omega), Option.bind_some, hl, Option.bind_some, pq_wr (by omega) (by omega), pq_back et, Option.bind_some]
    rcases hd with ⟨z1, z2⟩ | ⟨z1, re, z2, z3⟩
    · refine ⟨0, rr, st, told, wh, a1, a2, a3, a4, a5, a6, a7, by simp only [z1, ↓reduceIte], Or.inl ⟨rfl, fun z => z2 (hdp.mp z).2⟩⟩
    · simp only [z1, ↓reduceIte, z2, Option.bind_some]
      by_cases c2 : re = 1
      · by_cases c3 : wh = 0
        · exact ⟨1, rr, st, told, wh, a1, a2, a3, a4, a5, a6, a7, by simp only [c2, c3, ↓reduceIte], Or.inr ⟨rfl, hdp.mpr ⟨c, z3.mpr ⟨c2, c3⟩⟩⟩⟩
        · exact ⟨0, rr, st, told, wh, a1, a2, a3, a4, a5, a6, a7, by simp only [c2, c3, ↓reduceIte], Or.inl ⟨rfl, fun z => c3 (z3.mp (hdp.mp z).2).2⟩⟩
      · exact ⟨0, rr, st, told, wh, a1, a2, a3, a4, a5, a6, a7, by simp only [c2, ↓reduceIte], Or.inl ⟨rfl, fun z => c2 (z3.mp (hdp.mp z).2).1⟩⟩
  · rw [if_neg (fun z => c ((pq_9le ht ha).mp z))]
    exact ⟨0, _, _, _, _, _, _, _, _, _, _, _, rfl, Or.inl ⟨rfl, fun z => c (hdp.mp z).1⟩⟩
/-- the tries in their order -/
def pqDt (fu n : Nat) (th : Nat → Int32) (t : Nat) : Prop := pqDp fu th (1 + t / (2 * n)) (t % (2 * n) / 2) (t % 2)
theorem pq_dt {fu n : Nat} {th : Nat → Int32} {i r w : Nat} (hr : r < n) (hw : w < 2) : pqDt fu n th (i * (2 * n) + 2 * r + w) ↔ pqDp fu th (1 + i) r w := by
  have e1 : (i * (2 * n) + 2 * r + w) / (2 * n) = i := by
    rw [show i * (2 * n) + 2 * r + w = (2 * r + w) + (2 * n) * i by rw [Nat.mul_comm i (2 * n)]; omega]
    exact pq_dvq (by omega)
  have e2 : (i * (2 * n) + 2 * r + w) % (2 * n) = 2 * r + w := by
    rw [show i * (2 * n) + 2 * r + w = (2 * r + w) + (2 * n) * i by rw [Nat.mul_comm i (2 * n)]; omega, Nat.add_mul_mod_self_left]
    exact Nat.mod_eq_of_lt (by omega)
  have e3 : (i * (2 * n) + 2 * r + w) % 2 = w := by
    have e : i * (2 * n) = 2 * (n * i) := by rw [Nat.mul_comm i (2 * n), Nat.mul_assoc]
    rw [show i * (2 * n) + 2 * r + w = w + 2 * (n * i + r) by rw [e, Nat.mul_add]; omega, Nat.add_mul_mod_self_left]
    exact Nat.mod_eq_of_lt hw
  unfold pqDt
  rw [e1, e2, e3, show (2 * r + w) / 2 = r by omega]
/-- these are the answers of cure by the tries on the row -/
def pqCx (fu n : Nat) (th : Nat → Int32) (is am re wh : Int32) : Prop := (is = 0 ∧ ∀ t, t < 9 * (2 * n) → ¬ pqDt fu n th t) ∨ ∃ T, T < 9 * (2 * n) ∧ pqDt fu n th T ∧ (∀ t, t < T → ¬ pqDt fu n th t) ∧ is = 1 ∧ am = nI (1 + T / (2 * n)) ∧ re = nI (T % (2 * n) / 2) ∧ wh = nI (T % 2)
theorem pqCx_one {fu n : Nat} {th : Nat → Int32} {is am re wh is2 am2 re2 wh2 : Int32} (h : pqCx fu n th is am re wh) (h2 : pqCx fu n th is2 am2 re2 wh2) : is = is2 ∧ (is = 1 → am = am2 ∧ re = re2 ∧ wh = wh2) := by
  rcases h with ⟨h, ha⟩ | ⟨T, h1, h3, h4, rfl, rfl, rfl, rfl⟩
  · rcases h2 with ⟨h2, _⟩ | ⟨T, k1, k3, _⟩
    · exact ⟨h.trans h2.symm, fun z => absurd (h.symm.trans z) pq_01⟩
    · exact absurd k3 (ha T k1)
  · rcases h2 with ⟨h2, ha⟩ | ⟨T2, k1, k3, k4, rfl, rfl, rfl, rfl⟩
    · exact absurd h3 (ha T h1)
    · have : T = T2 := by
        rcases Nat.lt_trichotomy T T2 with z | z | z
        · exact absurd h3 (k4 T z)
        · exact z
        · exact absurd k3 (h4 T2 z)
      subst this
      exact ⟨rfl, fun _ => ⟨rfl, rfl, rfl⟩⟩
