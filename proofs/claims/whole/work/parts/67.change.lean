/-! A branch more, none any more, other times, other inputs. -/
theorem pq_lays {fu r k : Nat} {s : Nat → Int32} {p1 p2 : Int32} (hr : r < 6) (h4 : s (4 + 14 * r + 4) = nI k) (hk : k < 4) : F_X4_lays fu s (nI r) p1 p2 = some (nI (k + 1), upd (upd (upd s (4 + 14 * r + (6 + 2 * k)) p1) (4 + 14 * r + (6 + 2 * k + 1)) p2) (4 + 14 * r + 4) (nI (k + 1))) := by
  simp (disch := omega) only [F_X4_lays, pq_of4, h4, Option.bind_some, pq_62, nI_1, pq_puts, pq_puts4]
theorem pq_addB {fu r k : Nat} {br cl op : Nat → Int32} {p1 p2 : Int32} (hr : r < 6) (h4 : br r = nI k) (hk : k < 4) : F_X0_addBranch fu br cl op (nI r) p1 p2 = some (nI (k + 1), upd br r (nI (k + 1)), upd cl (4 * r + k) p1, upd op (4 * r + k) p2) := by
  simp (disch := omega) only [F_X0_addBranch, pq_rd, h4, Option.bind_some, F_X0_placeOf, pq_4, pq_wr, nI_1, pk_us]
theorem pq_layLad {n r0 : Nat} {b : Nat → Nat} {br cl op pu dr cg : Nat → Int32} {inp mot tk ch p1 p2 : Int32} {s : Nat → Int32} (h : pqLad n b br cl op pu dr cg inp mot tk ch s) (hr0 : r0 < n) (hk : b r0 < 4) (M1 : pqMk n p1) (M2 : pqMk n p2) : pqLad n (pqBu b r0 (b r0 + 1)) (upd br r0 (nI (b r0 + 1))) (upd cl (4 * r0 + b r0) p1) (upd op (4 * r0 + b r0) p2) pu dr cg inp mot tk ch (upd (upd (upd s (4 + 14 * r0 + (6 + 2 * b r0)) p1) (4 + 14 * r0 + (6 + 2 * b r0 + 1)) p2) (4 + 14 * r0 + 4) (nI (b r0 + 1))) := by
  obtain ⟨⟨hn, hb⟩, ⟨_, q0, q1, q2⟩, hm, hz, ⟨x1, x2, x3⟩, ho, hkk, hi, ht⟩ := h
  have key : ∀ q, q ≠ 4 + 14 * r0 + (6 + 2 * b r0) → q ≠ 4 + 14 * r0 + (6 + 2 * b r0 + 1) → q ≠ 4 + 14 * r0 + 4 → upd (upd (upd s (4 + 14 * r0 + (6 + 2 * b r0)) p1) (4 + 14 * r0 + (6 + 2 * b r0 + 1)) p2) (4 + 14 * r0 + 4) (nI (b r0 + 1)) q = s q := fun q h1 h2 h3 => by rw [pk_un h3, pk_un h2, pk_un h1]
  refine ⟨⟨hn, fun r hr => ?_⟩, ⟨hn, by rw [key 0 (by omega) (by omega) (by omega), q0], by rw [key 1 (by omega) (by omega) (by omega), q1], fun r hr => ?_⟩, fun r hr => ?_, hz, ⟨by rw [key 2 (by omega) (by omega) (by omega), x1], by rw [key 3 (by omega) (by omega) (by omega), x2], fun r hr => ?_⟩, fun r hr k k1 k2 => ?_, fun r hr j hj => ?_, hi, ht⟩
  · by_cases z : r = r0
    · rw [z, pk_us, pqBu_s]
      exact ⟨rfl, by omega⟩
    · rw [pk_un z, pqBu_n z]
      exact hb r hr
  · obtain ⟨a1, a2, a3, a4, a5⟩ := q2 r hr
    by_cases z : r = r0
    · subst z
      rw [pqBu_s]
      refine ⟨by omega, by rw [key _ (by omega) (by omega) (by omega), a2], by rw [key _ (by omega) (by omega) (by omega), a3], pk_us, fun j hj => ?_⟩
      by_cases c : j = b r
      · rw [c, pk_un (by omega), pk_un (by omega), pk_us, pk_us, pk_un (by omega), pk_us, pk_us]
        exact ⟨rfl, rfl⟩
      · rw [key _ (by omega) (by omega) (by omega), key _ (by omega) (by omega) (by omega), pk_un (by omega), pk_un (by omega)]
        exact a5 j (by omega)
    · rw [pqBu_n z]
      refine ⟨a1, by rw [key _ (by omega) (by omega) (by omega), a2], by rw [key _ (by omega) (by omega) (by omega), a3], by rw [key _ (by omega) (by omega) (by omega), a4], fun j hj => ?_⟩
      rw [key _ (by omega) (by omega) (by omega), key _ (by omega) (by omega) (by omega), pk_un (by omega), pk_un (by omega)]
      exact a5 j hj
  · rw [key _ (by omega) (by omega) (by omega), key _ (by omega) (by omega) (by omega)]
    exact hm r hr
  · rw [key _ (by omega) (by omega) (by omega)]
    exact x3 r hr
  · by_cases z : r = r0
    · subst z
      rw [pqBu_s] at k1
      rw [key _ (by omega) (by omega) (by omega)]
      exact ho r hr k (by omega) k2
    · rw [pqBu_n z] at k1
      rw [key _ (by omega) (by omega) (by omega)]
      exact ho r hr k k1 k2
  · have hbr := (hb r hr).2
    by_cases z : r = r0
    · subst z
      rw [pqBu_s] at hj
      by_cases c : j = b r
      · rw [c, pk_us, pk_us]
        exact ⟨M1, M2⟩
      · rw [pk_un (by omega), pk_un (by omega)]
        exact hkk r hr j (by omega)
    · rw [pqBu_n z] at hj
      rw [pk_un (by omega), pk_un (by omega)]
      exact hkk r hr j hj
theorem pq_branch {fu n : Nat} {b : Nat → Nat} {br cl op pu dr cg : Nat → Int32} {inp mot tk ch rk ck sc rs th p0 p1 p2 : Int32} {s past : Nat → Int32} {sv : SVT} (h : pqLad n b br cl op pu dr cg inp mot tk ch s) (hS : pqSaved sc sv.2 rs past) (hf : 4096 ≤ fu) : (∃ e e2 : Nat, (e = 3 ∧ e2 = 1 ∨ e = 1 ∧ e2 = 2 ∨ e = 2 ∧ e2 = 3) ∧ F_X3_branch fu sc rk ck (nI n) inp mot tk ch br cl op pu dr cg sv p0 p1 p2 = some (e, 0, sc, rk, ck, br, cl, op, sv) ∧ F_X4_branch fu th rs s past p0 p1 p2 = some (0, nI e2, rs, s, past)) ∨ (∃ v sc2 br2 cl2 op2 sv2 s2 past2, F_X3_branch fu sc rk ck (nI n) inp mot tk ch br cl op pu dr cg sv p0 p1 p2 = some (0, v, sc2, 0, 0, br2, cl2, op2, sv2) ∧ F_X4_branch fu th rs s past p0 p1 p2 = some (v, 0, sc2, s2, past2) ∧ pqLadT (nI n, br2, cl2, op2, pu, dr, cg, inp, mot, tk, ch) s2 ∧ pqSaved sc2 sv2.2 sc2 past2) := by
  have hR := h.2.1
  have hn := h.1.1
  have h0 := hR.2.1
  have two : (F_X4_branch fu th rs s past p0 p1 p2 = F_X4_branch_J33 fu past s rs th p0 p1 p2 0 ∧ (F_X0_hasRelay fu (nI n) p0 = some 1 → F_X3_branch fu sc rk ck (nI n) inp mot tk ch br cl op pu dr cg sv p0 p1 p2 = some (1, 0, sc, rk, ck, br, cl, op, sv))) ∨ (pqMk n p1 ∧ pqMk n p2 ∧ ¬ p1 ||| p2 = 0 ∧ p1 &&& p2 = 0 ∧ F_X0_hasContacts fu (nI n) p1 = some 1 ∧ F_X0_hasContacts fu (nI n) p2 = some 1 ∧ F_X4_branch fu th rs s past p0 p1 p2 = F_X4_branch_J33 fu past s rs th p0 p1 p2 1) := by
    unfold F_X4_branch F_X3_branch
    rcases pq_con (fu := fu) (fu2 := fu) hn h0 p1 with ⟨t1, t2⟩ | ⟨T0, t1, t2⟩
    · left
      exact ⟨by simp only [t2, Option.bind_some, ↓reduceIte], fun hrel => by simp only [hrel, t1, Option.bind_some, ↓reduceIte, pq_10]⟩
    rcases pq_con (fu := fu) (fu2 := fu) hn h0 p2 with ⟨u1, u2⟩ | ⟨T1, u1, u2⟩
    · left
      exact ⟨by simp only [t2, u2, Option.bind_some, ↓reduceIte, pq_10], fun hrel => by simp only [hrel, t1, u1, Option.bind_some, ↓reduceIte, pq_10]⟩
    by_cases c1 : p1 ||| p2 = 0
    · left
      exact ⟨by simp only [t2, u2, c1, Option.bind_some, ↓reduceIte, pq_10], fun hrel => by simp only [hrel, t1, u1, c1, Option.bind_some, ↓reduceIte, pq_10]⟩
    by_cases c2 : p1 &&& p2 = 0
    · right
      exact ⟨T0, T1, c1, c2, t1, u1, by simp only [t2, u2, c1, c2, Option.bind_some, ↓reduceIte, pq_10]⟩
    · left
      exact ⟨by simp only [t2, u2, c1, c2, Option.bind_some, ↓reduceIte, pq_10], fun hrel => by simp only [hrel, t1, u1, c1, c2, Option.bind_some, ↓reduceIte, pq_10]⟩
  rcases pq_rel (fu := fu) (fu2 := fu) hn h0 p0 with ⟨t1, t2⟩ | ⟨r, hr, rfl, t1, t2⟩
  · left
    refine ⟨3, 1, Or.inl ⟨rfl, rfl⟩, ?_, ?_⟩
    · unfold F_X3_branch
      simp only [t1, Option.bind_some, ↓reduceIte]
    · rcases two with ⟨q1, _⟩ | ⟨_, _, _, _, _, _, q1⟩
      · rw [q1]
        simp only [F_X4_branch_J33, t2, Option.bind_some, ↓reduceIte, F_X4_branch_J75, pq_ref1, pq_10]
        rfl
      · rw [q1]
        simp only [F_X4_branch_J33, t2, Option.bind_some, ↓reduceIte, F_X4_branch_J75, pq_ref1, pq_10]
        rfl
  rcases two with ⟨q1, q2⟩ | ⟨M1, M2, c1, c2, m1, m2, q1⟩
  · left
    refine ⟨1, 2, Or.inr (Or.inl ⟨rfl, rfl⟩), q2 t1, ?_⟩
    rw [q1]
    simp only [F_X4_branch_J33, t2, Option.bind_some, ↓reduceIte, F_X4_branch_J75, pq_ref2, pq_10]
    rfl
  obtain ⟨hb1, hb2⟩ := h.1.2 r hr
  have hs4 := (hR.2.2.2 r hr).2.2.2.1
  rcases Nat.lt_or_ge (b r) 4 with c | c
  · right
    obtain ⟨sc2, sv2, past2, k1, k2, k3⟩ := pq_save (fu := fu) (rk := rk) (ck := ck) h hS hf
    have hlt : nI (b r) < (4 : Int32) := nI_lt (b := 4) c (by omega)
    have hne : ¬ nI (b r) = (4 : Int32) := fun e => by
      have := (nI_eq (a := b r) (b := 4) (by omega) (by omega)).mp e
      omega
    refine ⟨nI (b r + 1), sc2, upd br r (nI (b r + 1)), upd cl (4 * r + b r) p1, upd op (4 * r + b r) p2, sv2, upd (upd (upd s (4 + 14 * r + (6 + 2 * b r)) p1) (4 + 14 * r + (6 + 2 * b r + 1)) p2) (4 + 14 * r + 4) (nI (b r + 1)), past2, ?_, ?_, ⟨n, pqBu b r (b r + 1), rfl, pq_layLad h hr c M1 M2⟩, k3⟩
    · unfold F_X3_branch
      simp (disch := omega) only [t1, m1, m2, c1, c2, Option.bind_some, ↓reduceIte, pq_10, pq_rd, hb1, hlt, k1, pq_addB (fu := fu) (cl := cl) (op := op) (p1 := p1) (p2 := p2) (show r < 6 by omega) hb1 c]
    · rw [q1]
      simp (disch := omega) only [F_X4_branch_J33, t2, Option.bind_some, ↓reduceIte, pq_10, pq_of4, hs4, hne, F_X4_branch_J75, pq_ref0, k2, pq_lays (fu := fu) (p1 := p1) (p2 := p2) (show r < 6 by omega) hs4 c]
  · left
    have e4 : b r = 4 := by omega
    rw [e4] at hb1 hs4
    refine ⟨2, 3, Or.inr (Or.inr ⟨rfl, rfl⟩), ?_, ?_⟩
    · unfold F_X3_branch
      simp (disch := omega) only [t1, m1, m2, c1, c2, Option.bind_some, ↓reduceIte, pq_10, pq_rd, hb1, show ¬ nI 4 < (4 : Int32) by decide]
    · rw [q1]
      simp (disch := omega) only [F_X4_branch_J33, t2, Option.bind_some, ↓reduceIte, pq_10, pq_of4, hs4, show nI 4 = (4 : Int32) from rfl, F_X4_branch_J75, pq_ref3]
      rfl
/-! strip -/
theorem pq_strips {fu r k : Nat} {s : Nat → Int32} (hr : r < 6) (h4 : s (4 + 14 * r + 4) = nI k) (hf : 4096 ≤ fu) : F_X4_strips fu s (nI r) = some (nI k, upd (pqAz s r 6 8) (4 + 14 * r + 4) 0) := by
  unfold F_X4_strips
  rw [pq_of4 hr, h4, Option.bind_some]
  refine zlp_r2 (fun i => nI (6 + i)) (fun i => pqAz s r 6 i) 8 ?_ ?_ (by omega)
  · intro rec i hi
    simp (disch := omega) only [F_X4_strips_L13, pq_14le hi, ↓reduceIte, pq_puts, Option.bind_some, nI_1, pqAz]
    rfl
  · intro rec
    simp (disch := omega) only [F_X4_strips_L13, show (14 : Int32) ≤ nI (6 + 8) by decide, ↓reduceIte, F_X4_strips_E35, pq_puts4, Option.bind_some]
theorem pq_dropB {fu r k : Nat} {br : Nat → Int32} (hr : r < 6) (h4 : br r = nI k) : F_X0_dropBranches fu br (nI r) = some (nI k, upd br r 0) := by
  simp (disch := omega) only [F_X0_dropBranches, pq_rd, h4, Option.bind_some, pq_wr]
theorem pq_stripLad {n r0 : Nat} {b : Nat → Nat} {br cl op pu dr cg : Nat → Int32} {inp mot tk ch : Int32} {s : Nat → Int32} (h : pqLad n b br cl op pu dr cg inp mot tk ch s) (hr0 : r0 < n) : pqLad n (pqBu b r0 0) (upd br r0 0) cl op pu dr cg inp mot tk ch (upd (pqAz s r0 6 8) (4 + 14 * r0 + 4) 0) := by
  obtain ⟨⟨hn, hb⟩, ⟨_, q0, q1, q2⟩, hm, hz, ⟨x1, x2, x3⟩, ho, hkk, hi, ht⟩ := h
  have key : ∀ q, (q < 4 + 14 * r0 + 4 ∨ q = 4 + 14 * r0 + 5 ∨ 4 + 14 * r0 + 14 ≤ q) → upd (pqAz s r0 6 8) (4 + 14 * r0 + 4) 0 q = s q := fun q h1 => by rw [pk_un (by omega), pqAz_at, if_neg (by omega)]
  refine ⟨⟨hn, fun r hr => ?_⟩, ⟨hn, by rw [key 0 (by omega), q0], by rw [key 1 (by omega), q1], fun r hr => ?_⟩, fun r hr => ?_, hz, ⟨by rw [key 2 (by omega), x1], by rw [key 3 (by omega), x2], fun r hr => ?_⟩, fun r hr k k1 k2 => ?_, fun r hr j hj => ?_, hi, ht⟩
  · by_cases z : r = r0
    · rw [z, pk_us, pqBu_s]
      exact ⟨rfl, by omega⟩
    · rw [pk_un z, pqBu_n z]
      exact hb r hr
  · obtain ⟨a1, a2, a3, a4, a5⟩ := q2 r hr
    by_cases z : r = r0
    · subst z
      rw [pqBu_s]
      exact ⟨by omega, by rw [key _ (by omega), a2], by rw [key _ (by omega), a3], pk_us, fun j hj => absurd hj (Nat.not_lt_zero _)⟩
    · rw [pqBu_n z]
      refine ⟨a1, by rw [key _ (by omega), a2], by rw [key _ (by omega), a3], by rw [key _ (by omega), a4], fun j hj => ?_⟩
      rw [key _ (by omega), key _ (by omega)]
      exact a5 j hj
  · rw [key _ (by omega), key _ (by omega)]
    exact hm r hr
  · rw [key _ (by omega)]
    exact x3 r hr
  · by_cases z : r = r0
    · subst z
      rw [pk_un (by omega), pqAz_at, if_pos (by omega)]
    · rw [pqBu_n z] at k1
      rw [key _ (by omega)]
      exact ho r hr k k1 k2
  · by_cases z : r = r0
    · rw [z, pqBu_s] at hj
      omega
    · rw [pqBu_n z] at hj
      exact hkk r hr j hj
theorem pq_strip {fu n : Nat} {b : Nat → Nat} {br cl op pu dr cg : Nat → Int32} {inp mot tk ch rk ck sc rs th p0 : Int32} {s past : Nat → Int32} {sv : SVT} (h : pqLad n b br cl op pu dr cg inp mot tk ch s) (hS : pqSaved sc sv.2 rs past) (hf : 4096 ≤ fu) : (F_X3_strip fu sc rk ck (nI n) inp mot tk ch br cl op pu dr cg sv p0 = some (3, 0, sc, rk, ck, br, sv) ∧ F_X4_strip fu th rs s past p0 = some (0, 1, rs, s, past)) ∨ (∃ v sc2 br2 sv2 s2 past2, F_X3_strip fu sc rk ck (nI n) inp mot tk ch br cl op pu dr cg sv p0 = some (0, v, sc2, 0, 0, br2, sv2) ∧ F_X4_strip fu th rs s past p0 = some (v, 0, sc2, s2, past2) ∧ pqLadT (nI n, br2, cl, op, pu, dr, cg, inp, mot, tk, ch) s2 ∧ pqSaved sc2 sv2.2 sc2 past2) := by
  have hR := h.2.1
  have hn := h.1.1
  unfold F_X3_strip F_X4_strip
  rcases pq_rel (fu := fu) (fu2 := fu) hn hR.2.1 p0 with ⟨t1, t2⟩ | ⟨r, hr, rfl, t1, t2⟩
  · left
    exact ⟨by simp only [t1, Option.bind_some, ↓reduceIte], by simp only [t2, Option.bind_some, ↓reduceIte, F_X4_strip_J14, pq_ref1, pq_10]⟩
  · right
    obtain ⟨sc2, sv2, past2, k1, k2, k3⟩ := pq_save (fu := fu) (rk := rk) (ck := ck) h hS hf
    refine ⟨nI (b r), sc2, upd br r 0, sv2, upd (pqAz s r 6 8) (4 + 14 * r + 4) 0, past2, ?_, ?_, ⟨n, pqBu b r 0, rfl, pq_stripLad h hr⟩, k3⟩
    · simp only [t1, Option.bind_some, ↓reduceIte, pq_10, k1, pq_dropB (fu := fu) (show r < 6 by omega) (h.1.2 r hr).1]
    · simp only [t2, Option.bind_some, ↓reduceIte, pq_10, F_X4_strip_J14, pq_ref0, k2, pq_strips (fu := fu) (show r < 6 by omega) (hR.2.2.2 r hr).2.2.2.1 hf]
/-! delay -/
theorem pq_puLad {n r0 : Nat} {b : Nat → Nat} {br cl op pu dr cg : Nat → Int32} {inp mot tk ch p : Int32} {s : Nat → Int32} (h : pqLad n b br cl op pu dr cg inp mot tk ch s) (hr0 : r0 < n) (T : pqTm p) : pqLad n b br cl op (upd pu r0 p) dr cg inp mot tk ch (upd s (4 + 14 * r0 + 2) p) := by
  obtain ⟨⟨hn, hb⟩, ⟨_, q0, q1, q2⟩, hm, hz, ⟨x1, x2, x3⟩, ho, hkk, hi, ht⟩ := h
  refine ⟨⟨hn, hb⟩, ⟨hn, by rw [pk_un (by omega), q0], by rw [pk_un (by omega), q1], fun r hr => ?_⟩, fun r hr => ?_, hz, ⟨by rw [pk_un (by omega), x1], by rw [pk_un (by omega), x2], fun r hr => ?_⟩, fun r hr k k1 k2 => ?_, hkk, hi, fun r hr => ?_⟩
  · obtain ⟨a1, a2, a3, a4, a5⟩ := q2 r hr
    refine ⟨a1, ?_, by rw [pk_un (by omega), a3], by rw [pk_un (by omega), a4], fun j hj => ?_⟩
    · by_cases z : r = r0
      · rw [z, pk_us, pk_us]
      · rw [pk_un (by omega), pk_un z, a2]
    · rw [pk_un (by omega), pk_un (by omega)]
      exact a5 j hj
  · rw [pk_un (by omega), pk_un (by omega)]
    exact hm r hr
  · rw [pk_un (by omega)]
    exact x3 r hr
  · rw [pk_un (by omega)]
    exact ho r hr k k1 k2
  · by_cases z : r = r0
    · rw [z, pk_us]
      exact ⟨T, (ht r0 hr0).2⟩
    · rw [pk_un z]
      exact ht r hr
theorem pq_drLad {n r0 : Nat} {b : Nat → Nat} {br cl op pu dr cg : Nat → Int32} {inp mot tk ch p : Int32} {s : Nat → Int32} (h : pqLad n b br cl op pu dr cg inp mot tk ch s) (hr0 : r0 < n) (T : pqTm p) : pqLad n b br cl op pu (upd dr r0 p) cg inp mot tk ch (upd s (4 + 14 * r0 + 3) p) := by
  obtain ⟨⟨hn, hb⟩, ⟨_, q0, q1, q2⟩, hm, hz, ⟨x1, x2, x3⟩, ho, hkk, hi, ht⟩ := h
  refine ⟨⟨hn, hb⟩, ⟨hn, by rw [pk_un (by omega), q0], by rw [pk_un (by omega), q1], fun r hr => ?_⟩, fun r hr => ?_, hz, ⟨by rw [pk_un (by omega), x1], by rw [pk_un (by omega), x2], fun r hr => ?_⟩, fun r hr k k1 k2 => ?_, hkk, hi, fun r hr => ?_⟩
  · obtain ⟨a1, a2, a3, a4, a5⟩ := q2 r hr
    refine ⟨a1, by rw [pk_un (by omega), a2], ?_, by rw [pk_un (by omega), a4], fun j hj => ?_⟩
    · by_cases z : r = r0
      · rw [z, pk_us, pk_us]
      · rw [pk_un (by omega), pk_un z, a3]
    · rw [pk_un (by omega), pk_un (by omega)]
      exact a5 j hj
  · rw [pk_un (by omega), pk_un (by omega)]
    exact hm r hr
  · rw [pk_un (by omega)]
    exact x3 r hr
  · rw [pk_un (by omega)]
    exact ho r hr k k1 k2
  · by_cases z : r = r0
    · rw [z, pk_us]
      exact ⟨(ht r0 hr0).1, T⟩
    · rw [pk_un z]
      exact ht r hr
theorem pq_delay {fu n : Nat} {b : Nat → Nat} {br cl op pu dr cg : Nat → Int32} {inp mot tk ch rk ck sc rs th p0 p1 p2 : Int32} {s past : Nat → Int32} {sv : SVT} (h : pqLad n b br cl op pu dr cg inp mot tk ch s) (hS : pqSaved sc sv.2 rs past) (hf : 4096 ≤ fu) : (∃ e e2 : Nat, (e = 3 ∧ e2 = 1 ∨ e = 1 ∧ e2 = 2) ∧ F_X3_delay fu sc rk ck (nI n) inp mot tk ch br cl op pu dr cg sv p0 p1 p2 = some (e, 0, sc, rk, ck, pu, dr, sv) ∧ F_X4_delay fu th rs s past p0 p1 p2 = some (0, nI e2, rs, s, past)) ∨ (∃ v sc2 pu2 dr2 sv2 s2 past2, F_X3_delay fu sc rk ck (nI n) inp mot tk ch br cl op pu dr cg sv p0 p1 p2 = some (0, v, sc2, 0, 0, pu2, dr2, sv2) ∧ F_X4_delay fu th rs s past p0 p1 p2 = some (v, 0, sc2, s2, past2) ∧ pqLadT (nI n, br, cl, op, pu2, dr2, cg, inp, mot, tk, ch) s2 ∧ pqSaved sc2 sv2.2 sc2 past2) := by
  have hR := h.2.1
  have hn := h.1.1
  unfold F_X3_delay F_X4_delay
  rcases pq_rel (fu := fu) (fu2 := fu) hn hR.2.1 p0 with ⟨t1, t2⟩ | ⟨r, hr, rfl, t1, t2⟩
  · left
    refine ⟨3, 1, Or.inl ⟨rfl, rfl⟩, by simp only [t1, Option.bind_some, ↓reduceIte], ?_⟩
    rcases pq_time fu fu p1 with ⟨u1, u2⟩ | ⟨T1, u1, u2⟩
    · simp only [u2, t2, Option.bind_some, ↓reduceIte, F_X4_delay_J19, F_X4_delay_J44, pq_ref1, pq_10]
      rfl
    · rcases pq_time fu fu p2 with ⟨w1, w2⟩ | ⟨T2, w1, w2⟩
      · simp only [u2, w2, t2, Option.bind_some, ↓reduceIte, F_X4_delay_J19, F_X4_delay_J44, pq_ref1, pq_10]
        rfl
      · simp only [u2, w2, t2, Option.bind_some, ↓reduceIte, F_X4_delay_J19, F_X4_delay_J44, pq_ref1, pq_10]
        rfl
  · rcases pq_time fu fu p1 with ⟨u1, u2⟩ | ⟨T1, u1, u2⟩
    · left
      refine ⟨1, 2, Or.inr ⟨rfl, rfl⟩, by simp only [t1, u1, Option.bind_some, ↓reduceIte, pq_10], ?_⟩
      simp only [u2, t2, Option.bind_some, ↓reduceIte, F_X4_delay_J19, F_X4_delay_J44, pq_ref2, pq_10]
      rfl
    · rcases pq_time fu fu p2 with ⟨w1, w2⟩ | ⟨T2, w1, w2⟩
      · left
        refine ⟨1, 2, Or.inr ⟨rfl, rfl⟩, by simp only [t1, u1, w1, Option.bind_some, ↓reduceIte, pq_10], ?_⟩
        simp only [u2, w2, t2, Option.bind_some, ↓reduceIte, F_X4_delay_J19, F_X4_delay_J44, pq_ref2, pq_10]
        rfl
      · right
        obtain ⟨sc2, sv2, past2, k1, k2, k3⟩ := pq_save (fu := fu) (rk := rk) (ck := ck) h hS hf
        have a2 := (hR.2.2.2 r hr).2.1
        refine ⟨pu r, sc2, upd pu r p1, upd dr r p2, sv2, upd (upd s (4 + 14 * r + 2) p1) (4 + 14 * r + 3) p2, past2, ?_, ?_, ⟨n, b, rfl, pq_drLad (pq_puLad h hr T1) hr T2⟩, k3⟩
        · simp (disch := omega) only [t1, u1, w1, Option.bind_some, ↓reduceIte, pq_10, k1, pq_rd, pq_wr]
        · simp (disch := omega) only [u2, w2, t2, Option.bind_some, ↓reduceIte, F_X4_delay_J19, F_X4_delay_J44, pq_ref0, pq_10, k2, pq_of2, a2, pq_puts2, pq_puts3]
/-! press -/
theorem pq_in2 {p lo hi : Int32} {fu : Nat} : F_X4_in fu p lo hi = some (if p < lo then 0 else if hi < p then 0 else 1) := by
  unfold F_X4_in
  split
  · rfl
  · split <;> rfl
theorem pq_inpLad {n : Nat} {b : Nat → Nat} {br cl op pu dr cg : Nat → Int32} {inp mot tk ch v : Int32} {s : Nat → Int32} (h : pqLad n b br cl op pu dr cg inp mot tk ch s) (hv : ∃ q, q < 16 ∧ v = nI q) : pqLad n b br cl op pu dr cg v mot tk ch (upd s 1 v) := by
  obtain ⟨⟨hn, hb⟩, ⟨_, q0, q1, q2⟩, hm, hz, ⟨x1, x2, x3⟩, ho, hkk, hi, ht⟩ := h
  refine ⟨⟨hn, hb⟩, ⟨hn, by rw [pk_un (by omega), q0], pk_us, fun r hr => ?_⟩, fun r hr => ?_, hz, ⟨by rw [pk_un (by omega), x1], by rw [pk_un (by omega), x2], fun r hr => ?_⟩, fun r hr k k1 k2 => ?_, hkk, hv, ht⟩
  · obtain ⟨a1, a2, a3, a4, a5⟩ := q2 r hr
    refine ⟨a1, by rw [pk_un (by omega), a2], by rw [pk_un (by omega), a3], by rw [pk_un (by omega), a4], fun j hj => ?_⟩
    rw [pk_un (by omega), pk_un (by omega)]
    exact a5 j hj
  · rw [pk_un (by omega), pk_un (by omega)]
    exact hm r hr
  · rw [pk_un (by omega)]
    exact x3 r hr
  · rw [pk_un (by omega)]
    exact ho r hr k k1 k2
theorem pq_unq {fu n : Nat} {b : Nat → Nat} {br cl op pu dr cg : Nat → Int32} {inp mot tk ch : Int32} {s : Nat → Int32} (h : pqLad n b br cl op pu dr cg inp mot tk ch s) (hf : 4096 ≤ fu) : F_X4_unquiet fu s = some (pqOn (pqU n b cl op inp mot) 16) := by
  obtain ⟨hb, hR, hm, hz, hx, ho, hk, hi, ht⟩ := h
  simp (disch := omega) only [F_X4_unquiet, pq_codeOf hR.1 hR.2.1 hm hz hf, Option.bind_some, F_X4_upOf, pq_called2 hR hf, pq_ones]
  rfl
theorem pq_press {fu n : Nat} {b : Nat → Nat} {br cl op pu dr cg : Nat → Int32} {inp mot tk ch rk ck sc rs th p0 : Int32} {s past : Nat → Int32} {sv : SVT} (h : pqLad n b br cl op pu dr cg inp mot tk ch s) (hS : pqSaved sc sv.2 rs past) (hf : 4096 ≤ fu) : (F_X3_press fu sc rk ck (nI n) inp mot tk ch br cl op pu dr cg sv p0 = some (1, 0, sc, rk, ck, inp, sv) ∧ F_X4_press fu th rs s past p0 = some (0, 1, rs, s, past)) ∨ (∃ v sc2 inp2 sv2 s2 past2, F_X3_press fu sc rk ck (nI n) inp mot tk ch br cl op pu dr cg sv p0 = some (0, v, sc2, 0, 0, inp2, sv2) ∧ F_X4_press fu th rs s past p0 = some (v, 0, sc2, s2, past2) ∧ pqLadT (nI n, br, cl, op, pu, dr, cg, inp2, mot, tk, ch) s2 ∧ pqSaved sc2 sv2.2 sc2 past2) := by
  have hR := h.2.1
  have hn := h.1.1
  unfold F_X3_press F_X4_press
  simp only [pq_in2]
  by_cases c1 : p0 < (0 : Int32)
  · left
    exact ⟨by simp only [c1, ↓reduceIte], by simp only [c1, ↓reduceIte, Option.bind_some, F_X4_press_J15, pq_ref1, pq_10]⟩
  by_cases c2 : p0 < (4 : Int32)
  · right
    obtain ⟨q, hq, rfl⟩ := nI_of2 (x := p0) (M := (3 : Int32)) (n := 3) (by decide) c1 (by
      rw [Int32.lt_iff_toInt_lt] at c2
      rw [Int32.le_iff_toInt_le]
      have e4 : (4 : Int32).toInt = 4 := by decide
      have e3 : (3 : Int32).toInt = 3 := by decide
      omega)
    have c3 : ¬ (3 : Int32) < nI q := nI_nlt (a := 3) hq (by omega)
    obtain ⟨sc2, sv2, past2, k1, k2, k3⟩ := pq_save (fu := fu) (rk := rk) (ck := ck) h hS hf
    have hv : ∃ z, z < 16 ∧ inp ^^^ ((1 : Int32) <<< (nI q &&& (31 : Int32))) = nI z := by
      obtain ⟨z, hz, rfl⟩ := h.2.2.2.2.2.2.2.1
      have e : ∀ q, q ≤ 3 → (1 : Int32) <<< (nI q &&& (31 : Int32)) = nI (2 ^ q) := by decide +kernel
      rw [e q hq, nx_xor]
      exact ⟨z ^^^ 2 ^ q, Nat.xor_lt_two_pow (n := 4) hz (Nat.pow_lt_pow_right (by decide) (by omega)), rfl⟩
    have h2 := pq_inpLad h hv
    have hbc := pq_bcb (fu := fu) (x := pqU n b cl op (inp ^^^ ((1 : Int32) <<< (nI q &&& (31 : Int32)))) mot) (fun i z hi => pqU_bits h.2.2.2.1 hi (by omega))
    refine ⟨pqOn (pqU n b cl op (inp ^^^ ((1 : Int32) <<< (nI q &&& (31 : Int32)))) mot) 16, sc2, inp ^^^ ((1 : Int32) <<< (nI q &&& (31 : Int32))), sv2, upd s 1 (inp ^^^ ((1 : Int32) <<< (nI q &&& (31 : Int32)))), past2, ?_, ?_, ⟨n, b, rfl, h2⟩, k3⟩
    · simp only [c1, c2, ↓reduceIte, k1, Option.bind_some, pq_restless h.1 hf, hbc]
    · simp (disch := omega) only [c1, c3, ↓reduceIte, Option.bind_some, pq_10, F_X4_press_J15, pq_ref0, k2, pq_rd1, hR.2.2.1, pq_wr1, pq_unq h2 hf]
  · left
    have c3 : (3 : Int32) < p0 := by
      rw [Int32.lt_iff_toInt_lt] at c2 ⊢
      have e4 : (4 : Int32).toInt = 4 := by decide
      have e3 : (3 : Int32).toInt = 3 := by decide
      omega
    exact ⟨by simp only [c1, c2, ↓reduceIte], by simp only [c1, c3, ↓reduceIte, Option.bind_some, F_X4_press_J15, pq_ref1, pq_10]⟩
