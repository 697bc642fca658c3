/-! Runs, rests, undo, the buffer: class and reference side by side. -/
theorem pq_runLad {n : Nat} {b : Nat → Nat} {br cl op pu dr cg : Nat → Int32} {inp mot tk ch : Int32} {s : Nat → Int32} (h : pqLad n b br cl op pu dr cg inp mot tk ch s) (k : Nat) : pqLad n b br cl op pu dr (pqSt n b cl op pu dr inp (mot, tk, ch, cg) k).2.2.2 inp (pqSt n b cl op pu dr inp (mot, tk, ch, cg) k).1 (pqSt n b cl op pu dr inp (mot, tk, ch, cg) k).2.1 (pqSt n b cl op pu dr inp (mot, tk, ch, cg) k).2.2.1 (pqRo n b cl op pu dr inp (mot, tk, ch, cg) s k) := by
  obtain ⟨hb, hR, hm, hz, hx, ho, hk, hi, ht⟩ := h
  refine ⟨hb, pqRo_R (x := (mot, tk, ch, cg)) hR k, pqRo_M (x := (mot, tk, ch, cg)) hm k, pqSt_Z (x := (mot, tk, ch, cg)) hb.1 hz k, pqRo_X (x := (mot, tk, ch, cg)) hx k, fun r hr q q1 q2 => ?_, hk, hi, ht⟩
  rw [pqRo_out (by omega) (by omega) (fun z hz => by omega)]
  exact ho r hr q q1 q2
theorem pq_run {fu n : Nat} {b : Nat → Nat} {br cl op pu dr cg : Nat → Int32} {inp mot tk ch rk ck sc rs th p0 c0 d0 : Int32} {s past : Nat → Int32} {sv : SVT} (h : pqLad n b br cl op pu dr cg inp mot tk ch s) (hS : pqSaved sc sv.2 rs past) (hf : 4096 ≤ fu) : (∃ c1 d1, F_X3_run fu sc rk ck (nI n) inp mot tk ch br cl op pu dr cg sv p0 = some (1, 0, sc, rk, ck, mot, tk, ch, cg, sv) ∧ F_X4_run fu th rs c0 d0 s past p0 = some (0, 1, rs, c1, d1, s, past)) ∨ (∃ v sc2 mot2 tk2 ch2 cg2 sv2 c1 d1 s2 past2, F_X3_run fu sc rk ck (nI n) inp mot tk ch br cl op pu dr cg sv p0 = some (0, v, sc2, 0, 0, mot2, tk2, ch2, cg2, sv2) ∧ F_X4_run fu th rs c0 d0 s past p0 = some (v, 0, sc2, c1, d1, s2, past2) ∧ pqLadT (nI n, br, cl, op, pu, dr, cg2, inp, mot2, tk2, ch2) s2 ∧ pqSaved sc2 sv2.2 sc2 past2) := by
  have hR := h.2.1
  have hn := h.1.1
  unfold F_X3_run F_X4_run
  simp only [pq_in2]
  by_cases c1 : p0 < (1 : Int32)
  · left
    exact ⟨c0, d0, by simp only [c1, ↓reduceIte], by simp only [c1, ↓reduceIte, Option.bind_some, F_X4_run_J16, pq_ref1, pq_10]⟩
  by_cases c2 : p0 ≤ (99 : Int32)
  · right
    obtain ⟨N, hN, rfl⟩ := nI_of2 (x := p0) (M := (99 : Int32)) (n := 99) (by decide) (by
      rw [Int32.lt_iff_toInt_lt] at c1 ⊢
      have e1 : (1 : Int32).toInt = 1 := by decide
      have e0 : (0 : Int32).toInt = 0 := by decide
      omega) c2
    have c3 : ¬ (99 : Int32) < nI N := nI_nlt (a := 99) hN (by omega)
    obtain ⟨sc2, sv2, past2, k1, k2, k3⟩ := pq_save (fu := fu) (rk := rk) (ck := ck) h hS hf
    obtain ⟨c4, d4, k4⟩ := pq_runs (fu := fu) (N := N) (x := (mot, tk, ch, cg)) hR h.2.2.1 h.2.2.2.1 (by omega) hf c0 d0
    have hcl : zlp5 (F_X3_run_L35 fu br cl dr inp op pu (nI n) (nI N) (F_X3_run_E53 ch (sc2, 0, 0, sv2))) fu (0 : Int32) mot tk ch cg = some (0, pqSum n b cl op pu dr inp (mot, tk, ch, cg) N, sc2, 0, 0, (pqSt n b cl op pu dr inp (mot, tk, ch, cg) N).1, (pqSt n b cl op pu dr inp (mot, tk, ch, cg) N).2.1, (pqSt n b cl op pu dr inp (mot, tk, ch, cg) N).2.2.1, (pqSt n b cl op pu dr inp (mot, tk, ch, cg) N).2.2.2, sv2) := by
      refine zlp_r5 (fun k => nI k) (fun k => (pqSt n b cl op pu dr inp (mot, tk, ch, cg) k).1) (fun k => (pqSt n b cl op pu dr inp (mot, tk, ch, cg) k).2.1) (fun k => (pqSt n b cl op pu dr inp (mot, tk, ch, cg) k).2.2.1) (fun k => (pqSt n b cl op pu dr inp (mot, tk, ch, cg) k).2.2.2) N ?_ ?_ (by omega)
      · intro rec k hk
        simp (disch := omega) only [F_X3_run_L35, nI_leI, show ¬ N ≤ k by omega, ↓reduceIte, pq_tick h.1 (pqSt_Z (x := (mot, tk, ch, cg)) hn h.2.2.2.1 k) hf, Option.bind_some, nI_1]
        rfl
      · intro rec
        have e : ch + pqSum n b cl op pu dr inp (mot, tk, ch, cg) N - ch = pqSum n b cl op pu dr inp (mot, tk, ch, cg) N := by rw [Int32.add_comm, Int32.add_sub_cancel]
        have e2 : (pqSt n b cl op pu dr inp (mot, tk, ch, cg) N).2.2.1 = ch + pqSum n b cl op pu dr inp (mot, tk, ch, cg) N := pqSum_ch N
        simp (disch := omega) only [F_X3_run_L35, nI_leI, Nat.le_refl, ↓reduceIte, F_X3_run_E53]
        rw [e2, e]
    refine ⟨pqSum n b cl op pu dr inp (mot, tk, ch, cg) N, sc2, (pqSt n b cl op pu dr inp (mot, tk, ch, cg) N).1, (pqSt n b cl op pu dr inp (mot, tk, ch, cg) N).2.1, (pqSt n b cl op pu dr inp (mot, tk, ch, cg) N).2.2.1, (pqSt n b cl op pu dr inp (mot, tk, ch, cg) N).2.2.2, sv2, c4, d4, pqRo n b cl op pu dr inp (mot, tk, ch, cg) s N, past2, ?_, ?_, ⟨n, b, rfl, pq_runLad h N⟩, k3⟩
    · simp only [c1, c2, ↓reduceIte, k1, Option.bind_some]
      exact hcl
    · simp only [c1, c3, ↓reduceIte, Option.bind_some, F_X4_run_J16, pq_ref0, pq_10, k2, k4]
  · left
    have c3 : (99 : Int32) < p0 := Int32.not_le.mp c2
    exact ⟨c0, d0, by simp only [c1, c2, ↓reduceIte], by simp only [c1, c3, ↓reduceIte, Option.bind_some, F_X4_run_J16, pq_ref1, pq_10]⟩
theorem pq_settle {fu n : Nat} {b : Nat → Nat} {br cl op pu dr cg : Nat → Int32} {inp mot tk ch rk ck sc rs th c0 d0 e0 : Int32} {s past : Nat → Int32} {sv : SVT} (h : pqLad n b br cl op pu dr cg inp mot tk ch s) (hS : pqSaved sc sv.2 rs past) (hf : 4096 ≤ fu) (r9 i9 m9 t9 h9 : Int32) (b9 cl9 op9 pu9 dr9 cg9 : Nat → Int32) : (∃ q1 q2 q3 q4 q5 g1 g2 g3 g4 g5 g6 c1 d1 e1, F_X3_settle fu sc rk ck (nI n) inp mot tk ch br cl op pu dr cg r9 i9 m9 t9 h9 b9 cl9 op9 pu9 dr9 cg9 sv = some (2, 0, sc, rk, ck, nI n, inp, mot, tk, ch, br, cl, op, pu, dr, cg, q1, q2, q3, q4, q5, g1, g2, g3, g4, g5, g6, sv) ∧ F_X4_settle fu th rs c0 d0 e0 s past = some (0, 1, rs, c1, d1, e1, s, past)) ∨ (∃ v sc2 n2 inp2 mot2 tk2 ch2 br2 cl2 op2 pu2 dr2 cg2 q1 q2 q3 q4 q5 g1 g2 g3 g4 g5 g6 sv2 c1 d1 e1 s2 past2, F_X3_settle fu sc rk ck (nI n) inp mot tk ch br cl op pu dr cg r9 i9 m9 t9 h9 b9 cl9 op9 pu9 dr9 cg9 sv = some (0, v, sc2, 0, 0, n2, inp2, mot2, tk2, ch2, br2, cl2, op2, pu2, dr2, cg2, q1, q2, q3, q4, q5, g1, g2, g3, g4, g5, g6, sv2) ∧ F_X4_settle fu th rs c0 d0 e0 s past = some (v, 0, sc2, c1, d1, e1, s2, past2) ∧ pqLadT (n2, br2, cl2, op2, pu2, dr2, cg2, inp2, mot2, tk2, ch2) s2 ∧ pqSaved sc2 sv2.2 sc2 past2) := by
  obtain ⟨b2, cl2, op2, pu2, dr2, cg2, ec, j1, j2, j3, j4, j5, j6⟩ := pq_copy (fu := fu) r9 i9 m9 t9 h9 b9 cl9 op9 pu9 dr9 cg9 (nI n) inp mot tk ch br cg cl dr op pu
  have h2 := pqLad_cong (s2 := s) h j1 j2 j3 j4 j5 j6 (fun _ _ => rfl)
  have hq := pq_ticksToQuiet (fu := fu) (x := (mot, tk, ch, cg2)) (cl := cl2) (op := op2) (pu := pu2) (dr := dr2) (inp := inp) h2.1 h2.2.2.2.1 hf
  obtain ⟨c1, d1, e1, hr, hr2⟩ := pq_quietIn (fu := fu) (x := (mot, tk, ch, cg2)) h2.2.1 h2.2.2.1 h2.2.2.2.1 hf c0 d0 e0
  obtain ⟨K, eK, hle, hno, hyes⟩ := pqF_ex n b cl2 op2 pu2 dr2 inp (mot, tk, ch, cg2)
  rw [eK] at hq hr hr2
  simp only at hq
  unfold F_X3_settle F_X4_settle
  rw [ec, hr]
  simp only [Option.bind_some]
  rw [hq]
  simp only [Option.bind_some]
  by_cases c : K = 201
  · left
    simp only [c, ↓reduceIte, F_X4_settle_J20, pq_ref1, Option.bind_some, pq_10]
    exact ⟨_, _, _, _, _, _, _, _, _, _, _, _, _, _, rfl, rfl⟩
  · right
    have hne : ¬ nI K = (-1 : Int32) := pq_ne1 (by omega)
    obtain ⟨sc2, sv2, past2, k1, k2, k3⟩ := pq_save (fu := fu) (rk := rk) (ck := ck) h hS hf
    obtain ⟨c4, d4, k4⟩ := pq_runs (fu := fu) (N := K) (x := (mot, tk, ch, cg2)) h2.2.1 h2.2.2.1 h2.2.2.2.1 (by omega) hf c1 d1
    obtain ⟨m, hm, em⟩ := pqSum_n (n := n) (b := b) (cl := cl2) (op := op2) (pu := pu2) (dr := dr2) (inp := inp) (x := (mot, tk, ch, cg2)) K
    have hnn : (0 : Int32) ≤ pqSum n b cl2 op2 pu2 dr2 inp (mot, tk, ch, cg2) K := by
      rw [em]
      exact nI_pos' (by omega)
    obtain ⟨b3, cl3, op3, pu3, dr3, cg3, ec3, l1, l2, l3, l4, l5, l6⟩ := pq_copy (fu := fu) (nI n) inp mot tk ch br cl op pu dr cg (nI n) inp (pqSt n b cl2 op2 pu2 dr2 inp (mot, tk, ch, cg2) K).1 (pqSt n b cl2 op2 pu2 dr2 inp (mot, tk, ch, cg2) K).2.1 (pqSt n b cl2 op2 pu2 dr2 inp (mot, tk, ch, cg2) K).2.2.1 b2 (pqSt n b cl2 op2 pu2 dr2 inp (mot, tk, ch, cg2) K).2.2.2 cl2 dr2 op2 pu2
    have h3 := pqLad_cong (s2 := pqRo n b cl2 op2 pu2 dr2 inp (mot, tk, ch, cg2) s K) (pq_runLad h2 K) l1 l2 l3 l4 l5 l6 (fun _ _ => rfl)
    simp only [c, hne, ↓reduceIte, k1, Option.bind_some, ec3, F_X4_settle_J20, pq_ref0, k2, k4, hnn]
    exact ⟨_, _, _, _, _, _, _, _, _, _, _, _, _, _, _, _, _, _, _, _, _, _, _, _, _, _, _, _, _, _, rfl, rfl, ⟨n, b, rfl, h3⟩, k3⟩
/-! reset -/
theorem pqOn_end {x : Int32} {n : Nat} (h : ∀ i, n ≤ i → i < 32 → bt x i = false) : ∀ k, n + k ≤ 16 → pqOn x (n + k) = pqOn x n
  | 0, _ => rfl
  | k + 1, hk => by
    show pqOn x (n + k) + ((x >>> (nI (n + k) &&& (31 : Int32))) &&& (1 : Int32)) = _
    rw [pqOn_end h k (by omega), pq_bit (by omega), h (n + k) (by omega) (by omega)]
    exact Int32.add_zero _
def pqRs (s : Nat → Int32) : Nat → Nat → Int32
  | 0 => s
  | r + 1 => upd (upd (pqRs s r) (4 + 14 * r + 0) 0) (4 + 14 * r + 1) 0
theorem pqRs_out {s : Nat → Int32} {i : Nat} : ∀ r, (∀ q, q < r → i ≠ 4 + 14 * q + 0 ∧ i ≠ 4 + 14 * q + 1) → pqRs s r i = s i
  | 0, _ => rfl
  | r + 1, h => by
    have q := h r (by omega)
    unfold pqRs
    rw [pk_un q.2, pk_un q.1]
    exact pqRs_out r (fun k hk => h k (by omega))
theorem pqRs_in {s : Nat → Int32} {q : Nat} : ∀ r, q < r → pqRs s r (4 + 14 * q + 0) = 0 ∧ pqRs s r (4 + 14 * q + 1) = 0
  | 0, h => absurd h (Nat.not_lt_zero _)
  | r + 1, h => by
    unfold pqRs
    rcases Nat.lt_or_ge q r with c | c
    · rw [pk_un (by omega), pk_un (by omega), pk_un (by omega), pk_un (by omega)]
      exact pqRs_in r c
    · obtain rfl : q = r := by omega
      rw [pk_un (by omega), pk_us, pk_us]
      exact ⟨rfl, rfl⟩
theorem pqN_0' {r : Nat} (hr : r < 6) : pqN 0 r = 0 := by
  apply b_ext
  intro j hj
  rw [pqN_bits hr, b_0, b_0, Bool.and_false]
theorem pqZ_0 (n : Nat) : pqZ n 0 := fun i _ _ => b_0 i
theorem pq_reset {fu n : Nat} {b : Nat → Nat} {br cl op pu dr cg : Nat → Int32} {inp mot tk ch rk ck sc rs th : Int32} {s past : Nat → Int32} {sv : SVT} (h : pqLad n b br cl op pu dr cg inp mot tk ch s) (hS : pqSaved sc sv.2 rs past) (hf : 4096 ≤ fu) : ∃ v sc2 sv2 s2 past2, F_X3_reset fu sc rk ck (nI n) inp mot tk ch br cl op pu dr cg sv = some (v, sc2, 0, 0, 0, sv2) ∧ F_X4_reset fu th rs s past = some (v, 0, sc2, s2, past2) ∧ pqLadT (nI n, br, cl, op, pu, dr, cg, inp, 0, tk, ch) s2 ∧ pqSaved sc2 sv2.2 sc2 past2 := by
  obtain ⟨sc2, sv2, past2, k1, k2, k3⟩ := pq_save (fu := fu) (rk := rk) (ck := ck) h hS hf
  obtain ⟨⟨hn, hb⟩, ⟨_, q0, q1, q2⟩, hm, hz, ⟨x1, x2, x3⟩, ho, hkk, hi, ht⟩ := h
  have hbits : ∀ i, n ≤ i → i < 32 → bt (mot &&& (63 : Int32)) i = false := fun i h1 h2 => by
    rw [b_and, b_63]
    rcases Nat.lt_or_ge i 6 with c | c
    · rw [hz i h2 (Or.inl ⟨c, h1⟩), Bool.false_and]
    · rw [decide_eq_false (by omega), Bool.and_false]
  have hbc := pq_bcb (fu := fu) (x := mot &&& (63 : Int32)) (fun i h1 h2 => hbits i (by omega) h2)
  have he := pqOn_end (x := mot &&& (63 : Int32)) hbits (16 - n) (by omega)
  rw [show n + (16 - n) = 16 by omega] at he
  have hz2 : zlp3 (F_X4_reset_L13 fu (F_X4_reset_E61 (sc2, past2))) fu (0 : Int32) (0 : Int32) s = some (pqOn (mot &&& (63 : Int32)) n, 0, sc2, pqRs s n, past2) := by
    have ht0 : ∀ r, r ≤ n → pqRs s r 0 = nI n := fun r _ => by rw [pqRs_out r (fun q _ => by omega), q0]
    refine zlp_r3 (fun r => pqOn (mot &&& (63 : Int32)) r) (fun r => nI r) (fun r => pqRs s r) n ?_ ?_ (by omega)
    · intro rec r z
      have eu : pqRs s r (4 + 14 * r + 0) = (mot >>> (nI r &&& (31 : Int32))) &&& (1 : Int32) := by rw [pqRs_out r (fun q _ => by omega), (hm r z).1]
      simp (disch := omega) only [F_X4_reset_L13, pq_rd0, ht0, Option.bind_some, nI_leI, show ¬ n ≤ r by omega, ↓reduceIte, pq_of0, eu, pq_puts0, pq_puts1, nI_1, pqRs, pqOn, pq_bit63]
    · intro rec
      simp (disch := omega) only [F_X4_reset_L13, pq_rd0, ht0, Option.bind_some, nI_leI, Nat.le_refl, ↓reduceIte, F_X4_reset_E61]
  refine ⟨pqOn (mot &&& (63 : Int32)) n, sc2, sv2, pqRs s n, past2, ?_, ?_, ⟨n, b, rfl, ⟨hn, hb⟩, ⟨hn, by rw [pqRs_out n (fun q _ => by omega), q0], by rw [pqRs_out n (fun q _ => by omega), q1], fun r hr => ?_⟩, fun r hr => ?_, pqZ_0 n, ⟨by rw [pqRs_out n (fun q _ => by omega), x1], by rw [pqRs_out n (fun q _ => by omega), x2], fun r hr => ?_⟩, fun r hr k h1 h2 => ?_, hkk, hi, ht⟩, k3⟩
  · unfold F_X3_reset
    simp only [k1, Option.bind_some, F_X0_up, F_X0_upIn, hbc, he]
  · unfold F_X4_reset
    rw [k2, Option.bind_some]
    exact hz2
  · obtain ⟨a1, a2, a3, a4, a5⟩ := q2 r hr
    refine ⟨a1, by rw [pqRs_out n (fun q _ => by omega), a2], by rw [pqRs_out n (fun q _ => by omega), a3], by rw [pqRs_out n (fun q _ => by omega), a4], fun j hj => ?_⟩
    rw [pqRs_out n (fun q _ => by omega), pqRs_out n (fun q _ => by omega)]
    exact a5 j hj
  · obtain ⟨z1, z2⟩ := pqRs_in (s := s) n hr
    rw [z1, z2, pqN_0' (by omega), pq_bit (by omega), b_0]
    exact ⟨rfl, rfl⟩
  · rw [pqRs_out n (fun q _ => by omega)]
    exact x3 r hr
  · rw [pqRs_out n (fun q _ => by omega)]
    exact ho r hr k h1 h2
/-! the buffer -/
def pqTxt (len : Int32) (sg : Nat → Int32) (rl : Int32) (tx : Nat → Int32) : Prop := ∃ l, l ≤ 60 ∧ len = nI l ∧ rl = nI l ∧ ∀ i, i < l → sg i = tx i ∧ ∃ c, 33 ≤ c ∧ c ≤ 126 ∧ tx i = nI c
theorem pq_char : ∀ c, c < 127 → vp_nar .char (((nI c).toUInt32 % 65536).toInt32) = nI c := by decide +kernel
theorem pq_append {fu : Nat} {len rl th p0 : Int32} {sg tx : Nat → Int32} (h : pqTxt len sg rl tx) : (∃ e : Nat, (e = 1 ∨ e = 2) ∧ F_X3_append fu len sg p0 = some (e, 0, len, sg) ∧ F_X4_append fu th rl tx p0 = some (0, nI e, rl, tx)) ∨ (∃ v sg2 tx2, F_X3_append fu len sg p0 = some (0, v, v, sg2) ∧ F_X4_append fu th rl tx p0 = some (v, 0, v, tx2) ∧ pqTxt v sg2 v tx2) := by
  obtain ⟨l, hl, rfl, rfl, ht⟩ := h
  unfold F_X3_append F_X4_append
  simp only [pq_in2]
  by_cases c1 : p0 < (33 : Int32)
  · left
    refine ⟨1, Or.inl rfl, by simp only [c1, ↓reduceIte], ?_⟩
    simp only [c1, ↓reduceIte, Option.bind_some, F_X4_append_J30, pq_ref1, pq_10]
    rfl
  by_cases c2 : p0 ≤ (126 : Int32)
  · have c3 : ¬ (126 : Int32) < p0 := Int32.not_lt.mpr c2
    obtain ⟨c, hc, rfl⟩ := nI_of2 (x := p0) (M := (126 : Int32)) (n := 126) (by decide) (by
      rw [Int32.lt_iff_toInt_lt] at c1 ⊢
      have e1 : (33 : Int32).toInt = 33 := by decide
      have e0 : (0 : Int32).toInt = 0 := by decide
      omega) c2
    have c33 : 33 ≤ c := by
      rcases Nat.lt_or_ge c 33 with z | z
      · exact absurd (nI_lt (b := 33) z (by omega)) c1
      · exact z
    rcases Nat.lt_or_ge l 60 with z | z
    · right
      have hlt : nI l < (60 : Int32) := nI_lt (b := 60) z (by omega)
      have hne : ¬ nI l = (60 : Int32) := fun e => by
        have := (nI_eq (a := l) (b := 60) (by omega) (by omega)).mp e
        omega
      refine ⟨nI (l + 1), upd sg l (nI c), upd tx l (nI c), ?_, ?_, l + 1, by omega, rfl, rfl, fun i hi => ?_⟩
      · simp (disch := omega) only [c1, c2, hlt, ↓reduceIte, pq_wr, Option.bind_some, nI_1]
      · simp (disch := omega) only [c1, c3, hne, ↓reduceIte, Option.bind_some, pq_10, F_X4_append_J30, pq_ref0, pq_char c (by omega), pq_wr, nI_1]
      · by_cases y : i = l
        · rw [y, pk_us, pk_us]
          exact ⟨rfl, c, c33, hc, rfl⟩
        · rw [pk_un y, pk_un y]
          exact ht i (by omega)
    · left
      obtain rfl : l = 60 := by omega
      refine ⟨2, Or.inr rfl, by simp only [c1, c2, show ¬ nI 60 < (60 : Int32) by decide, ↓reduceIte], ?_⟩
      simp only [c1, c3, show nI 60 = (60 : Int32) from rfl, ↓reduceIte, Option.bind_some, pq_10, F_X4_append_J30, pq_ref2]
      rfl
  · left
    have c3 : (126 : Int32) < p0 := Int32.not_le.mp c2
    refine ⟨1, Or.inl rfl, by simp only [c1, c2, ↓reduceIte], ?_⟩
    simp only [c1, c3, ↓reduceIte, Option.bind_some, F_X4_append_J30, pq_ref1, pq_10]
    rfl
/-! undo -/
def pqUd (s past : Nat → Int32) (k : Nat) : Nat → Nat → Int32
  | 0 => s
  | i + 1 => upd (pqUd s past k i) i (past (88 * k + i))
theorem pqUd_at {s past : Nat → Int32} {k q : Nat} : ∀ i, pqUd s past k i q = if q < i then past (88 * k + q) else s q
  | 0 => by
    rw [if_neg (by omega)]
    rfl
  | i + 1 => by
    unfold pqUd
    by_cases c : q = i
    · rw [c, pk_us, if_pos (by omega)]
    · rw [pk_un c, pqUd_at i]
      by_cases c2 : q < i
      · rw [if_pos c2, if_pos (by omega)]
      · rw [if_neg c2, if_neg (by omega)]
theorem pq_undo {fu : Nat} {r0 i0 m0 t0 h0 : Int32} {br cl op pu dr cg : Nat → Int32} {rk ck sc rs th : Int32} {s past : Nat → Int32} {sv : SVT} (hS : pqSaved sc sv.2 rs past) (hf : 4096 ≤ fu) : (F_X3_undo fu sc rk ck r0 i0 m0 t0 h0 br cl op pu dr cg sv = some (2, 0, sc, rk, ck, r0, i0, m0, t0, h0, br, cl, op, pu, dr, cg) ∧ F_X4_undo fu th rs s past = some (0, 1, rs, s)) ∨ (∃ v n2 i2 m2 t2 h2 br2 cl2 op2 pu2 dr2 cg2 s2, F_X3_undo fu sc rk ck r0 i0 m0 t0 h0 br cl op pu dr cg sv = some (0, v, v, 0, 0, n2, i2, m2, t2, h2, br2, cl2, op2, pu2, dr2, cg2) ∧ F_X4_undo fu th rs s past = some (v, 0, v, s2) ∧ pqLadT (n2, br2, cl2, op2, pu2, dr2, cg2, i2, m2, t2, h2) s2 ∧ pqSaved v sv.2 v past) := by
  obtain ⟨k, hk, rfl, rfl, hL⟩ := hS
  unfold F_X3_undo F_X4_undo
  cases k with
  | zero =>
    left
    exact ⟨by simp only [show ¬ (1 : Int32) ≤ nI 0 by decide, ↓reduceIte], by simp only [show nI 0 = (0 : Int32) from rfl, ↓reduceIte, F_X4_undo_J13, pq_ref1, Option.bind_some, pq_10]⟩
  | succ k =>
    right
    have h1 : (1 : Int32) ≤ nI (k + 1) := nI_le (a := 1) (by omega) (by omega)
    have hz : zsx (nI k) = some k := by
      unfold zsx
      rw [nI_toInt (by omega), nI_clamp (by omega), if_pos ⟨by omega, by omega⟩]
    obtain ⟨n, b, e1, e2⟩ := hL k (by omega)
    obtain ⟨b3, cl3, op3, pu3, dr3, cg3, ec3, l1, l2, l3, l4, l5, l6⟩ := pq_copy (fu := fu) r0 i0 m0 t0 h0 br cl op pu dr cg (sv.2 k).1 (sv.2 k).2.2.2.2.2.2.2.1 (sv.2 k).2.2.2.2.2.2.2.2.1 (sv.2 k).2.2.2.2.2.2.2.2.2.1 (sv.2 k).2.2.2.2.2.2.2.2.2.2 (sv.2 k).2.1 (sv.2 k).2.2.2.2.2.2.1 (sv.2 k).2.2.1 (sv.2 k).2.2.2.2.2.1 (sv.2 k).2.2.2.1 (sv.2 k).2.2.2.2.1
    have hu : zlp2 (F_X4_undo_L33 past (nI (k + 1)) (F_X4_undo_E65 (nI (k + 1)) (0, 0))) fu (0 : Int32) s = some (nI k, 0, nI k, pqUd s past k 88) := by
      refine zlp_r2 (fun i => nI i) (fun i => pqUd s past k i) 88 ?_ ?_ (by omega)
      · intro rec i hi
        have h88 : ¬ (88 : Int32) ≤ nI i := nI_ge (b := 88) hi (by omega)
        simp (disch := omega) only [F_X4_undo_L33, h88, ↓reduceIte, nI_pred, pq_88k, pq_rd, Option.bind_some, pq_wr, nI_1, pqUd]
      · intro rec
        simp only [F_X4_undo_L33, show (88 : Int32) ≤ nI 88 by decide, ↓reduceIte, F_X4_undo_E65, nI_pred]
    refine ⟨nI k, (sv.2 k).1, (sv.2 k).2.2.2.2.2.2.2.1, (sv.2 k).2.2.2.2.2.2.2.2.1, (sv.2 k).2.2.2.2.2.2.2.2.2.1, (sv.2 k).2.2.2.2.2.2.2.2.2.2, b3, cl3, op3, pu3, dr3, cg3, pqUd s past k 88, ?_, ?_, ⟨n, b, e1, pqLad_cong e2 l1 l2 l3 l4 l5 l6 (fun q hq => by rw [pqUd_at, if_pos hq])⟩, ⟨k, by omega, rfl, rfl, fun i hi => hL i (by omega)⟩⟩
    · simp only [h1, ↓reduceIte, nI_pred, hz, Option.bind_some, ec3, F_X3_forgetAnswers]
    · have hne : ¬ nI (k + 1) = (0 : Int32) := nI_ne0 (by omega) (by omega)
      simp only [hne, ↓reduceIte, F_X4_undo_J13, pq_ref0, Option.bind_some]
      exact hu
