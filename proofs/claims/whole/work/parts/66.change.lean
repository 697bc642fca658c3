/-! Changes of a ladder: class and reference side by side. -/
theorem pq_ref0 {fu : Nat} {th : Int32} : F_X4_refuses fu th 0 = some (0, 0) := rfl
theorem pq_ref1 {fu : Nat} {th : Int32} : F_X4_refuses fu th 1 = some (1, 1) := rfl
theorem pq_ref2 {fu : Nat} {th : Int32} : F_X4_refuses fu th 2 = some (1, 2) := rfl
theorem pq_ref3 {fu : Nat} {th : Int32} : F_X4_refuses fu th 3 = some (1, 3) := rfl
theorem pq_zbo0 : zbo (0 : Int32) = some 0 := rfl
theorem pq_zbo1 : zbo (1 : Int32) = some 1 := rfl
theorem pq_time (fu fu2 : Nat) (p : Int32) : (F_X3_isTime fu p = some 0 ∧ F_X4_isTime fu2 p = some 0) ∨ (pqTm p ∧ F_X3_isTime fu p = some 1 ∧ F_X4_isTime fu2 p = some 1) := by
  unfold F_X3_isTime F_X4_isTime F_X4_in
  by_cases c1 : p < (0 : Int32)
  · left
    simp only [c1, ↓reduceIte, Option.bind_some, pq_zbo0, and_self]
  · by_cases c2 : (9 : Int32) < p
    · left
      simp only [c1, c2, ↓reduceIte, Option.bind_some, pq_zbo0, and_self]
    · right
      simp only [c1, c2, ↓reduceIte, Option.bind_some, pq_zbo1, and_self, and_true]
      obtain ⟨j, h1, h2⟩ := nI_of2 (M := (9 : Int32)) (n := 9) (by decide) c1 (Int32.not_lt.mp c2)
      exact ⟨j, h1, h2⟩
theorem pq_rel {fu fu2 n : Nat} {s : Nat → Int32} (hn : n ≤ 6) (h0 : s 0 = nI n) (p : Int32) : (F_X0_hasRelay fu (nI n) p = some 0 ∧ F_X4_isRelay fu2 s p = some 0) ∨ ∃ r, r < n ∧ p = nI r ∧ F_X0_hasRelay fu (nI n) p = some 1 ∧ F_X4_isRelay fu2 s p = some 1 := by
  have hp : (nI n - (1 : Int32) < p) ↔ (nI n ≤ p) := by
    rw [Int32.lt_iff_toInt_lt, Int32.le_iff_toInt_le, show (1 : Int32) = nI 1 from rfl, pk_sub_toInt (by omega) (by omega), nI_toInt (by omega)]
    omega
  unfold F_X0_hasRelay F_X4_isRelay F_X4_in
  rw [pq_rd0 (by omega) (by omega), h0, Option.bind_some]
  by_cases c1 : p < (0 : Int32)
  · left
    simp only [c1, ↓reduceIte, Option.bind_some, pq_zbo0, and_self]
  · by_cases c2 : nI n ≤ p
    · left
      simp only [c1, c2, hp, ↓reduceIte, Option.bind_some, pq_zbo0, and_self]
    · right
      simp only [c1, c2, hp, ↓reduceIte, Option.bind_some, pq_zbo1, and_true]
      rcases pk_ix p (n := n) (by omega) with h | h | ⟨j, h, e⟩
      · exact absurd h c1
      · exact absurd h c2
      · exact ⟨j, h, e⟩
theorem pq_con {fu fu2 n : Nat} {s : Nat → Int32} (hn : n ≤ 6) (h0 : s 0 = nI n) (p : Int32) : (F_X0_hasContacts fu (nI n) p = some 0 ∧ F_X4_areContacts fu2 s p = some 0) ∨ (pqMk n p ∧ F_X0_hasContacts fu (nI n) p = some 1 ∧ F_X4_areContacts fu2 s p = some 1) := by
  have hp := pq_p1024 hn
  unfold F_X0_hasContacts F_X4_areContacts
  rw [pq_rd0 (by omega) (by omega), h0, Option.bind_some, pq_sh4 hn]
  by_cases c1 : p < (0 : Int32)
  · left
    simp only [c1, ↓reduceIte, and_self]
  · by_cases c2 : nI (2 ^ (4 + n)) ≤ p
    · left
      simp only [c1, c2, ↓reduceIte, and_self]
    · right
      simp only [c1, c2, ↓reduceIte, and_true]
      rcases pk_ix p (n := 2 ^ (4 + n)) (by omega) with h | h | ⟨j, h, e⟩
      · exact absurd h c1
      · exact absurd h c2
      · exact ⟨j, h, e⟩
/-! zeros in the row -/
def pqAz (s : Nat → Int32) (r a : Nat) : Nat → Nat → Int32
  | 0 => s
  | i + 1 => upd (pqAz s r a i) (4 + 14 * r + (a + i)) 0
theorem pqAz_at {s : Nat → Int32} {r a q : Nat} : ∀ i, pqAz s r a i q = if 4 + 14 * r + a ≤ q ∧ q < 4 + 14 * r + a + i then 0 else s q
  | 0 => by
    rw [if_neg (by omega)]
    rfl
  | i + 1 => by
    unfold pqAz
    by_cases c : q = 4 + 14 * r + (a + i)
    · rw [c, pk_us, if_pos (by omega)]
    · rw [pk_un c, pqAz_at i]
      by_cases c2 : 4 + 14 * r + a ≤ q ∧ q < 4 + 14 * r + a + i
      · rw [if_pos c2, if_pos (by omega)]
      · rw [if_neg c2, if_neg (by omega)]
theorem pqMk_up {n : Nat} {v : Int32} (h : pqMk n v) : pqMk (n + 1) v := by
  obtain ⟨k, hk, e⟩ := h
  exact ⟨k, Nat.lt_of_lt_of_le hk (Nat.pow_le_pow_right (by decide) (by omega)), e⟩
theorem pqZ_up {n : Nat} {c : Int32} (h : pqZ n c) : pqZ (n + 1) c := fun i hi z => h i hi (by omega)
theorem pqN_0 {n : Nat} {c : Int32} (h : pqZ n c) (hn : n < 6) : pqN c n = 0 := by
  apply b_ext
  intro j hj
  rw [pqN_bits hn, b_0]
  rcases Nat.lt_or_ge j 4 with z | z
  · rw [h (6 + 4 * n + j) (by omega) (Or.inr (by omega)), Bool.and_false]
  · rw [decide_eq_false (by omega), Bool.false_and]
def pqBu (b : Nat → Nat) (r0 v r : Nat) : Nat := if r = r0 then v else b r
theorem pqBu_s {b : Nat → Nat} {r v : Nat} : pqBu b r v r = v := if_pos rfl
theorem pqBu_n {b : Nat → Nat} {r0 v r : Nat} (h : ¬ r = r0) : pqBu b r0 v r = b r := if_neg h
theorem pq_add {fu n : Nat} {b : Nat → Nat} {br cl op pu dr cg : Nat → Int32} {inp mot tk ch rk ck sc rs th p0 p1 : Int32} {s past : Nat → Int32} {sv : SVT} (h : pqLad n b br cl op pu dr cg inp mot tk ch s) (hS : pqSaved sc sv.2 rs past) (hf : 4096 ≤ fu) : (∃ e : Nat, (e = 1 ∨ e = 2) ∧ F_X3_add fu sc rk ck (nI n) inp mot tk ch br cl op pu dr cg sv p0 p1 = some (e, 0, sc, rk, ck, nI n, br, pu, dr, cg, sv) ∧ F_X4_add fu th rs s past p0 p1 = some (0, nI e, rs, s, past)) ∨ (∃ v sc2 n2 br2 pu2 dr2 cg2 sv2 s2 past2, F_X3_add fu sc rk ck (nI n) inp mot tk ch br cl op pu dr cg sv p0 p1 = some (0, v, sc2, 0, 0, n2, br2, pu2, dr2, cg2, sv2) ∧ F_X4_add fu th rs s past p0 p1 = some (v, 0, sc2, s2, past2) ∧ pqLadT (n2, br2, cl, op, pu2, dr2, cg2, inp, mot, tk, ch) s2 ∧ pqSaved sc2 sv2.2 sc2 past2) := by
  have hR := h.2.1
  have hn := h.1.1
  have h0 := hR.2.1
  unfold F_X3_add F_X4_add
  rcases pq_time fu fu p0 with ⟨t1, t2⟩ | ⟨T0, t1, t2⟩
  · left
    refine ⟨1, Or.inl rfl, ?_, ?_⟩
    · simp only [t1, Option.bind_some, ↓reduceIte]
    · simp only [t2, Option.bind_some, ↓reduceIte, F_X4_add_J19, F_X4_add_J45, pq_ref1, pq_10]
      rfl
  rcases pq_time fu fu p1 with ⟨u1, u2⟩ | ⟨T1, u1, u2⟩
  · left
    refine ⟨1, Or.inl rfl, ?_, ?_⟩
    · simp only [t1, u1, Option.bind_some, ↓reduceIte, pq_10]
    · simp only [t2, u2, Option.bind_some, ↓reduceIte, F_X4_add_J19, F_X4_add_J45, pq_ref1, pq_10]
      rfl
  rcases Nat.lt_or_ge n 6 with c | c
  · right
    obtain ⟨sc2, sv2, past2, k1, k2, k3⟩ := pq_save (fu := fu) (rk := rk) (ck := ck) h hS hf
    have hz : zlp2 (F_X4_add_L68 fu (nI n) (F_X4_add_E93 fu p0 p1 (0, 0) (sc2, past2) (nI n))) fu (0 : Int32) s = some (nI n, 0, sc2, upd (upd (upd (pqAz s n 0 14) (4 + 14 * n + 2) p0) (4 + 14 * n + 3) p1) 0 (nI (n + 1)), past2) := by
      refine zlp_r2 (fun i => nI i) (fun i => pqAz s n 0 i) 14 ?_ ?_ (by omega)
      · intro rec i hi
        have h1 : ¬ (14 : Int32) ≤ nI i := nI_ge (b := 14) hi (by omega)
        simp (disch := omega) only [F_X4_add_L68, h1, ↓reduceIte, pq_puts, Option.bind_some, nI_1, pqAz, Nat.zero_add]
      · intro rec
        have e0 : pqAz s n 0 14 0 = nI n := by rw [pqAz_at, if_neg (by omega), h0]
        simp (disch := omega) only [F_X4_add_L68, show (14 : Int32) ≤ nI 14 by decide, ↓reduceIte, F_X4_add_E93, pq_puts2, pq_puts3, Option.bind_some, pq_rd0, pq_wr0, pk_un, e0, nI_1]
    refine ⟨nI n, sc2, nI (n + 1), upd br n 0, upd pu n p0, upd dr n p1, upd cg n 0, sv2, upd (upd (upd (pqAz s n 0 14) (4 + 14 * n + 2) p0) (4 + 14 * n + 3) p1) 0 (nI (n + 1)), past2, ?_, ?_, ?_, k3⟩
    · have hlt : nI n < (6 : Int32) := nI_lt (b := 6) c (by omega)
      simp (disch := omega) only [t1, u1, Option.bind_some, ↓reduceIte, pq_10, hlt, k1, F_X0_addRelay, pq_wr, nI_1]
    · have hne : ¬ nI n = (6 : Int32) := fun e => by
        have := (nI_eq (a := n) (b := 6) (by omega) (by omega)).mp e
        omega
      simp (disch := omega) only [t2, u2, Option.bind_some, ↓reduceIte, pq_10, F_X4_add_J19, pq_rd0, h0, hne, F_X4_add_J45, pq_ref0, k2]
      exact hz
    · obtain ⟨⟨_, hb⟩, ⟨_, r0, r1, r2⟩, hm, hzz, ⟨x1, x2, x3⟩, ho, hk, hi, ht⟩ := h
      have key : ∀ q, q ≠ 0 → q ≠ 4 + 14 * n + 2 → q ≠ 4 + 14 * n + 3 → upd (upd (upd (pqAz s n 0 14) (4 + 14 * n + 2) p0) (4 + 14 * n + 3) p1) 0 (nI (n + 1)) q = if 4 + 14 * n + 0 ≤ q ∧ q < 4 + 14 * n + 0 + 14 then 0 else s q := fun q q1 q2 q3 => by
        rw [pk_un q1, pk_un q3, pk_un q2, pqAz_at]
      have old : ∀ r, r < n → ∀ i, i < 14 → upd (upd (upd (pqAz s n 0 14) (4 + 14 * n + 2) p0) (4 + 14 * n + 3) p1) 0 (nI (n + 1)) (4 + 14 * r + i) = s (4 + 14 * r + i) := fun r hr i hi => by
        rw [key _ (by omega) (by omega) (by omega), if_neg (by omega)]
      have new : ∀ i, i < 14 → i ≠ 2 → i ≠ 3 → upd (upd (upd (pqAz s n 0 14) (4 + 14 * n + 2) p0) (4 + 14 * n + 3) p1) 0 (nI (n + 1)) (4 + 14 * n + i) = 0 := fun i hi i2 i3 => by
        rw [key _ (by omega) (by omega) (by omega), if_pos (by omega)]
      have low : ∀ q, q < 4 → q ≠ 0 → upd (upd (upd (pqAz s n 0 14) (4 + 14 * n + 2) p0) (4 + 14 * n + 3) p1) 0 (nI (n + 1)) q = s q := fun q q1 q2 => by
        rw [key _ (by omega) (by omega) (by omega), if_neg (by omega)]
      refine ⟨n + 1, pqBu b n 0, rfl, ⟨by omega, fun r hr => ?_⟩, ⟨by omega, pk_us, by rw [low 1 (by omega) (by omega), r1], fun r hr => ?_⟩, fun r hr => ?_, pqZ_up hzz, ⟨by rw [low 2 (by omega) (by omega), x1], by rw [low 3 (by omega) (by omega), x2], fun r hr => ?_⟩, fun r hr k k1 k2 => ?_, fun r hr j hj => ?_, hi, fun r hr => ?_⟩
      · show upd br n 0 r = _ ∧ _
        by_cases z : r = n
        · rw [z, pk_us, pqBu_s]
          exact ⟨rfl, by omega⟩
        · rw [pk_un z, pqBu_n z]
          exact hb r (by omega)
      · show pqBu b n 0 r ≤ 4 ∧ _ = upd pu n p0 r ∧ _ = upd dr n p1 r ∧ _
        by_cases z : r = n
        · subst z
          simp only [pqBu_s]
          refine ⟨by omega, by rw [pk_un (by omega), pk_un (by omega), pk_us, pk_us], by rw [pk_un (by omega), pk_us, pk_us], new 4 (by omega) (by omega) (by omega), fun j hj => absurd hj (Nat.not_lt_zero _)⟩
        · simp only [pqBu_n z]
          obtain ⟨a1, a2, a3, a4, a5⟩ := r2 r (by omega)
          refine ⟨a1, by rw [old r (by omega) 2 (by omega), a2, pk_un z], by rw [old r (by omega) 3 (by omega), a3, pk_un z], by rw [old r (by omega) 4 (by omega), a4], fun j hj => ?_⟩
          rw [old r (by omega) (6 + 2 * j) (by omega), old r (by omega) (6 + 2 * j + 1) (by omega)]
          exact a5 j hj
      · by_cases z : r = n
        · subst z
          rw [new 0 (by omega) (by omega) (by omega), new 1 (by omega) (by omega) (by omega), pqN_0 hzz c, pq_bit (by omega), hzz r (by omega) (Or.inl ⟨c, Nat.le_refl _⟩)]
          exact ⟨rfl, rfl⟩
        · rw [old r (by omega) 0 (by omega), old r (by omega) 1 (by omega)]
          exact hm r (by omega)
      · show _ = upd cg n 0 r
        by_cases z : r = n
        · subst z
          rw [new 5 (by omega) (by omega) (by omega), pk_us]
        · rw [old r (by omega) 5 (by omega), pk_un z]
          exact x3 r (by omega)
      · by_cases z : r = n
        · subst z
          exact new (6 + k) (by omega) (by omega) (by omega)
        · rw [old r (by omega) (6 + k) (by omega)]
          rw [pqBu_n z] at k1
          exact ho r (by omega) k k1 k2
      · by_cases z : r = n
        · rw [z, pqBu_s] at hj
          omega
        · rw [pqBu_n z] at hj
          have := hk r (by omega) j hj
          exact ⟨pqMk_up this.1, pqMk_up this.2⟩
      · show pqTm (upd pu n p0 r) ∧ pqTm (upd dr n p1 r)
        by_cases z : r = n
        · rw [z, pk_us, pk_us]
          exact ⟨T0, T1⟩
        · rw [pk_un z, pk_un z]
          exact ht r (by omega)
  · left
    obtain rfl : n = 6 := by omega
    refine ⟨2, Or.inr rfl, ?_, ?_⟩
    · simp only [t1, u1, Option.bind_some, ↓reduceIte, pq_10, show ¬ nI 6 < (6 : Int32) by decide]
    · simp (disch := omega) only [t2, u2, Option.bind_some, ↓reduceIte, pq_10, F_X4_add_J19, pq_rd0, h0, show nI 6 = (6 : Int32) from rfl, F_X4_add_J45, pq_ref2]
      rfl
