/-! Saved ladders: class and reference side by side. -/
theorem pqLad_cong {n : Nat} {b : Nat → Nat} {br cl op pu dr cg br2 cl2 op2 pu2 dr2 cg2 : Nat → Int32} {inp mot tk ch : Int32} {s s2 : Nat → Int32} (h : pqLad n b br cl op pu dr cg inp mot tk ch s) (h1 : ∀ r, r < 6 → br2 r = br r) (h2 : ∀ q, q < 24 → cl2 q = cl q) (h3 : ∀ q, q < 24 → op2 q = op q) (h4 : ∀ r, r < 6 → pu2 r = pu r) (h5 : ∀ r, r < 6 → dr2 r = dr r) (h6 : ∀ r, r < 6 → cg2 r = cg r) (hs : ∀ q, q < 88 → s2 q = s q) : pqLad n b br2 cl2 op2 pu2 dr2 cg2 inp mot tk ch s2 := by
  obtain ⟨⟨hn, hb⟩, ⟨_, r0, r1, r2⟩, hm, hz, ⟨x1, x2, x3⟩, ho, hk, hi, ht⟩ := h
  refine ⟨⟨hn, fun r hr => ?_⟩, ⟨hn, by rw [hs 0 (by omega), r0], by rw [hs 1 (by omega), r1], fun r hr => ?_⟩, fun r hr => ?_, hz, ⟨by rw [hs 2 (by omega), x1], by rw [hs 3 (by omega), x2], fun r hr => ?_⟩, fun r hr k k1 k2 => ?_, fun r hr j hj => ?_, hi, fun r hr => ?_⟩
  · rw [h1 r (by omega)]
    exact hb r hr
  · obtain ⟨a1, a2, a3, a4, a5⟩ := r2 r hr
    refine ⟨a1, by rw [hs _ (by omega), a2, h4 r (by omega)], by rw [hs _ (by omega), a3, h5 r (by omega)], by rw [hs _ (by omega), a4], fun j hj => ?_⟩
    rw [hs _ (by omega), hs _ (by omega), h2 _ (by omega), h3 _ (by omega)]
    exact a5 j hj
  · rw [hs _ (by omega), hs _ (by omega)]
    exact hm r hr
  · rw [hs _ (by omega), x3 r hr, h6 r (by omega)]
  · rw [hs _ (by omega)]
    exact ho r hr k k1 k2
  · have := (hb r hr).2
    rw [h2 _ (by omega), h3 _ (by omega)]
    exact hk r hr j hj
  · rw [h4 r (by omega), h5 r (by omega)]
    exact ht r hr
def pqLadT (v : LVT) (s : Nat → Int32) : Prop := ∃ n b, v.1 = nI n ∧ pqLad n b v.2.1 v.2.2.1 v.2.2.2.1 v.2.2.2.2.1 v.2.2.2.2.2.1 v.2.2.2.2.2.2.1 v.2.2.2.2.2.2.2.1 v.2.2.2.2.2.2.2.2.1 v.2.2.2.2.2.2.2.2.2.1 v.2.2.2.2.2.2.2.2.2.2 s
theorem pqLadT_cong {v : LVT} {s s2 : Nat → Int32} (h : pqLadT v s) (hs : ∀ q, q < 88 → s2 q = s q) : pqLadT v s2 := by
  obtain ⟨n, b, h1, h2⟩ := h
  exact ⟨n, b, h1, pqLad_cong h2 (fun _ _ => rfl) (fun _ _ => rfl) (fun _ _ => rfl) (fun _ _ => rfl) (fun _ _ => rfl) (fun _ _ => rfl) hs⟩
def pqSaved (sc : Int32) (st : Nat → LVT) (sv : Int32) (past : Nat → Int32) : Prop := ∃ k, k ≤ 6 ∧ sc = nI k ∧ sv = nI k ∧ ∀ i, i < k → pqLadT (st i) (fun q => past (88 * i + q))
theorem pq_cpy {f g : Nat → Int32} {n : Nat} {q : Nat} (h : q < n) : va_cpy f g 0 0 n q = f q := by
  rw [pk_cpy_in (Nat.zero_le _) (by omega), Nat.sub_zero, Nat.zero_add]
theorem pq_zcy {f g : Nat → Int32} {n k : Nat} {z : Int32} (hz : z = nI k) (h1 : k ≤ n) (h2 : n < 2 ^ 31) : zcy f n (0 : Int32) g n (0 : Int32) z = some (va_cpy f g 0 0 k) := by
  subst hz
  unfold zcy
  have e : (0 : Int32).toNatClampNeg = 0 := by decide
  rw [e, nI_clamp (by omega), if_pos ⟨by decide, by decide, nI_pos (by omega), by omega, by omega⟩]
/-- a copy of a ladder: the same in all that counts -/
theorem pq_copy {fu : Nat} (r0 i0 m0 t0 c0 : Int32) (b0 cl0 op0 pu0 dr0 cg0 : Nat → Int32) (r i m t c : Int32) (b cg cl dr op pu : Nat → Int32) : ∃ b2 cl2 op2 pu2 dr2 cg2, F_X0_copyFrom fu r0 i0 m0 t0 c0 b0 cl0 op0 pu0 dr0 cg0 r i m t c b cg cl dr op pu = some (r, i, m, t, c, b2, cl2, op2, pu2, dr2, cg2) ∧ (∀ q, q < 6 → b2 q = b q) ∧ (∀ q, q < 24 → cl2 q = cl q) ∧ (∀ q, q < 24 → op2 q = op q) ∧ (∀ q, q < 6 → pu2 q = pu q) ∧ (∀ q, q < 6 → dr2 q = dr q) ∧ (∀ q, q < 6 → cg2 q = cg q) := by
  unfold F_X0_copyFrom
  have e6 : ∀ (f g : Nat → Int32), zcy f 6 (0 : Int32) g 6 (0 : Int32) (6 : Int32) = some (va_cpy f g 0 0 6) := fun f g => pq_zcy (k := 6) rfl (by omega) (by omega)
  have e24 : ∀ (f g : Nat → Int32), zcy f 24 (0 : Int32) g 24 (0 : Int32) (24 : Int32) = some (va_cpy f g 0 0 24) := fun f g => pq_zcy (k := 24) rfl (by omega) (by omega)
  simp only [e6, e24, Option.bind_some]
  exact ⟨_, _, _, _, _, _, rfl, fun q h => pq_cpy h, fun q h => pq_cpy h, fun q h => pq_cpy h, fun q h => pq_cpy h, fun q h => pq_cpy h, fun q h => pq_cpy h⟩
/-! the reference saves -/
def pqPs (past s : Nat → Int32) (k : Nat) : Nat → Nat → Int32
  | 0 => past
  | i + 1 => upd (pqPs past s k i) (88 * k + i) (s i)
theorem pqPs_at {past s : Nat → Int32} {k q : Nat} : ∀ i, pqPs past s k i q = if 88 * k ≤ q ∧ q < 88 * k + i then s (q - 88 * k) else past q
  | 0 => by
    rw [if_neg (by omega)]
    rfl
  | i + 1 => by
    unfold pqPs
    by_cases c : q = 88 * k + i
    · rw [c, pk_us, if_pos (by omega), show 88 * k + i - 88 * k = i by omega]
    · rw [pk_un c, pqPs_at i]
      by_cases c2 : 88 * k ≤ q ∧ q < 88 * k + i
      · rw [if_pos c2, if_pos (by omega)]
      · rw [if_neg c2, if_neg (by omega)]
def pqPd (past : Nat → Int32) : Nat → Nat → Int32
  | 0 => past
  | i + 1 => upd (pqPd past i) i (pqPd past i (i + 88))
theorem pqPd_at {past : Nat → Int32} {q : Nat} : ∀ i, pqPd past i q = if q < i then past (q + 88) else past q
  | 0 => by
    rw [if_neg (by omega)]
    rfl
  | i + 1 => by
    unfold pqPd
    by_cases c : q = i
    · rw [c, pk_us, if_pos (by omega), pqPd_at i, if_neg (by omega)]
    · rw [pk_un c, pqPd_at i]
      by_cases c2 : q < i
      · rw [if_pos c2, if_pos (by omega)]
      · rw [if_neg c2, if_neg (by omega)]
theorem pq_88k (k i : Nat) : (88 : Int32) * nI k + nI i = nI (88 * k + i) := by rw [show (88 : Int32) = nI 88 from rfl, pk_mul, nI_add]
theorem pq_sv49 {fu k : Nat} {s past : Nat → Int32} (hk : k < 6) (hf : 4096 ≤ fu) : F_X4_saves_J49 fu s (nI k) past = some (nI (k + 1), pqPs past s k 88) := by
  unfold F_X4_saves_J49
  refine zlp_r2 (fun i => nI i) (fun i => pqPs past s k i) 88 ?_ ?_ (by omega)
  · intro rec i hi
    have h1 : ¬ (88 : Int32) ≤ nI i := nI_ge (b := 88) hi (by omega)
    simp (disch := omega) only [F_X4_saves_L51, h1, ↓reduceIte, pq_rd, Option.bind_some, pq_88k, pq_wr, nI_1, pqPs]
  · intro rec
    simp only [F_X4_saves_L51, show (88 : Int32) ≤ nI 88 by decide, ↓reduceIte, F_X4_saves_E83, nI_1]
theorem pq_sv88 (i : Nat) : nI i + (88 : Int32) = nI (i + 88) := nI_add i 88
theorem pq_saves {fu k : Nat} {s past : Nat → Int32} (hk : k ≤ 6) (hf : 4096 ≤ fu) : F_X4_saves fu (nI k) s past = some (if k = 6 then (nI 6, pqPs (pqPd past 440) s 5 88) else (nI (k + 1), pqPs past s k 88)) := by
  unfold F_X4_saves
  by_cases c : k = 6
  · subst c
    rw [if_pos (by rfl), if_pos rfl]
    refine zlp_r2 (fun i => nI i) (fun i => pqPd past i) 440 ?_ ?_ (by omega)
    · intro rec i hi
      have h1 : ¬ (440 : Int32) ≤ nI i := nI_ge (b := 440) hi (by omega)
      simp (disch := omega) only [F_X4_saves_L11, h1, ↓reduceIte, pq_sv88, pq_rd, Option.bind_some, pq_wr, nI_1, pqPd]
    · intro rec
      simp only [F_X4_saves_L11, show (440 : Int32) ≤ nI 440 by decide, ↓reduceIte, F_X4_saves_E39]
      exact pq_sv49 (k := 5) (by omega) hf
  · have hne : ¬ nI k = (6 : Int32) := fun e => c ((nI_eq (a := k) (b := 6) (by omega) (by omega)).mp e)
    rw [if_neg c, if_neg hne]
    exact pq_sv49 (by omega) hf
/-! both save -/
theorem pq_sj13 {fu n k : Nat} {b : Nat → Nat} {br cl op pu dr cg : Nat → Int32} {inp mot tk ch rk ck : Int32} {s past : Nat → Int32} {sv : SVT} (h : pqLad n b br cl op pu dr cg inp mot tk ch s) (hk : k < 6) (hS : ∀ i, i < k → pqLadT (sv.2 i) (fun q => past (88 * i + q))) : ∃ sv2, F_X3_save_J13 fu ck br cg ch cl dr inp mot op pu (nI n) tk rk (nI k) sv = some (nI (k + 1), 0, 0, sv2) ∧ ∀ i, i < k + 1 → pqLadT (sv2.2 i) (fun q => pqPs past s k 88 (88 * i + q)) := by
  unfold F_X3_save_J13
  have e : zsx (nI k) = some k := by
    unfold zsx
    rw [nI_toInt (by omega), nI_clamp (by omega), if_pos ⟨by omega, by omega⟩]
  rw [e, Option.bind_some]
  obtain ⟨b2, cl2, op2, pu2, dr2, cg2, ec, q1, q2, q3, q4, q5, q6⟩ := pq_copy (fu := fu) (sv.2 k).1 (sv.2 k).2.2.2.2.2.2.2.1 (sv.2 k).2.2.2.2.2.2.2.2.1 (sv.2 k).2.2.2.2.2.2.2.2.2.1 (sv.2 k).2.2.2.2.2.2.2.2.2.2 (sv.2 k).2.1 (sv.2 k).2.2.1 (sv.2 k).2.2.2.1 (sv.2 k).2.2.2.2.1 (sv.2 k).2.2.2.2.2.1 (sv.2 k).2.2.2.2.2.2.1 (nI n) inp mot tk ch br cg cl dr op pu
  rw [ec, Option.bind_some]
  refine ⟨zput sv k (nI n, b2, cl2, op2, pu2, dr2, cg2, inp, mot, tk, ch), by simp only [F_X3_forgetAnswers, Option.bind_some, nI_1], fun i hi => ?_⟩
  by_cases c : i = k
  · subst c
    refine ⟨n, b, ?_, ?_⟩
    · show (if i = i then _ else sv.2 i).1 = nI n
      rw [if_pos rfl]
    · have hst : (zput sv i (nI n, b2, cl2, op2, pu2, dr2, cg2, inp, mot, tk, ch)).2 i = (nI n, b2, cl2, op2, pu2, dr2, cg2, inp, mot, tk, ch) := if_pos rfl
      rw [hst]
      exact pqLad_cong h q1 q2 q3 q4 q5 q6 (fun q hq => by rw [pqPs_at, if_pos (by omega), show 88 * i + q - 88 * i = q by omega])
  · have hst : (zput sv k (nI n, b2, cl2, op2, pu2, dr2, cg2, inp, mot, tk, ch)).2 i = sv.2 i := if_neg c
    show pqLadT ((zput sv k (nI n, b2, cl2, op2, pu2, dr2, cg2, inp, mot, tk, ch)).2 i) _
    rw [hst]
    exact pqLadT_cong (hS i (by omega)) (fun q hq => by rw [pqPs_at, if_neg (by omega)])
theorem pq_save {fu n : Nat} {b : Nat → Nat} {br cl op pu dr cg : Nat → Int32} {inp mot tk ch rk ck sc rs : Int32} {s past : Nat → Int32} {sv : SVT} (h : pqLad n b br cl op pu dr cg inp mot tk ch s) (hS : pqSaved sc sv.2 rs past) (hf : 4096 ≤ fu) : ∃ sc2 sv2 past2, F_X3_save fu sc rk ck (nI n) inp mot tk ch br cl op pu dr cg sv = some (sc2, 0, 0, sv2) ∧ F_X4_saves fu rs s past = some (sc2, past2) ∧ pqSaved sc2 sv2.2 sc2 past2 := by
  obtain ⟨k, hk, rfl, rfl, hL⟩ := hS
  rw [pq_saves hk hf]
  unfold F_X3_save
  by_cases c : k = 6
  · subst c
    rw [if_neg (by decide), if_pos rfl]
    unfold F_X3_dropOldestSaved
    rw [Option.bind_some]
    obtain ⟨sv2, e1, e2⟩ := pq_sj13 (fu := fu) (k := 5) (past := pqPd past 440) (sv := zrot sv) (rk := rk) (ck := ck) h (by omega) (fun i hi => by
      have e : (zrot sv).2 i = sv.2 (i + 1) := if_neg (by omega)
      rw [e]
      exact pqLadT_cong (hL (i + 1) (by omega)) (fun q hq => by rw [pqPd_at, if_pos (by omega), show 88 * i + q + 88 = 88 * (i + 1) + q by omega]))
    exact ⟨nI 6, sv2, _, e1, rfl, 6, Nat.le_refl _, rfl, rfl, e2⟩
  · have hlt : nI k < (6 : Int32) := nI_lt (b := 6) (by omega) (by omega)
    rw [if_pos hlt, if_neg c]
    obtain ⟨sv2, e1, e2⟩ := pq_sj13 (fu := fu) (k := k) (past := past) (sv := sv) (rk := rk) (ck := ck) h (by omega) hL
    exact ⟨nI (k + 1), sv2, _, e1, rfl, k + 1, by omega, rfl, rfl, e2⟩
