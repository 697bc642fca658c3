/-! From the first state to the last: class and reference side by side. -/
/-- the rests among the first f states, as bits -/
def pqRb (n : Nat) (b : Nat → Nat) (cl op : Nat → Int32) (inp : Int32) (f : Nat) (met : Nat → Int32) (R : Nat) : Prop := R < 2 ^ 64 ∧ ∀ u, u < 64 → (R.testBit u = true ↔ ∃ k, k < f ∧ pqU n b cl op inp (met k) = 0 ∧ met k &&& (63 : Int32) = nI u)
theorem pq_setL {R u : Nat} (hR : R < 2 ^ 64) (hu : u < 64) : lN R ||| ((1 : Int64) <<< ((nI u).toInt64 &&& 63)) = lN (R ||| 2 ^ u) := by
  have e := wb_shl 1 hu
  rw [Nat.one_mul] at e
  rw [show (1 : Int64) = lN 1 from rfl, e]
  exact wb_or hR (Nat.pow_lt_pow_right (by decide) hu)
theorem pqRb_step {n f : Nat} {b : Nat → Nat} {cl op met met2 : Nat → Int32} {inp : Int32} {R : Nat} (h : pqRb n b cl op inp f met R) (hm : ∀ k, k ≤ f → met2 k = met k) : ∃ R2, (if pqU n b cl op inp (met f) = 0 then lN R ||| ((1 : Int64) <<< ((met f &&& (63 : Int32)).toInt64 &&& 63)) else lN R) = lN R2 ∧ pqRb n b cl op inp (f + 1) met2 R2 := by
  obtain ⟨hR, hb⟩ := h
  obtain ⟨u, hu, eu⟩ := pk_andE (met f) (m := (63 : Int32)) 6 (by decide)
  have hu : u < 64 := hu
  by_cases q : pqU n b cl op inp (met f) = 0
  · refine ⟨R ||| 2 ^ u, ?_, Nat.or_lt_two_pow hR (Nat.pow_lt_pow_right (by decide) hu), fun v hv => ?_⟩
    · rw [if_pos q, eu]
      exact pq_setL hR hu
    · rw [fb_bit_set, Bool.or_eq_true, hb v hv, decide_eq_true_iff]
      constructor
      · rintro (⟨k, k1, k2, k3⟩ | rfl)
        · exact ⟨k, by omega, by rw [hm k (by omega)]; exact k2, by rw [hm k (by omega)]; exact k3⟩
        · exact ⟨f, by omega, by rw [hm f (Nat.le_refl _)]; exact q, by rw [hm f (Nat.le_refl _)]; exact eu⟩
      · rintro ⟨k, k1, k2, k3⟩
        rw [hm k (by omega)] at k2 k3
        rcases Nat.lt_or_ge k f with c | c
        · exact Or.inl ⟨k, c, k2, k3⟩
        · obtain rfl : k = f := by omega
          rw [eu, nI_eq (by omega) (by omega)] at k3
          exact Or.inr k3.symm
  · refine ⟨R, by rw [if_neg q], hR, fun v hv => ?_⟩
    rw [hb v hv]
    constructor
    · rintro ⟨k, k1, k2, k3⟩
      exact ⟨k, by omega, by rw [hm k (by omega)]; exact k2, by rw [hm k (by omega)]; exact k3⟩
    · rintro ⟨k, k1, k2, k3⟩
      rw [hm k (by omega)] at k2 k3
      rcases Nat.lt_or_ge k f with c | c
      · exact ⟨k, c, k2, k3⟩
      · obtain rfl : k = f := by omega
        exact absurd k2 q
theorem pq_loop {fu n : Nat} {b : Nat → Nat} {br cl op pu dr s arr freed : Nat → Int32} {inp iw lr mr re : Int32} (hb : pqB n b br) (hR : pqR n b cl op pu dr inp s) (hf : 4096 ≤ fu) : ∀ (j f : Nat), f + j = 300 → ∀ (y : pqYT) (w : pqWT) (R : Nat) (cal : Nat → Int32) (c0 d0 : Int32), pqTo (fun _ c => pqZ n c) f y w → pqRb n b cl op inp f y.2.2.1 R → pqCa n b cl op inp cal → ∀ fc fr, j + 1 < fc → j + 1 < fr → ∃ (y2 : pqYT) (w2 : pqWT) (R2 : Nat) (cal2 : Nat → Int32) (c1 d1 v5 v6 : Int32), zlp9 (F_X2_lookFrom_L50 fu br cl dr inp op pu (nI n) (F_X2_lookFrom_E84 fu arr freed)) fc (nI f) (lN R) y.1 y.2.1 y.2.2.1 y.2.2.2.1 y.2.2.2.2.1 y.2.2.2.2.2 cal = F_X2_lookFrom_E84 fu arr freed v5 (lN R2) y2.1 y2.2.1 y2.2.2.1 y2.2.2.2.1 y2.2.2.2.2.1 y2.2.2.2.2.2 cal2 ∧ zlp9 (F_X4_races_s_L38 fu s (F_X4_races_s_E68 fu iw lr mr re s)) fr (nI f) c0 d0 w.1 w.2.1 w.2.2.1 w.2.2.2.1 w.2.2.2.2.1 w.2.2.2.2.2 = F_X4_races_s_E68 fu iw lr mr re s v6 c1 d1 w2.1 w2.2.1 w2.2.2.1 w2.2.2.2.1 w2.2.2.2.2.1 w2.2.2.2.2.2 ∧ ((∃ m, y2.1 = nI m ∧ pqTo (fun _ c => pqZ n c) m y2 w2 ∧ pqRb n b cl op inp m y2.2.2.1 R2) ∨ pqEnd y2 w2) := by
  intro j
  induction j with
  | zero =>
    intro f hfj y w R cal c0 d0 hT hRb hc fc fr h1 h2
    obtain ⟨m, o, tg, a1, a2, a3, hS⟩ := id hT
    obtain rfl : m = f := by
      have := hS.1
      have := hS.2.1
      omega
    obtain ⟨fc, rfl⟩ : ∃ q, fc = q + 1 := ⟨fc - 1, by omega⟩
    obtain ⟨fr, rfl⟩ : ∃ q, fr = q + 1 := ⟨fr - 1, by omega⟩
    refine ⟨y, w, R, cal, c0, d0, nI m, nI m, ?_, ?_, Or.inl ⟨m, a1, hT, hRb⟩⟩
    · rw [zlp_s9]
      simp only [F_X2_lookFrom_L50, a2, pq_10, a1, Int32.le_refl, ↓reduceIte]
    · rw [zlp_s9]
      simp only [F_X4_races_s_L38, a3, Int32.le_refl, ↓reduceIte]
  | succ j ih =>
    intro f hfj y w R cal c0 d0 hT hRb hc fc fr h1 h2
    obtain ⟨m, o, tg, a1, a2, a3, hS⟩ := id hT
    have hm := hS.1
    have hfm := hS.2.1
    obtain ⟨fc, rfl⟩ : ∃ q, fc = q + 1 := ⟨fc - 1, by omega⟩
    obtain ⟨fr, rfl⟩ : ∃ q, fr = q + 1 := ⟨fr - 1, by omega⟩
    rcases Nat.lt_or_ge f m with c | c
    · obtain ⟨y2, w2, c1, d1, cal2, g1, g2, g3, g4⟩ := pq_goOn (fu := fu) (c0 := c0) (d0 := d0) (rests := lN R) hb hR hT a1 hm c hc hf
      have hcl : zlp9 (F_X2_lookFrom_L50 fu br cl dr inp op pu (nI n) (F_X2_lookFrom_E84 fu arr freed)) (fc + 1) (nI f) (lN R) y.1 y.2.1 y.2.2.1 y.2.2.2.1 y.2.2.2.2.1 y.2.2.2.2.2 cal = zlp9 (F_X2_lookFrom_L50 fu br cl dr inp op pu (nI n) (F_X2_lookFrom_E84 fu arr freed)) fc (nI (f + 1)) (if pqU n b cl op inp (y.2.2.1 f) = 0 then lN R ||| ((1 : Int64) <<< ((y.2.2.1 f &&& (63 : Int32)).toInt64 &&& 63)) else lN R) y2.1 y2.2.1 y2.2.2.1 y2.2.2.2.1 y2.2.2.2.2.1 y2.2.2.2.2.2 cal2 := by
        have h300 : ¬ (300 : Int32) ≤ nI f := nI_ge (b := 300) (by omega) (by omega)
        rw [zlp_s9, F_X2_lookFrom_L50, if_neg (by rw [a2]; exact pq_10), if_neg (by rw [a1]; exact nI_ge c (by omega)), if_neg h300, g1, Option.bind_some, nI_1]
      have hrf : zlp9 (F_X4_races_s_L38 fu s (F_X4_races_s_E68 fu iw lr mr re s)) (fr + 1) (nI f) c0 d0 w.1 w.2.1 w.2.2.1 w.2.2.2.1 w.2.2.2.2.1 w.2.2.2.2.2 = zlp9 (F_X4_races_s_L38 fu s (F_X4_races_s_E68 fu iw lr mr re s)) fr (nI (f + 1)) c1 d1 w2.1 w2.2.1 w2.2.2.1 w2.2.2.2.1 w2.2.2.2.2.1 w2.2.2.2.2.2 := by
        rw [zlp_s9, F_X4_races_s_L38, if_neg (by rw [a3]; exact nI_ge c (by omega)), if_neg (by rw [a3]; exact pq_300n hm), g2, Option.bind_some, nI_1]
      rw [hcl, hrf]
      rcases g4 with ⟨g4, g5⟩ | ⟨q1, q2⟩
      · obtain ⟨R2, e2, hRb2⟩ := pqRb_step hRb g5
        rw [e2]
        exact ih (f + 1) (by omega) y2 w2 R2 cal2 c1 d1 g4 hRb2 g3 fc fr (by omega) (by omega)
      · obtain ⟨R2, e2, _⟩ := pqRb_step hRb (fun k _ => rfl)
        rw [e2]
        obtain ⟨fc, rfl⟩ : ∃ q, fc = q + 1 := ⟨fc - 1, by omega⟩
        obtain ⟨fr, rfl⟩ : ∃ q, fr = q + 1 := ⟨fr - 1, by omega⟩
        refine ⟨y2, w2, R2, cal2, c1, d1, nI (f + 1), nI (f + 1), ?_, ?_, Or.inr ⟨q1, q2⟩⟩
        · rw [zlp_s9]
          simp only [F_X2_lookFrom_L50, q1, ↓reduceIte]
        · rw [zlp_s9, F_X4_races_s_L38, if_neg (by rw [q2]; exact nI_ge (by omega) (by omega)), if_pos (by rw [q2]; decide)]
    · obtain rfl : m = f := by omega
      refine ⟨y, w, R, cal, c0, d0, nI m, nI m, ?_, ?_, Or.inl ⟨m, a1, hT, hRb⟩⟩
      · rw [zlp_s9]
        simp only [F_X2_lookFrom_L50, a2, pq_10, a1, Int32.le_refl, ↓reduceIte]
      · rw [zlp_s9]
        simp only [F_X4_races_s_L38, a3, Int32.le_refl, ↓reduceIte]
/-! whether some way goes round -/
theorem pq_fillA {fu N : Nat} {a : Nat → Int32} {x : Int32} (hN : N < 4096) (hf : 4096 ≤ fu) : ∃ g, F_J7_fill_53178 fu a N x = some g ∧ ∀ i, i < N → g i = x := by
  unfold F_J7_fill_53178
  refine zlp_t2 (Q := fun (o : Option (Nat → Int32)) => ∃ g, o = some g ∧ ∀ i, i < N → g i = x) N (fun (i : Nat) (a1 : Int32) (a2 : Nat → Int32) => a1 = nI i ∧ ∀ k, k < i → a2 k = x) ?_ (by omega) _ _ ⟨rfl, fun k z => absurd z (Nat.not_lt_zero _)⟩
  rintro rec i hi hrec a1 a2 ⟨rfl, h2⟩
  have e : Int32.ofNat N = nI N := rfl
  rcases Nat.lt_or_ge i N with c | c
  · simp (disch := omega) only [F_J7_fill_53178_L5, e, nI_leI, show ¬ N ≤ i by omega, ↓reduceIte, pq_wr, Option.bind_some, nI_1]
    refine hrec c _ _ ⟨rfl, fun k hk => ?_⟩
    by_cases z : k = i
    · rw [z, pk_us]
    · rw [pk_un z]
      exact h2 k (by omega)
  · obtain rfl : i = N := by omega
    simp (disch := omega) only [F_J7_fill_53178_L5, e, nI_leI, Nat.le_refl, ↓reduceIte, F_J7_fill_53178_E20]
    exact ⟨_, rfl, h2⟩
theorem pqEc_end {o : Nat → Nat} {tg : Nat → Nat → Nat} {t m : Nat} (h : ∀ g, m ≤ g → o g = 0) : ∀ k, pqEc o tg t (m + k) = pqEc o tg t m
  | 0 => rfl
  | k + 1 => by
    have ih := pqEc_end (tg := tg) (t := t) h k
    unfold pqEc at ih ⊢
    show fb_sm _ (m + k) + fb_ct _ (o (m + k)) = _
    rw [ih, h (m + k) (by omega)]
    rfl
theorem pqEc_succ {o : Nat → Nat} {tg : Nat → Nat → Nat} {t N : Nat} : pqEc o tg t (N + 1) = pqEc o tg t N + fb_ct (fun k => decide (tg N k = t)) (o N) := rfl
theorem pqEc_le {o : Nat → Nat} {tg : Nat → Nat → Nat} {t : Nat} (h : ∀ g, o g ≤ 7) (N : Nat) : pqEc o tg t N ≤ N * 7 := fb_sm_bound (fun k _ => Nat.le_trans (fb_ct_le _ _) (h k))
theorem pq_arrive {fu m : Nat} {o : Nat → Nat} {tg : Nat → Nat → Nat} {outs out arr : Nat → Int32} (hm : m ≤ 300) (h1 : ∀ g, g < m → outs g = nI (o g)) (h2 : ∀ g, o g ≤ 7) (h3 : ∀ g, g < m → ∀ k, k < o g → tg g k < m ∧ out (7 * g + k) = nI (tg g k)) (hf : 4096 ≤ fu) : ∃ A, F_X2_countArrivals fu (nI m) outs out arr = some A ∧ ∀ t, t < m → A t = nI (pqEc o tg t m) := by
  obtain ⟨A0, e0, hA0⟩ := pq_fillA (fu := fu) (N := 300) (a := arr) (x := 0) (by omega) hf
  unfold F_X2_countArrivals
  rw [e0, Option.bind_some]
  refine zlp_t2 (Q := fun (q : Option (Nat → Int32)) => ∃ A, q = some A ∧ ∀ t, t < m → A t = nI (pqEc o tg t m)) m (fun (i : Nat) (a1 : Int32) (a2 : Nat → Int32) => a1 = nI i ∧ ∀ t, t < m → a2 t = nI (pqEc o tg t i)) ?_ (by omega) _ _ ⟨rfl, fun t ht => by rw [hA0 t (by omega)]; rfl⟩
  rintro rec i hi hrec a1 a2 ⟨rfl, hA⟩
  rcases Nat.lt_or_ge i m with c | c
  · simp (disch := omega) only [F_X2_countArrivals_L10, nI_leI, show ¬ m ≤ i by omega, ↓reduceIte]
    have h7 := h2 i
    refine zlp_t2 (Q := fun (q : Option (Nat → Int32)) => ∃ A, q = some A ∧ ∀ t, t < m → A t = nI (pqEc o tg t m)) (o i) (fun (k : Nat) (b1 : Int32) (b2 : Nat → Int32) => b1 = nI k ∧ ∀ t, t < m → b2 t = nI (pqEc o tg t i + fb_ct (fun q => decide (tg i q = t)) k)) ?_ (by omega) _ _ ⟨rfl, fun t ht => hA t ht⟩
    rintro rec2 k hk hrec2 b1 b2 ⟨rfl, hB⟩
    rcases Nat.lt_or_ge k (o i) with ck | ck
    · obtain ⟨t1, t2⟩ := h3 i c k ck
      simp (disch := omega) only [F_X2_countArrivals_L20, pq_rd, h1 i c, Option.bind_some, nI_leI, show ¬ o i ≤ k by omega, ↓reduceIte, pq_f7, t2, pq_wr, nI_1]
      refine hrec2 ck _ _ ⟨rfl, fun t ht => ?_⟩
      rw [fb_ct_succ]
      by_cases z : t = tg i k
      · subst z
        rw [pk_us, hB _ ht, nI_1, decide_eq_true rfl]
        rfl
      · rw [pk_un z, hB t ht, decide_eq_false (fun q => z q.symm)]
        rfl
    · obtain rfl : k = o i := by omega
      simp (disch := omega) only [F_X2_countArrivals_L20, pq_rd, h1 i c, Option.bind_some, nI_leI, Nat.le_refl, ↓reduceIte, F_X2_countArrivals_E56, nI_1]
      exact hrec c _ _ ⟨rfl, fun t ht => by rw [hB t ht, pqEc_succ]⟩
  · obtain rfl : i = m := by omega
    simp (disch := omega) only [F_X2_countArrivals_L10, nI_leI, Nat.le_refl, ↓reduceIte, F_X2_countArrivals_E62]
    exact ⟨_, rfl, hA⟩
