/-! All ways from a state: class and reference side by side. -/
/-- how many ways come to t, of those from the first N states -/
def pqEc (o : Nat → Nat) (tg : Nat → Nat → Nat) (t N : Nat) : Nat := fb_sm (fun g => fb_ct (fun k => decide (tg g k = t)) (o g)) N
def pqE (m f : Nat) (o : Nat → Nat) (tg : Nat → Nat → Nat) (metC outs out metR ways wof into : Nat → Int32) : Prop :=
  (∀ k, k < m → metC k = metR k) ∧ (∀ g, g < f → outs g = nI (o g)) ∧ (∀ g, g < m → wof g = nI (o g)) ∧ (∀ g, f ≤ g → o g = 0) ∧ (∀ g, o g ≤ 7) ∧
  (∀ g, g < f → ∀ k, k < o g → tg g k < m ∧ out (7 * g + k) = nI (tg g k) ∧ ways (7 * g + k) = nI (tg g k)) ∧ (∀ t, t < m → into t = nI (pqEc o tg t 301)) ∧ (∀ g, g < f → ∀ k, k < o g → tg g k < m)
def pqSy (P : Nat → Int32 → Prop) (m f : Nat) (o : Nat → Nat) (tg : Nat → Nat → Nat) (metC slots outs out metR table ways wof into : Nat → Int32) : Prop :=
  m ≤ 300 ∧ f ≤ m ∧ pqHt 512 pqH1 slots metC m ∧ pqHt 1024 pqH2 table metR m ∧ pqE m f o tg metC outs out metR ways wof into ∧ ∀ k, k < m → P k (metC k)
abbrev pqYT : Type := Int32 × Int32 × (Nat → Int32) × (Nat → Int32) × (Nat → Int32) × (Nat → Int32)
abbrev pqWT : Type := Int32 × (Nat → Int32) × (Nat → Int32) × (Nat → Int32) × (Nat → Int32) × (Nat → Int32)
/-- state f is gone on from; c ways from it at most so far -/
def pqIn (P : Nat → Int32 → Prop) (f c : Nat) (y : pqYT) (w : pqWT) : Prop := ∃ m o tg, y.1 = nI m ∧ y.2.1 = 1 ∧ w.1 = nI m ∧ o f ≤ c ∧ pqSy P m (f + 1) o tg y.2.2.1 y.2.2.2.1 y.2.2.2.2.1 y.2.2.2.2.2 w.2.1 w.2.2.1 w.2.2.2.1 w.2.2.2.2.1 w.2.2.2.2.2
def pqOv (f : Nat) (y : pqYT) (w : pqWT) : Prop := y.1 = nI 300 ∧ y.2.1 = 0 ∧ pqHt 512 pqH1 y.2.2.2.1 y.2.2.1 300 ∧ (∃ c, c ≤ 7 ∧ y.2.2.2.2.1 f = nI c) ∧ w.1 = nI 301
theorem pqEc_out {o : Nat → Nat} {tg : Nat → Nat → Nat} {t N : Nat} (h : ∀ g, g < N → ∀ k, k < o g → tg g k ≠ t) : pqEc o tg t N = 0 := by
  unfold pqEc
  induction N with
  | zero => rfl
  | succ N ih =>
    rw [fb_sm_succ, ih (fun g hg => h g (by omega)), Nat.zero_add]
    exact fb_ct_zero.mpr (fun k hk => decide_eq_false (h N (by omega) k hk))
def pqO2 (o : Nat → Nat) (f g : Nat) : Nat := if g = f then o f + 1 else o g
def pqT2 (o : Nat → Nat) (tg : Nat → Nat → Nat) (f v g k : Nat) : Nat := if g = f ∧ k = o f then v else tg g k
theorem pqO2_s {o : Nat → Nat} {f : Nat} : pqO2 o f f = o f + 1 := if_pos rfl
theorem pqO2_n {o : Nat → Nat} {f g : Nat} (h : ¬ g = f) : pqO2 o f g = o g := if_neg h
theorem pqT2_s {o : Nat → Nat} {tg : Nat → Nat → Nat} {f v : Nat} : pqT2 o tg f v f (o f) = v := if_pos ⟨rfl, rfl⟩
theorem pqT2_n {o : Nat → Nat} {tg : Nat → Nat → Nat} {f v g k : Nat} (h : ¬ (g = f ∧ k = o f)) : pqT2 o tg f v g k = tg g k := if_neg h
theorem pqEc_up {o : Nat → Nat} {tg : Nat → Nat → Nat} {t f v N : Nat} (hf : f < N) : pqEc (pqO2 o f) (pqT2 o tg f v) t N = pqEc o tg t N + (if v = t then 1 else 0) := by
  unfold pqEc
  have h1 : fb_ct (fun k => decide (pqT2 o tg f v f k = t)) (o f + 1) = fb_ct (fun k => decide (tg f k = t)) (o f) + (if v = t then 1 else 0) := by
    rw [fb_ct_succ]
    have e : fb_ct (fun k => decide (pqT2 o tg f v f k = t)) (o f) = fb_ct (fun k => decide (tg f k = t)) (o f) := fb_ct_cong (fun k hk => by
      rw [pqT2_n (fun z => by omega)])
    rw [e, pqT2_s]
    by_cases c : v = t
    · rw [if_pos c, if_pos (decide_eq_true c)]
    · rw [if_neg c, if_neg (by rw [decide_eq_false c]; decide)]
  have h2 : fb_sm (fun g => if g = f then (fb_ct (fun k => decide (tg f k = t)) (o f) + (if v = t then 1 else 0)) else fb_ct (fun k => decide (tg g k = t)) (o g)) N + fb_ct (fun k => decide (tg f k = t)) (o f) = fb_sm (fun g => fb_ct (fun k => decide (tg g k = t)) (o g)) N + (fb_ct (fun k => decide (tg f k = t)) (o f) + (if v = t then 1 else 0)) := fb_sm_upd (fun g => fb_ct (fun k => decide (tg g k = t)) (o g)) (fb_ct (fun k => decide (tg f k = t)) (o f) + (if v = t then 1 else 0)) hf
  have h3 : fb_sm (fun g => fb_ct (fun k => decide (pqT2 o tg f v g k = t)) (pqO2 o f g)) N = fb_sm (fun g => if g = f then (fb_ct (fun k => decide (tg f k = t)) (o f) + (if v = t then 1 else 0)) else fb_ct (fun k => decide (tg g k = t)) (o g)) N := by
    apply fb_sm_cong
    intro g hg
    by_cases c : g = f
    · subst c
      rw [if_pos rfl, pqO2_s]
      exact h1
    · rw [if_neg c, pqO2_n c]
      exact fb_ct_cong (fun k hk => by rw [pqT2_n (fun z => c z.1)])
  rw [h3]
  omega
theorem pq_f7 (f o : Nat) : nI f * (7 : Int32) + nI o = nI (7 * f + o) := by rw [show (7 : Int32) = nI 7 from rfl, pk_mul, nI_add, Nat.mul_comm]
theorem pq_7f (f o : Nat) : (7 : Int32) * nI f + nI o = nI (7 * f + o) := by rw [show (7 : Int32) = nI 7 from rfl, pk_mul, nI_add]
theorem pq_7le {o : Nat} (h : o < 7) : ¬ (7 : Int32) ≤ nI o := nI_ge (b := 7) h (by omega)
theorem pq_300n {m : Nat} (h : m ≤ 300) : ¬ (300 : Int32) < nI m := nI_nlt (a := 300) h (by omega)
theorem pq_300l {m : Nat} (h : m < 300) : nI m < (300 : Int32) := nI_lt (b := 300) h (by omega)
/-- one way more, where both know its end -/
theorem pq_edge {m m2 f v : Nat} {o : Nat → Nat} {tg : Nat → Nat → Nat} {metC metC2 outs out metR metR2 ways wof wof2 into into2 : Nat → Int32} (hE : pqE m (f + 1) o tg metC outs out metR ways wof into) (hm : m ≤ m2) (hfm : f < m) (hm2 : m2 ≤ 301) (hv : v < m2) (ho : o f < 7) (h1 : ∀ k, k < m2 → metC2 k = metR2 k) (h2 : ∀ g, g < m → wof2 g = wof g) (h3 : ∀ g, m ≤ g → g < m2 → wof2 g = 0) (h4 : ∀ g, g < m → into2 g = into g) (h5 : ∀ g, m ≤ g → g < m2 → into2 g = 0) : pqE m2 (f + 1) (pqO2 o f) (pqT2 o tg f v) metC2 (upd outs f (nI (o f + 1))) (upd out (7 * f + o f) (nI v)) metR2 (upd ways (7 * f + o f) (nI v)) (upd wof2 f (nI (o f + 1))) (upd into2 v (into2 v + 1)) := by
  obtain ⟨e1, e2, e3, e4, e5, e6, e7, e8⟩ := hE
  refine ⟨h1, fun g hg => ?_, fun g hg => ?_, fun g hg => ?_, fun g => ?_, fun g hg k hk => ?_, fun t ht => ?_, fun g hg k hk => ?_⟩
  · by_cases c : g = f
    · rw [c, pk_us, pqO2_s]
    · rw [pk_un c, pqO2_n c]
      exact e2 g hg
  · by_cases c : g = f
    · rw [c, pk_us, pqO2_s]
    · rw [pk_un c, pqO2_n c]
      rcases Nat.lt_or_ge g m with z | z
      · rw [h2 g z]
        exact e3 g z
      · rw [h3 g z hg, e4 g (by omega)]
        rfl
  · rw [pqO2_n (by omega)]
    exact e4 g hg
  · have := e5 g
    unfold pqO2
    split <;> omega
  · by_cases c : g = f
    · subst c
      rw [pqO2_s] at hk
      by_cases c2 : k = o g
      · rw [c2, pqT2_s, pk_us, pk_us]
        exact ⟨hv, rfl, rfl⟩
      · rw [pqT2_n (fun z => c2 z.2), pk_un (by omega), pk_un (by omega)]
        have := e6 g hg k (by omega)
        exact ⟨by omega, this.2.1, this.2.2⟩
    · rw [pqO2_n c] at hk
      have h7 := e5 g
      rw [pqT2_n (fun z => c z.1), pk_un (by omega), pk_un (by omega)]
      have := e6 g hg k hk
      exact ⟨by omega, this.2.1, this.2.2⟩
  · rw [pqEc_up (by omega)]
    have hold : into2 t = nI (pqEc o tg t 301) := by
      rcases Nat.lt_or_ge t m with z | z
      · rw [h4 t z]
        exact e7 t z
      · rw [h5 t z ht, pqEc_out (fun g hg k hk => by
          rcases Nat.lt_or_ge g (f + 1) with y | y
          · have := e8 g y k hk
            omega
          · rw [e4 g y] at hk
            omega)]
        rfl
    by_cases c : v = t
    · subst c
      rw [pk_us, if_pos rfl, hold, nI_1]
    · rw [pk_un (fun z => c z.symm), if_neg c, hold, Nat.add_zero]
  · by_cases c : g = f
    · subst c
      rw [pqO2_s] at hk
      by_cases c2 : k = o g
      · rw [c2, pqT2_s]
        exact hv
      · rw [pqT2_n (fun z => c2 z.2)]
        have := e8 g hg k (by omega)
        omega
    · rw [pqO2_n c] at hk
      rw [pqT2_n (fun z => c z.1)]
      have := e8 g hg k hk
      omega
theorem pq_J25 {f c p : Nat} {out outs slots met : Nat → Int32} {st told v : Int32} (hf : f < 300) (hp : p < 512) (ho : outs f = nI c) (hc : c < 7) (hv : slots p = v) : F_X2_goTo_J25 out outs (nI f) (nI p) st told met slots = some (st, told, met, slots, upd outs f (nI (c + 1)), upd out (7 * f + c) (v - 1)) := by
  simp (disch := omega) only [F_X2_goTo_J25, pq_rd, ho, Option.bind_some, pq_7le, ↓reduceIte, hv, pq_f7, pq_wr, nI_1]
theorem pq_goOv {fu f : Nat} {code : Int32} {y : pqYT} {w : pqWT} (h : pqOv f y w) (hf3 : f < 300) (hf : 4096 ≤ fu) : ∃ y2 w2, F_X2_goTo fu y.1 y.2.1 y.2.2.1 y.2.2.2.1 y.2.2.2.2.1 y.2.2.2.2.2 (nI f) code = some y2 ∧ F_X4_laysWay fu w.1 w.2.1 w.2.2.1 w.2.2.2.1 w.2.2.2.2.1 w.2.2.2.2.2 (nI f) code = some w2 ∧ pqOv f y2 w2 := by
  obtain ⟨y1, y2, y3, y4, y5, y6⟩ := y
  obtain ⟨w1, w2, w3, w4, w5, w6⟩ := w
  obtain ⟨h1, h2, h3, ⟨c, hc, h4⟩, h5⟩ := h
  simp only at h1 h2 h3 h4 h5 ⊢
  subst h1 h2 h5
  have hlay : F_X4_laysWay fu (nI 301) w2 w3 w4 w5 w6 (nI f) code = some (nI 301, w2, w3, w4, w5, w6) := by
    unfold F_X4_laysWay
    rw [if_pos (by decide)]
  rw [hlay]
  obtain ⟨e, he, e1, e2, e3⟩ := pq_slotOf (fu := fu) h3 (by omega) hf code
  have hP : (pqH1 code + e) % 512 < 512 := Nat.mod_lt _ (by omega)
  unfold F_X2_goTo
  rw [e1, Option.bind_some, pq_rd hP (by omega), Option.bind_some]
  by_cases z : y4 ((pqH1 code + e) % 512) = 0
  · rw [if_pos z]
    simp only [F_X2_meet, show ¬ nI 300 < (300 : Int32) by decide, ↓reduceIte, Option.bind_some]
    exact ⟨_, _, rfl, rfl, rfl, rfl, h3, ⟨c, hc, h4⟩, rfl⟩
  · rw [if_neg z]
    rcases Nat.lt_or_ge c 7 with c7 | c7
    · rw [pq_J25 hf3 hP h4 c7 rfl]
      exact ⟨_, _, rfl, rfl, rfl, rfl, h3, ⟨c + 1, by omega, pk_us⟩, rfl⟩
    · obtain rfl : c = 7 := by omega
      simp (disch := omega) only [F_X2_goTo_J25, pq_rd, h4, Option.bind_some, show (7 : Int32) ≤ nI 7 by decide, ↓reduceIte]
      exact ⟨_, _, rfl, rfl, rfl, rfl, h3, ⟨7, hc, h4⟩, rfl⟩
theorem pq_go {fu f c : Nat} {P : Nat → Int32 → Prop} {code : Int32} {y : pqYT} {w : pqWT} (h : pqIn P f c y w ∨ pqOv f y w) (hP : ∀ k, f < k → P k code) (hc : c ≤ 6) (hf3 : f < 300) (hf : 4096 ≤ fu) : ∃ y2 w2, F_X2_goTo fu y.1 y.2.1 y.2.2.1 y.2.2.2.1 y.2.2.2.2.1 y.2.2.2.2.2 (nI f) code = some y2 ∧ F_X4_laysWay fu w.1 w.2.1 w.2.2.1 w.2.2.2.1 w.2.2.2.2.1 w.2.2.2.2.2 (nI f) code = some w2 ∧ (pqIn P f (c + 1) y2 w2 ∨ pqOv f y2 w2) := by
  rcases h with h | h
  · obtain ⟨y1, y2, metC, slots, outs, out⟩ := y
    obtain ⟨w1, metR, table, ways, wof, into⟩ := w
    obtain ⟨m, o, tg, h1, h2, h3, h4, hS⟩ := h
    simp only at h1 h2 h3 h4 hS ⊢
    subst h1 h2 h3
    obtain ⟨hm, hfm, hH1, hH2, hE, hPm⟩ := hS
    obtain ⟨e1, e2, e3, e4, e5, e6, e7, e8⟩ := id hE
    obtain ⟨a, ha, a1, a2, a3⟩ := pq_slotOf (fu := fu) hH1 hm hf code
    obtain ⟨d, hd, d1, d2⟩ := pq_metAt (fu := fu) (waysOf := wof) (into := into) hH2 hm hf code
    have hA : (pqH1 code + a) % 512 < 512 := Nat.mod_lt _ (by omega)
    have hof : outs f = nI (o f) := e2 f (by omega)
    have hwf : wof f = nI (o f) := e3 f (by omega)
    have hO : o f < 7 := by omega
    rcases a3 with ⟨z1, z2⟩ | ⟨k, hk, z1, z2⟩
    · -- a new code
      rcases d2 with ⟨b1, b2, b3⟩ | ⟨k, hk, b1, _⟩
      · have hlay : F_X4_laysWay fu (nI m) metR table ways wof into (nI f) code = some (nI (m + 1), upd metR m code, upd table ((pqH2 code + d) % 1024) (nI (m + 1)), upd ways (7 * f + o f) (nI m), upd (upd wof m 0) f (nI (o f + 1)), upd (upd into m 0) m (upd into m 0 m + 1)) := by
          unfold F_X4_laysWay
          simp (disch := omega) only [pq_300n hm, ↓reduceIte, b3, Option.bind_some, pq_rd, pk_un, hwf, pq_7f, pq_wr, nI_1]
        rw [hlay]
        unfold F_X2_goTo
        rw [a1, Option.bind_some, pq_rd hA (by omega), Option.bind_some, if_pos z1]
        rcases Nat.lt_or_ge m 300 with c3 | c3
        · simp (disch := omega) only [F_X2_meet, pq_300l c3, ↓reduceIte, pq_wr, pq_wr hA, Option.bind_some, pq_10, nI_1]
          rw [pq_J25 (v := nI (m + 1)) hf3 hA hof hO pk_us, nI_pred]
          refine ⟨_, _, rfl, rfl, Or.inl ⟨m + 1, _, _, rfl, rfl, rfl, ?_, by omega, by omega, pqHt_put hH1 (by omega) ha z1 a2 z2, pqHt_put hH2 (by omega) hd b1 d1 b2, pq_edge (v := m) hE (by omega) (by omega) (by omega) (by omega) hO (fun k hk => ?_) (fun g hg => pk_un (by omega)) (fun g h1 h2 => ?_) (fun g hg => pk_un (by omega)) (fun g h1 h2 => ?_), fun k hk => ?_⟩⟩
          · rw [pqO2_s]
            omega
          · show upd metC m code k = upd metR m code k
            by_cases c4 : k = m
            · rw [c4, pk_us, pk_us]
            · rw [pk_un c4, pk_un c4]
              exact e1 k (by omega)
          · obtain rfl : g = m := by omega
            exact pk_us
          · obtain rfl : g = m := by omega
            exact pk_us
          · show P k (upd metC m code k)
            by_cases c4 : k = m
            · rw [c4, pk_us]
              exact hP m (by omega)
            · rw [pk_un c4]
              exact hPm k (by omega)
        · obtain rfl : m = 300 := by omega
          simp only [F_X2_meet, show ¬ nI 300 < (300 : Int32) by decide, ↓reduceIte, Option.bind_some]
          exact ⟨_, _, rfl, rfl, Or.inr ⟨rfl, rfl, hH1, ⟨o f, by omega, hof⟩, rfl⟩⟩
      · exact absurd (by rw [e1 k hk]; exact b1) (z2 k hk)
    · -- one that is met
      rcases d2 with ⟨b1, b2, b3⟩ | ⟨k2, hk2, b1, b3⟩
      · exact absurd (by rw [← e1 k hk]; exact z2) (b2 k hk)
      · have hkk : k2 = k := by
          rcases Nat.lt_trichotomy k2 k with q | q | q
          · exact absurd (by rw [e1 k2 hk2, b1, z2]) (hH1.2.2.2.2.2 k2 k q hk)
          · exact q
          · exact absurd (by rw [e1 k2 hk2, b1, z2]) (hH1.2.2.2.2.2 k k2 q hk2)
        subst hkk
        have hlay : F_X4_laysWay fu (nI m) metR table ways wof into (nI f) code = some (nI m, metR, table, upd ways (7 * f + o f) (nI k2), upd wof f (nI (o f + 1)), upd into k2 (into k2 + 1)) := by
          unfold F_X4_laysWay
          simp (disch := omega) only [pq_300n hm, ↓reduceIte, b3, Option.bind_some, pq_rd, hwf, pq_7f, pq_wr, nI_1]
        rw [hlay]
        unfold F_X2_goTo
        rw [a1, Option.bind_some, pq_rd hA (by omega), Option.bind_some, if_neg (by rw [z1]; exact nI_ne0 (by omega) (by omega)), pq_J25 (v := nI (k2 + 1)) hf3 hA hof hO z1, nI_pred]
        refine ⟨_, _, rfl, rfl, Or.inl ⟨m, _, _, rfl, rfl, rfl, ?_, hm, hfm, hH1, hH2, pq_edge (v := k2) hE (Nat.le_refl _) (by omega) (by omega) (by omega) hO (fun k hk => e1 k hk) (fun g _ => rfl) (fun g h1 h2 => absurd h2 (by omega)) (fun g _ => rfl) (fun g h1 h2 => absurd h2 (by omega)), hPm⟩⟩
        rw [pqO2_s]
        omega
  · obtain ⟨y2, w2, g1, g2, g3⟩ := pq_goOv (fu := fu) (code := code) h hf3 hf
    exact ⟨y2, w2, g1, g2, Or.inr g3⟩
